noncomputable section
/-! rows copied by the library -/
section
variable {p : Program} {l : Launch} {e : Env} {R : Room} {s : State} {m : MethodId} {args : Array Value} {below : List Frame} {meth : Method} {c : Code} {Q : State → Prop}
variable {cc : ByteArray} {own : String} {nL : Nat} {A : Nat → Prop} {D : va_G} {cl : List vw_C} {tys : List (ClassId × FieldType)} {Ts : List Cond} {b0 : Nat → Nat} {ad0 : List Nat} {cT : Nat → ClassId} {n0 : Nat} {v0 : Nat → Int}
variable {sc : String}

def ra_cats (st : List ra_V) : Nat := (st.map (fun a => if ra_two a then 2 else 1)).sum
theorem ra_cats_ok {n : Nat} {v : Nat → Int} {ads : List Nat} : ∀ {st : List ra_V} {stv : List Value}, ra_a2 (ra_cV n v ads b0) st stv → (stv.map fun v => v.category).sum = ra_cats st
  | [], [], _ => rfl
  | a :: st, x :: stv, h => by
    have ih := ra_cats_ok h.2
    have h1 := ra_two_ok h.1
    unfold ra_cats at ih ⊢
    simp only [List.map_cons, List.sum_cons]
    rw [ih]
    congr 1
    rcases lv_cat x with h2 | h2
    · rw [h2] at h1 ⊢
      rw [← h1]
      rfl
    · rw [h2] at h1 ⊢
      rw [← h1]
      rfl
  | [], _ :: _, h => h.elim
  | _ :: _, [], h => h.elim
theorem ra_wk_any {v : Nat → Int} {env : ra_N} {ads : List Nat} (hN : ra_cN v env) {lo hi : Int} : ∀ {es es' : List ra_E} {a c : Nat} {f : Nat → Int32}, ra_wk env lo hi a c es = some es' → (∀ (j : Nat) (x : ra_E), es[j]? = some x → ra_cE env.length v ads b0 x (.int (f j))) → es'.length = es.length ∧ ∀ (j : Nat) (x : ra_E), es'[j]? = some x → ra_cE env.length v ads b0 x (.int (f j))
  | [], es', a, c, f, h, hf => by
    simp [ra_wk] at h
    subst h
    exact ⟨rfl, fun j x hx => by simp at hx⟩
  | e :: es, es', 0, 0, f, h, hf => by
    simp [ra_wk] at h
    subst h
    exact ⟨rfl, hf⟩
  | e :: es, es', 0, c + 1, f, h, hf => by
    unfold ra_wk at h
    split at h
    · cases h
    · rename_i r hr
      split at h
      · cases h
      · rename_i es1 he
        cases h
        have ih := ra_wk_any hN (f := fun j => f (j + 1)) he (fun j x hx => hf (j + 1) x (by simpa using hx))
        refine ⟨by simp [ih.1], fun j x hx => ?_⟩
        cases j with
        | zero =>
          simp at hx
          subst hx
          have h3 := ra_rgE_ok hN hr (hf 0 e (by simp))
          have m1 := ra_min_le r.1 lo
          have m2 := ra_max_le r.2 hi
          exact ⟨f 0, rfl, by show ra_min r.1 lo ≤ _; omega, by show _ ≤ ra_max r.2 hi; omega⟩
        | succ j =>
          simp at hx
          exact ih.2 j x hx
  | e :: es, es', a + 1, c, f, h, hf => by
    unfold ra_wk at h
    split at h
    · cases h
    · rename_i es1 he
      cases h
      have ih := ra_wk_any hN (f := fun j => f (j + 1)) he (fun j x hx => hf (j + 1) x (by simpa using hx))
      refine ⟨by simp [ih.1], fun j x hx => ?_⟩
      cases j with
      | zero =>
        simp at hx
        subst hx
        exact hf 0 e (by simp)
      | succ j =>
        simp at hx
        exact ih.2 j x hx
def ra_hulC (env : ra_N) (c : ra_C) : Option (Nat × Int × Int) := match c with
  | .inr (.inl o) => if o.1 = 0 then (match ra_hul env o.2 with
    | some b => some (o.2.length, b)
    | none => none) else none
  | .inr (.inr (.inl o)) => if o.1 = 0 then some (o.2.1, o.2.2.1, o.2.2.2) else none
  | _ => none
theorem ra_hulC_ok {v : Nat → Int} {env : ra_N} {ads : List Nat} (hN : ra_cN v env) {c : ra_C} {r : Nat × Int × Int} (h : ra_hulC env c = some r) {x : va_E} (hc : ra_cC env.length v ads b0 cT c x) : ∃ f : Nat → Int32, x = .inl (cT 0, r.1, .inl f) ∧ ∀ j, j < r.1 → r.2.1 ≤ (f j).toInt ∧ (f j).toInt ≤ r.2.2 := by
  unfold ra_hulC at h
  split at h
  · split at h
    · rename_i o h0
      split at h
      · rename_i b hb
        cases h
        rcases hc with ⟨-, f, e1, e2⟩ | ⟨h1, -⟩
        · refine ⟨f, by rw [e1, h0], fun j hj => ?_⟩
          have hg : o.2[j]? = some o.2[j] := List.getElem?_eq_getElem hj
          obtain ⟨a, a1, a2, a3⟩ := ra_hul_ok hb _ (List.getElem_mem hj)
          have := ra_rgE_ok hN a1 (e2 _ _ hg)
          dsimp only
          omega
        · omega
      · cases h
    · cases h
  · split at h
    · rename_i o h0
      cases h
      rcases hc with ⟨-, f, e1, e2⟩ | ⟨h1, -⟩
      · exact ⟨f, by rw [e1, h0], e2⟩
      · omega
    · cases h
  · cases h
/-- what the copied row is behind it -/
def ra_cpd (env : ra_N) (src dst : ra_C) (sp dp n : Nat × Int) : Option ra_C := match ra_hulC env src with
  | none => none
  | some b => match dst with
    | .inr (.inl o) => ra_gd (o.1 == 0 && (ra_leb 0 (ra_rg env sp).1 && (ra_leb 0 (ra_rg env dp).1 && (ra_leb 0 (ra_rg env n).1 && (ra_leb ((ra_rg env sp).2 + (ra_rg env n).2) b.1 && ra_leb ((ra_rg env dp).2 + (ra_rg env n).2) o.2.length))))) (match (ra_nm env sp).1 + (ra_nm env dp).1 + (ra_nm env n).1, src with
      | 0, .inr (.inl q) => some (.inr (.inl (0, o.2.take (ra_nm env dp).2.toNat ++ ((q.2.drop (ra_nm env sp).2.toNat).take (ra_nm env n).2.toNat ++ o.2.drop ((ra_nm env dp).2.toNat + (ra_nm env n).2.toNat)))))
      | _, _ => match ra_wk env b.2.1 b.2.2 0 o.2.length o.2 with
        | some es => some (.inr (.inl (0, es)))
        | none => none)
    | .inr (.inr (.inl o)) => ra_gd (o.1 == 0 && (ra_leb 0 (ra_rg env sp).1 && (ra_leb 0 (ra_rg env dp).1 && (ra_leb 0 (ra_rg env n).1 && (ra_leb ((ra_rg env sp).2 + (ra_rg env n).2) b.1 && ra_leb ((ra_rg env dp).2 + (ra_rg env n).2) o.2.1))))) (some (.inr (.inr (.inl (0, o.2.1, ra_min o.2.2.1 b.2.1, ra_max o.2.2.2 b.2.2)))))
    | _ => none
theorem ra_cpd_ok {v : Nat → Int} {env : ra_N} {ads : List Nat} (hN : ra_cN v env) {src dst out : ra_C} {qs qd qn : Nat × Int} {sp dp n : Int32} (s1 : qs.1 < env.length) (s2 : sp.toInt = v qs.1 + qs.2) (d1 : qd.1 < env.length) (d2 : dp.toInt = v qd.1 + qd.2) (n1 : qn.1 < env.length) (n2 : n.toInt = v qn.1 + qn.2) (h : ra_cpd env src dst qs qd qn = some out) {x y : va_E} (hs : ra_cC env.length v ads b0 cT src x) (hd : ra_cC env.length v ads b0 cT dst y) :
    ∃ (f g : Nat → Int32) (k1 k2 : Nat), x = .inl (cT 0, k1, .inl f) ∧ y = .inl (cT 0, k2, .inl g) ∧ ¬ sp < 0 ∧ ¬ dp < 0 ∧ ¬ n < 0 ∧ sp.toNatClampNeg + n.toNatClampNeg ≤ k1 ∧ dp.toNatClampNeg + n.toNatClampNeg ≤ k2 ∧ ra_cC env.length v ads b0 cT out (.inl (cT 0, k2, .inl (va_cpy f g sp.toNatClampNeg dp.toNatClampNeg n.toNatClampNeg))) := by
  have rs := ra_rg_ok hN s2
  have rd := ra_rg_ok hN d2
  have rn := ra_rg_ok hN n2
  have ms := ra_nm_ok hN s1 s2
  have md := ra_nm_ok hN d1 d2
  have mn := ra_nm_ok hN n1 n2
  have neg : ∀ z : Int32, 0 ≤ z.toInt → ¬ z < 0 := fun z hz q => by
    have := Int32.lt_iff_toInt_lt.mp q
    have e0 : (0 : Int32).toInt = 0 := rfl
    omega
  have cs := ra_clamp sp
  have cd := ra_clamp dp
  have cn := ra_clamp n
  unfold ra_cpd at h
  split at h
  · cases h
  · rename_i b hb
    obtain ⟨f, f1, f2⟩ := ra_hulC_ok hN hb hs
    split at h
    · rename_i o
      have hq0 := ra_gd_ok h; clear h; obtain ⟨h1, h⟩ := hq0
      rw [Bool.and_eq_true, Bool.and_eq_true, Bool.and_eq_true, Bool.and_eq_true, Bool.and_eq_true, beq_iff_eq] at h1
      obtain ⟨h1, h2, h3, h4, h5, h6⟩ := h1
      have h2 := ra_leb_le h2
      have h3 := ra_leb_le h3
      have h4 := ra_leb_le h4
      have h5 := ra_leb_le h5
      have h6 := ra_leb_le h6
      rcases hd with ⟨-, g, g1, g2⟩ | ⟨h7, -⟩
      · refine ⟨f, g, b.1, o.2.length, f1, by rw [g1, h1], neg _ (by omega), neg _ (by omega), neg _ (by omega), by omega, by omega, ?_⟩
        split at h
        · rename_i q hz
          cases h
          have z1 : (ra_nm env qs).1 = 0 := by omega
          have z2 : (ra_nm env qd).1 = 0 := by omega
          have z3 : (ra_nm env qn).1 = 0 := by omega
          rw [z1, hN.2.1] at ms
          rw [z2, hN.2.1] at md
          rw [z3, hN.2.1] at mn
          have es : (ra_nm env qs).2.toNat = sp.toNatClampNeg := by omega
          have ed : (ra_nm env qd).2.toNat = dp.toNatClampNeg := by omega
          have en : (ra_nm env qn).2.toNat = n.toNatClampNeg := by omega
          rw [es, ed, en]
          rcases hs with ⟨-, f', e1, e2⟩ | ⟨_, h8⟩
          · rw [f1] at e1
            have hlen : b.1 = q.2.length := by
              injection e1 with e1
              injection e1 with _ e1
              injection e1
            have hff : f = f' := by
              injection e1 with e1
              injection e1 with _ e1
              injection e1 with _ e1
              injection e1
            subst hff
            have l1 : dp.toNatClampNeg ≤ o.2.length := by omega
            have l2 : sp.toNatClampNeg + n.toNatClampNeg ≤ q.2.length := by omega
            refine Or.inl ⟨(by decide : (0 : Nat) < 3), va_cpy f g sp.toNatClampNeg dp.toNatClampNeg n.toNatClampNeg, ?_, fun j w hw => ?_⟩
            · dsimp only
              rw [List.length_append, List.length_append, List.length_take, List.length_take, List.length_drop, List.length_drop]
              have : min dp.toNatClampNeg o.2.length + (min n.toNatClampNeg (q.2.length - sp.toNatClampNeg) + (o.2.length - (dp.toNatClampNeg + n.toNatClampNeg))) = o.2.length := by omega
              rw [this]
            · dsimp only at hw
              unfold va_cpy
              by_cases j1 : j < dp.toNatClampNeg
              · rw [List.getElem?_append_left (by rw [List.length_take]; omega), List.getElem?_take, if_pos j1] at hw
                rw [if_neg (by omega)]
                exact g2 j w hw
              · rw [List.getElem?_append_right (by rw [List.length_take]; omega)] at hw
                rw [List.length_take, Nat.min_eq_left l1] at hw
                by_cases j2 : j < dp.toNatClampNeg + n.toNatClampNeg
                · rw [List.getElem?_append_left (by rw [List.length_take, List.length_drop]; omega), List.getElem?_take, if_pos (by omega), List.getElem?_drop] at hw
                  rw [if_pos ⟨by omega, j2⟩]
                  exact e2 _ w hw
                · rw [List.getElem?_append_right (by rw [List.length_take, List.length_drop]; omega), List.length_take, List.length_drop, List.getElem?_drop] at hw
                  rw [if_neg (by omega)]
                  have : dp.toNatClampNeg + n.toNatClampNeg + (j - dp.toNatClampNeg - min n.toNatClampNeg (q.2.length - sp.toNatClampNeg)) = j := by omega
                  rw [this] at hw
                  exact g2 j w hw
          · obtain ⟨g', h9, -⟩ := h8
            rw [f1] at h9
            injection h9 with h9
            injection h9 with _ h9
            injection h9 with _ h9
            cases h9
        · split at h
          · rename_i es hes
            cases h
            by_cases hb0 : 0 < b.1
            · have hl := fun (z : Int32) (q1 : b.2.1 ≤ z.toInt) (q2 : z.toInt ≤ b.2.2) => ra_wk_ok (ads := ads) (b0 := b0) hN q1 q2 hes g2
              have l0 := (hl (f 0) (f2 0 hb0).1 (f2 0 hb0).2).1
              refine Or.inl ⟨(by decide : (0 : Nat) < 3), _, by rw [l0], fun j w hw => ?_⟩
              dsimp only at hw
              unfold va_cpy
              split
              · rename_i hj
                have hf := f2 (sp.toNatClampNeg + (j - dp.toNatClampNeg)) (by omega)
                exact ((hl _ hf.1 hf.2).2 j w hw).2 (Nat.zero_le _) (by omega)
              · exact ((hl (f 0) (f2 0 hb0).1 (f2 0 hb0).2).2 j w hw).1
            · have hn0 : n.toNatClampNeg = 0 := by omega
              have hz := ra_wk_any hN hes g2
              refine Or.inl ⟨(by decide : (0 : Nat) < 3), _, by rw [hz.1], fun j w hw => ?_⟩
              unfold va_cpy
              rw [if_neg (by omega)]
              exact hz.2 j w hw
          · cases h
      · omega
    · rename_i o
      have hq0 := ra_gd_ok h; clear h; obtain ⟨h1, h⟩ := hq0
      rw [Bool.and_eq_true, Bool.and_eq_true, Bool.and_eq_true, Bool.and_eq_true, Bool.and_eq_true, beq_iff_eq] at h1
      obtain ⟨h1, h2, h3, h4, h5, h6⟩ := h1
      have h2 := ra_leb_le h2
      have h3 := ra_leb_le h3
      have h4 := ra_leb_le h4
      have h5 := ra_leb_le h5
      have h6 := ra_leb_le h6
      cases h
      rcases hd with ⟨-, g, g1, g2⟩ | ⟨h7, -⟩
      · refine ⟨f, g, b.1, o.2.1, f1, by rw [g1, h1], neg _ (by omega), neg _ (by omega), neg _ (by omega), by omega, by omega, Or.inl ⟨(by decide : (0 : Nat) < 3), _, rfl, fun j hj => ?_⟩⟩
        have m1 := ra_min_le o.2.2.1 b.2.1
        have m2 := ra_max_le o.2.2.2 b.2.2
        dsimp only
        unfold va_cpy
        split
        · rename_i hj2
          have hf := f2 (sp.toNatClampNeg + (j - dp.toNatClampNeg)) (by omega)
          omega
        · have hf := g2 j hj
          omega
      · omega
    · cases h
end
end
