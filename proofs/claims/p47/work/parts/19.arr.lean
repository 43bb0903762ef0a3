noncomputable section
/-! arrays -/
section
variable {p : Program} {l : Launch} {e : Env} {R : Room} {s : State} {m : MethodId} {args : Array Value} {below : List Frame} {meth : Method} {c : Code} {Q : State → Prop}
variable {cc : ByteArray} {own : String} {nL : Nat} {A : Nat → Prop} {D : va_G} {cl : List vw_C} {tys : List (ClassId × FieldType)} {Ts : List Cond} {b0 : Nat → Nat} {ad0 : List Nat} {cT : Nat → ClassId} {n0 : Nat} {v0 : Nat → Int}
variable {sc : String}

def ra_T (sc : String) (cT : Nat → ClassId) : List (ClassId × FieldType) := [(cT 0, .int), (cT 1, .byte), (cT 2, .boolean), (cT 3, .long), (cT 4, .object sc)]
def ra_ix (env : ra_N) (q : Nat × Int) (n : Nat) : Bool := let r := ra_rg env q; ra_leb 0 r.1 && ra_leb (r.2 + 1) n
theorem ra_clamp (y : Int32) : y.toNatClampNeg = y.toInt.toNat := rfl
theorem ra_ix_ok {v : Nat → Int} {env : ra_N} (hN : ra_cN v env) {q : Nat × Int} {y : Int32} (h : y.toInt = v q.1 + q.2) {n : Nat} (hi : ra_ix env q n = true) : vp_in y n ∧ (y.toNatClampNeg : Int) = y.toInt ∧ y.toNatClampNeg < n ∧ 0 ≤ (ra_rg env q).1 ∧ (ra_rg env q).1 ≤ y.toInt ∧ y.toInt ≤ (ra_rg env q).2 := by
  have h1 := ra_rg_ok hN h
  unfold ra_ix at hi
  dsimp only at hi
  rw [Bool.and_eq_true] at hi
  have g1 := ra_leb_le hi.1
  have g2 := ra_leb_le hi.2
  rw [ra_clamp]
  refine ⟨vp_in_iff.mpr ⟨by omega, by omega⟩, by omega, by omega, g1, h1.1, h1.2⟩
def ra_rgE (env : ra_N) (e : ra_E) : Option (Int × Int) := match e with
  | .inl (.inl q) => some (ra_rg env q)
  | .inl (.inr _) => none
  | .inr r => some r
theorem ra_rgE_ok {v : Nat → Int} {env : ra_N} {ads : List Nat} (hN : ra_cN v env) {e : ra_E} {r : Int × Int} {y : Int32} (h : ra_rgE env e = some r) (hc : ra_cE env.length v ads b0 e (.int y)) : r.1 ≤ y.toInt ∧ y.toInt ≤ r.2 := by
  rcases e with (q | a) | q
  · cases h
    obtain ⟨_, z, hz, k2⟩ := hc
    cases hz
    exact ra_rg_ok hN k2
  · cases h
  · cases h
    obtain ⟨z, hz, k1, k2⟩ := hc
    cases hz
    exact ⟨k1, k2⟩
def ra_min (a b : Int) : Int := if ra_leb a b then a else b
def ra_max (a b : Int) : Int := if ra_leb a b then b else a
theorem ra_min_le (a b : Int) : ra_min a b ≤ a ∧ ra_min a b ≤ b := by
  unfold ra_min
  split
  · rename_i h
    have := ra_leb_le h
    omega
  · rename_i h
    have := ra_leb_lt h
    omega
theorem ra_max_le (a b : Int) : a ≤ ra_max a b ∧ b ≤ ra_max a b := by
  unfold ra_max
  split
  · rename_i h
    have := ra_leb_le h
    omega
  · rename_i h
    have := ra_leb_lt h
    omega
def ra_hul (env : ra_N) : List ra_E → Option (Int × Int)
  | [] => some (1, 0)
  | e :: es => match ra_rgE env e with
    | none => none
    | some a => match ra_hul env es with
      | none => none
      | some b => some (match es with
        | [] => a
        | _ :: _ => (ra_min a.1 b.1, ra_max a.2 b.2))
theorem ra_hul_ok {env : ra_N} : ∀ {es : List ra_E} {r : Int × Int}, ra_hul env es = some r → ∀ e ∈ es, ∃ a, ra_rgE env e = some a ∧ r.1 ≤ a.1 ∧ a.2 ≤ r.2
  | [], _, _, e, h => by simp at h
  | e0 :: es, r, h, e, he => by
    unfold ra_hul at h
    split at h
    · cases h
    · rename_i a ha
      split at h
      · cases h
      · rename_i b hb
        cases h
        cases es with
        | nil =>
          rcases List.mem_cons.mp he with h1 | h1
          · subst h1
            exact ⟨a, ha, Int.le_refl _, Int.le_refl _⟩
          · simp at h1
        | cons e1 es =>
          have m1 := ra_min_le a.1 b.1
          have m2 := ra_max_le a.2 b.2
          rcases List.mem_cons.mp he with h1 | h1
          · subst h1
            exact ⟨a, ha, m1.1, m2.1⟩
          · obtain ⟨c, k1, k2, k3⟩ := ra_hul_ok hb e h1
            exact ⟨c, k1, by show ra_min a.1 b.1 ≤ _; omega, by show _ ≤ ra_max a.2 b.2; omega⟩
def ra_rde (env : ra_N) (es : List ra_E) (q : Nat × Int) : Option (ra_N × ra_V × List ra_E) :=
  ra_gd (ra_ix env q es.length) (let k := ra_nm env q
  if k.1 = 0 then (match ra_nth es k.2.toNat with
    | some (.inl a) => some (env, a, es)
    | some (.inr r) => some (ra_ap env [(r.1, r.2)], .inl (ra_ln env, 0), ra_st es (.inl (.inl (ra_ln env, 0))) k.2.toNat)
    | none => none)
  else (let r := ra_rg env q; match ra_hul env ((es.drop r.1.toNat).take (r.2.toNat + 1 - r.1.toNat)) with
    | some b => some (ra_ap env [(b.1, b.2)], .inl (ra_ln env, 0), es)
    | none => none))
theorem ra_fresh {v : Nat → Int} {env : ra_N} (hN : ra_cN v env) {lo hi : Int} {y : Int32} (h1 : lo ≤ y.toInt) (h2 : y.toInt ≤ hi) : ∃ v' : Nat → Int, (∀ i, i < env.length → v' i = v i) ∧ ra_cN v' (env ++ [(lo, hi)]) ∧ ∀ ads : List Nat, ra_cV (env ++ [(lo, hi)]).length v' ads b0 (.inl (env.length, 0)) (.int y) := by
  have h0 := ra_fr_ok hN h1 h2
  rw [ra_fr_eq] at h0
  obtain ⟨k1, k2, v', k3, k4, k5⟩ := h0
  exact ⟨v', k3, k4, fun ads => ⟨k2, y, rfl, k5⟩⟩
theorem ra_rde_ok {v : Nat → Int} {env : ra_N} {ads : List Nat} (hN : ra_cN v env) {es : List ra_E} {q : Nat × Int} {y : Int32} (hq : q.1 < env.length) (hy : y.toInt = v q.1 + q.2) {f : Nat → Int32} (hf : ∀ (j : Nat) (x : ra_E), es[j]? = some x → ra_cE env.length v ads b0 x (.int (f j))) {out : ra_N × ra_V × List ra_E} (h : ra_rde env es q = some out) :
    vp_in y es.length ∧ env.length ≤ out.1.length ∧ ∃ v' : Nat → Int, (∀ i, i < env.length → v' i = v i) ∧ ra_cN v' out.1 ∧ ra_cV out.1.length v' ads b0 out.2.1 (.int (f y.toNatClampNeg)) ∧ out.2.2.length = es.length ∧ ∀ (j : Nat) (x : ra_E), out.2.2[j]? = some x → ra_cE out.1.length v' ads b0 x (.int (f j)) := by
  unfold ra_rde at h
  simp only [ra_nth_eq, ra_st_eq, ra_ap_eq, ra_ln_eq] at h
  obtain ⟨h1, h⟩ := ra_gd_ok h
  obtain ⟨i1, i2, i3, i4, i5, i6⟩ := ra_ix_ok hN hy h1
  refine ⟨i1, ?_⟩
  have hk := ra_nm_ok hN hq hy
  try dsimp only at h
  split at h
  · rename_i hk0
    have e0 : y.toInt = (ra_nm env q).2 := by rw [hk.2, hk0, hN.2.1]; omega
    have e1 : (ra_nm env q).2.toNat = y.toNatClampNeg := by omega
    rw [e1] at h
    split at h
    · rename_i a ha
      cases h
      exact ⟨Nat.le_refl _, v, fun _ _ => rfl, hN, hf _ _ ha, rfl, hf⟩
    · rename_i r hr
      cases h
      obtain ⟨z, hz, k1, k2⟩ := hf _ _ hr
      cases hz
      obtain ⟨v', n1, n2, n3⟩ := ra_fresh (b0 := b0) hN k1 k2
      refine ⟨by simp, v', n1, n2, n3 _, by simp, fun j x hx => ?_⟩
      rw [List.getElem?_set] at hx
      split at hx
      · rename_i hj
        subst hj
        try rw [if_pos i3] at hx
        cases hx
        exact n3 ads
      · exact ra_cE_ext (by simp) n1 (fun _ _ z => z) (hf j x hx)
    · cases h
  · split at h
    · rename_i b hb
      cases h
      have hl : y.toNatClampNeg < es.length := i3
      have hg : es[y.toNatClampNeg]? = some es[y.toNatClampNeg] := List.getElem?_eq_getElem hl
      have hm : es[y.toNatClampNeg] ∈ (es.drop (ra_rg env q).1.toNat).take ((ra_rg env q).2.toNat + 1 - (ra_rg env q).1.toNat) := by
        apply List.mem_of_getElem? (i := y.toNatClampNeg - (ra_rg env q).1.toNat)
        rw [List.getElem?_take, if_pos (by omega), List.getElem?_drop, show (ra_rg env q).1.toNat + (y.toNatClampNeg - (ra_rg env q).1.toNat) = y.toNatClampNeg by omega]
        exact hg
      obtain ⟨a, a1, a2, a3⟩ := ra_hul_ok hb _ hm
      have hz := ra_rgE_ok hN a1 (hf _ _ hg)
      obtain ⟨v', n1, n2, n3⟩ := ra_fresh (b0 := b0) (lo := b.1) (hi := b.2) (y := f y.toNatClampNeg) hN (by omega) (by omega)
      exact ⟨by simp, v', n1, n2, n3 _, rfl, fun j x hx => ra_cE_ext (by simp) n1 (fun _ _ z => z) (hf j x hx)⟩
    · cases h
/-- a store at one of some places -/
def ra_wk (env : ra_N) (lo hi : Int) : Nat → Nat → List ra_E → Option (List ra_E)
  | _, _, [] => some []
  | 0, 0, es => some es
  | 0, c + 1, e :: es => match ra_rgE env e with
    | none => none
    | some r => match ra_wk env lo hi 0 c es with
      | none => none
      | some es' => some (.inr (ra_min r.1 lo, ra_max r.2 hi) :: es')
  | a + 1, c, e :: es => match ra_wk env lo hi a c es with
    | none => none
    | some es' => some (e :: es')
theorem ra_wk_ok {v : Nat → Int} {env : ra_N} {ads : List Nat} (hN : ra_cN v env) {lo hi : Int} {z : Int32} (h1 : lo ≤ z.toInt) (h2 : z.toInt ≤ hi) : ∀ {es es' : List ra_E} {a c : Nat} {f : Nat → Int32}, ra_wk env lo hi a c es = some es' → (∀ (j : Nat) (x : ra_E), es[j]? = some x → ra_cE env.length v ads b0 x (.int (f j))) → es'.length = es.length ∧ ∀ (j : Nat) (x : ra_E), es'[j]? = some x → ra_cE env.length v ads b0 x (.int (f j)) ∧ (a ≤ j → j < a + c → ra_cE env.length v ads b0 x (.int z))
  | [], es', a, c, f, h, hf => by
    simp [ra_wk] at h
    subst h
    exact ⟨rfl, fun j x hx => by simp at hx⟩
  | e :: es, es', 0, 0, f, h, hf => by
    simp [ra_wk] at h
    subst h
    exact ⟨rfl, fun j x hx => ⟨hf j x hx, fun _ q => by omega⟩⟩
  | e :: es, es', 0, c + 1, f, h, hf => by
    unfold ra_wk at h
    split at h
    · cases h
    · rename_i r hr
      split at h
      · cases h
      · rename_i es1 he
        cases h
        have ih := ra_wk_ok hN h1 h2 (f := fun j => f (j + 1)) he (fun j x hx => hf (j + 1) x (by simpa using hx))
        refine ⟨by simp [ih.1], fun j x hx => ?_⟩
        cases j with
        | zero =>
          simp at hx
          subst hx
          have h3 := ra_rgE_ok hN hr (hf 0 e (by simp))
          have m1 := ra_min_le r.1 lo
          have m2 := ra_max_le r.2 hi
          exact ⟨⟨f 0, rfl, by show ra_min r.1 lo ≤ _; omega, by show _ ≤ ra_max r.2 hi; omega⟩, fun _ _ => ⟨z, rfl, by show ra_min r.1 lo ≤ _; omega, by show _ ≤ ra_max r.2 hi; omega⟩⟩
        | succ j =>
          simp at hx
          have := ih.2 j x hx
          exact ⟨this.1, fun _ q => this.2 (by omega) (by omega)⟩
  | e :: es, es', a + 1, c, f, h, hf => by
    unfold ra_wk at h
    split at h
    · cases h
    · rename_i es1 he
      cases h
      have ih := ra_wk_ok hN h1 h2 (f := fun j => f (j + 1)) he (fun j x hx => hf (j + 1) x (by simpa using hx))
      refine ⟨by simp [ih.1], fun j x hx => ?_⟩
      cases j with
      | zero =>
        simp at hx
        subst hx
        exact ⟨hf 0 e (by simp), fun q _ => by omega⟩
      | succ j =>
        simp at hx
        have := ih.2 j x hx
        exact ⟨this.1, fun q1 q2 => this.2 (by omega) (by omega)⟩
def ra_wre (env : ra_N) (es : List ra_E) (q qx : Nat × Int) : Option (List ra_E) :=
  ra_gd (ra_ix env q es.length) (let k := ra_nm env q
  if k.1 = 0 then some (es.set k.2.toNat (.inl (.inl qx)))
  else (let r := ra_rg env q; let b := ra_rg env qx; ra_wk env b.1 b.2 r.1.toNat (r.2.toNat + 1 - r.1.toNat) es))
theorem ra_wre_ok {v : Nat → Int} {env : ra_N} {ads : List Nat} (hN : ra_cN v env) {es es' : List ra_E} {q qx : Nat × Int} {y z : Int32} (hq : q.1 < env.length) (hy : y.toInt = v q.1 + q.2) (hqx : qx.1 < env.length) (hz : z.toInt = v qx.1 + qx.2) {f : Nat → Int32} (hf : ∀ (j : Nat) (x : ra_E), es[j]? = some x → ra_cE env.length v ads b0 x (.int (f j))) (h : ra_wre env es q qx = some es') :
    vp_in y es.length ∧ es'.length = es.length ∧ ∀ (j : Nat) (x : ra_E), es'[j]? = some x → ra_cE env.length v ads b0 x (.int (upd f y.toNatClampNeg z j)) := by
  unfold ra_wre at h
  obtain ⟨h1, h⟩ := ra_gd_ok h
  obtain ⟨i1, i2, i3, i4, i5, i6⟩ := ra_ix_ok hN hy h1
  refine ⟨i1, ?_⟩
  have hk := ra_nm_ok hN hq hy
  dsimp only at h
  split at h
  · rename_i hk0
    have e0 : y.toInt = (ra_nm env q).2 := by rw [hk.2, hk0, hN.2.1]; omega
    have e1 : (ra_nm env q).2.toNat = y.toNatClampNeg := by omega
    rw [e1] at h
    cases h
    refine ⟨by simp, fun j x hx => ?_⟩
    rw [List.getElem?_set] at hx
    unfold upd
    split at hx
    · rename_i hj
      subst hj
      try rw [if_pos i3] at hx
      cases hx
      rw [if_pos rfl]
      exact ⟨hqx, z, rfl, hz⟩
    · rename_i hj
      rw [if_neg (fun q => hj q.symm)]
      exact hf j x hx
  · have hb := ra_rg_ok hN hz
    obtain ⟨w1, w2⟩ := ra_wk_ok hN hb.1 hb.2 h hf
    refine ⟨w1, fun j x hx => ?_⟩
    have := w2 j x hx
    unfold upd
    split
    · rename_i hj
      subst hj
      exact this.2 (by omega) (by omega)
    · exact this.1
end
end
