noncomputable section
/-! what a call gives back, in the words of its caller -/
noncomputable def ra_tr (μ : List (Nat × Int)) (π : ra_Pi) (a : ra_V) : ra_V := match a with
  | .inl q => match ra_mg μ q.1 with
    | some r => .inl (r.1, r.2 + q.2)
    | none => .inl q
  | .inr (.inl i) => match ra_pg π.1 i with
    | some j => .inr (.inl j)
    | none => .inr (.inl i)
  | .inr (.inr (.inl 0)) => .inr (.inr (.inl 0))
  | .inr (.inr (.inl 1)) => .inr (.inr (.inl 1))
  | .inr (.inr (.inl (k + 2))) => match ra_bg (ra_bl π.2) (k + 2) with
    | some (.inr w) => .inr w
    | _ => .inr (.inr (.inl (k + 2)))
  | .inr (.inr (.inr s)) => match ra_mg μ s with
    | some r => if ra_eqb r.2 0 then .inr (.inr (.inr r.1)) else .inr (.inr (.inl 1))
    | none => .inr (.inr (.inl 1))
/-- the references out of the world are good -/
def ra_wok (n : Nat) (om : List ra_V) : Bool := om.all (fun w => match w with
  | .inl _ => true
  | .inr (.inl i) => Nat.blt i n
  | .inr (.inr (.inr _)) => false
  | .inr (.inr (.inl j)) => Nat.ble 2 j)
def ra_trE (μ : List (Nat × Int)) (π : ra_Pi) (e : ra_E) : ra_E := match e with
  | .inl a => .inl (ra_tr μ π a)
  | .inr q => .inr q
def ra_trC (μ : List (Nat × Int)) (π : ra_Pi) (c : ra_C) : ra_C := match c with
  | .inl o => .inl (o.1, ra_mp (ra_tr μ π) o.2)
  | .inr (.inl o) => .inr (.inl (o.1, ra_mp (ra_trE μ π) o.2))
  | .inr (.inr (.inl o)) => .inr (.inr (.inl o))
  | .inr (.inr (.inr o)) => .inr (.inr (.inr (o.1, o.2.1, o.2.2.1, o.2.2.2.map (fun q => match ra_mg μ q.1 with
    | some r => (r.1, r.2 + q.2)
    | none => q))))
theorem ra_tr_ok {n : Nat} {vc v : Nat → Int} {μ : List (Nat × Int)} {π : ra_Pi} {adsc ads : List Nat} {b0 bc : Nat → Nat} (hμ : ∀ (i : Nat) (r : Nat × Int), μ[i]? = some r → r.1 < n ∧ vc i = v r.1 + r.2) (hπ : ∀ (i r : Nat), adsc[i]? = some r → ∃ j, π.1[i]? = some j ∧ ads[j]? = some r) (hω : ∀ k, 2 ≤ k → ra_cV n v ads b0 (ra_tr μ π (.inr (.inr (.inl k)))) (.ref (bc k))) {a : ra_V} {x : Value} (h : ra_cV μ.length vc adsc bc a x) : ra_cV n v ads b0 (ra_tr μ π a) x := by
  rcases a with q | i | k | s
  · obtain ⟨h1, y, h2, h3⟩ := h
    have hr : μ[q.1]? = some μ[q.1] := List.getElem?_eq_getElem h1
    have h4 := hμ _ _ hr
    simp only [ra_tr, ra_bl_get, ra_mg_eq, ra_pg_eq, hr]
    exact ⟨h4.1, y, h2, by rw [h3, h4.2]; dsimp only; omega⟩
  · obtain ⟨r, h1, h2⟩ := h
    obtain ⟨j, h3, h4⟩ := hπ i r h1
    simp only [ra_tr, ra_bl_get, ra_mg_eq, ra_pg_eq, h3]
    exact ⟨r, h4, h2⟩
  · rcases h with ⟨h1, h2⟩ | ⟨h1, h2⟩ | ⟨h1, h2⟩
    · subst h1
      exact Or.inl ⟨rfl, h2⟩
    · subst h1
      exact Or.inr (Or.inl ⟨rfl, h2⟩)
    · rw [h2]
      exact hω k h1
  · obtain ⟨h1, y, h2, h3⟩ := h
    have hr : μ[s]? = some μ[s] := List.getElem?_eq_getElem h1
    have h4 := hμ _ _ hr
    simp only [ra_tr, ra_bl_get, ra_mg_eq, ra_pg_eq, hr]
    split
    · rename_i h5
      have h6 := ra_eqb_eq h5
      exact ⟨h4.1, y, h2, by rw [h3, h4.2, h6]; omega⟩
    · exact Or.inr (Or.inl ⟨rfl, y, h2⟩)
theorem ra_trE_ok {n : Nat} {vc v : Nat → Int} {μ : List (Nat × Int)} {π : ra_Pi} {adsc ads : List Nat} {b0 bc : Nat → Nat} (hμ : ∀ (i : Nat) (r : Nat × Int), μ[i]? = some r → r.1 < n ∧ vc i = v r.1 + r.2) (hπ : ∀ (i r : Nat), adsc[i]? = some r → ∃ j, π.1[i]? = some j ∧ ads[j]? = some r) (hω : ∀ k, 2 ≤ k → ra_cV n v ads b0 (ra_tr μ π (.inr (.inr (.inl k)))) (.ref (bc k))) {a : ra_E} {x : Value} (h : ra_cE μ.length vc adsc bc a x) : ra_cE n v ads b0 (ra_trE μ π a) x := by
  rcases a with a | q
  · exact ra_tr_ok (a := a) hμ hπ hω h
  · exact h
theorem ra_a2_map {α β : Type} {R R' : α → β → Prop} {f : α → α} (hR : ∀ a b, R a b → R' (f a) b) : ∀ {as : List α} {bs : List β}, ra_a2 R as bs → ra_a2 R' (as.map f) bs
  | [], [], _ => trivial
  | _ :: _, _ :: _, h => ⟨hR _ _ h.1, ra_a2_map hR h.2⟩
  | [], _ :: _, h => h.elim
  | _ :: _, [], h => h.elim
theorem ra_trC_ok {n : Nat} {vc v : Nat → Int} {μ : List (Nat × Int)} {π : ra_Pi} {adsc ads : List Nat} {b0 bc : Nat → Nat} {cT : Nat → ClassId} (hμ : ∀ (i : Nat) (r : Nat × Int), μ[i]? = some r → r.1 < n ∧ vc i = v r.1 + r.2) (hπ : ∀ (i r : Nat), adsc[i]? = some r → ∃ j, π.1[i]? = some j ∧ ads[j]? = some r) (hω : ∀ k, 2 ≤ k → ra_cV n v ads b0 (ra_tr μ π (.inr (.inr (.inl k)))) (.ref (bc k))) {c : ra_C} {x : va_E} (h : ra_cC μ.length vc adsc bc cT c x) : ra_cC n v ads b0 cT (ra_trC μ π c) x := by
  rcases c with o | o | o | o
  · obtain ⟨fs, h1, h2⟩ := h
    refine ⟨fs, h1, ?_⟩
    rw [ra_mp_eq]
    exact (ra_a2_map (R := ra_cV μ.length vc adsc bc) (fun a b q => ra_tr_ok hμ hπ hω q) h2)
  · rcases h with ⟨h0, f, h1, h2⟩ | ⟨h0, f, h1, h2⟩
    · refine Or.inl ⟨h0, f, by simpa [ra_trC, ra_mp_eq] using h1, fun j e he => ?_⟩
      simp only [ra_trC, ra_mp_eq, List.getElem?_map, Option.map_eq_some_iff] at he
      obtain ⟨e', g1, g2⟩ := he
      rw [← g2]
      exact ra_trE_ok hμ hπ hω (h2 j e' g1)
    · refine Or.inr ⟨h0, f, by simpa [ra_trC, ra_mp_eq] using h1, fun j e he => ?_⟩
      simp only [ra_trC, ra_mp_eq, List.getElem?_map, Option.map_eq_some_iff] at he
      obtain ⟨e', g1, g2⟩ := he
      rw [← g2]
      exact ra_trE_ok hμ hπ hω (h2 j e' g1)
  · exact h
  · obtain ⟨h0, h1, f, h2, h3⟩ := h
    have key : ∀ q : Nat × Int, q ∈ o.2.2.2 → ∃ r, μ[q.1]? = some r ∧ r.1 < n ∧ vc q.1 = v r.1 + r.2 := fun q hq => by
      have hl := h1 q hq
      have hr : μ[q.1]? = some μ[q.1] := List.getElem?_eq_getElem hl
      exact ⟨_, hr, hμ _ _ hr⟩
    refine ⟨h0, fun q hq => ?_, f, h2, ?_⟩
    · simp only [List.mem_map] at hq
      obtain ⟨z, hz, e⟩ := hq
      obtain ⟨r, k1, k2, k3⟩ := key z hz
      rw [ra_mg_eq, k1] at e
      rw [← e]
      exact k2
    · have e : (o.2.2.2.map (fun q => match ra_mg μ q.1 with
          | some r => (r.1, r.2 + q.2)
          | none => q)).map (fun q => v q.1 + q.2) = o.2.2.2.map (fun q => vc q.1 + q.2) := by
        rw [List.map_map]
        refine List.map_congr_left (fun q hq => ?_)
        obtain ⟨r, k1, k2, k3⟩ := key q hq
        simp only [Function.comp, ra_bl_get, ra_mg_eq, ra_pg_eq, k1, k3]
        omega
      show ra_phi o.2.2.1 (List.map (fun (q : Nat × Int) => v q.1 + q.2) (o.2.2.2.map _)) o.2.1 _
      rw [e]
      exact h3
def ra_meets0 : ra_N → List (Nat × Int) → ra_N → Option ra_N
  | env, r :: μ, q :: es => match (if r.1 = 0 then (if ra_leb q.1 r.2 && ra_leb r.2 q.2 then some env else none) else ra_meet env r.1 (q.1 - r.2) (q.2 - r.2)) with
    | none => none
    | some e => ra_meets0 e μ es
  | env, [], _ => some env
  | env, _ :: _, [] => some env
theorem ra_meets0_ok {v : Nat → Int} : ∀ {μ : List (Nat × Int)} {es env : ra_N}, ra_cN v env → (∀ (i : Nat) (r : Nat × Int) (q : Int × Int), μ[i]? = some r → es[i]? = some q → r.1 < env.length ∧ q.1 ≤ v r.1 + r.2 ∧ v r.1 + r.2 ≤ q.2) → ∃ e, ra_meets0 env μ es = some e ∧ ra_cN v e ∧ e.length = env.length
  | r :: μ, q :: es, env, hN, h => by
    have h0 := h 0 r q (by simp) (by simp)
    have s1 : ∃ e, (if r.1 = 0 then (if ra_leb q.1 r.2 && ra_leb r.2 q.2 then some env else none) else ra_meet env r.1 (q.1 - r.2) (q.2 - r.2)) = some e ∧ ra_cN v e ∧ e.length = env.length := by
      split
      · rename_i hz
        rw [hz, hN.2.1] at h0
        rw [if_pos (by rw [ra_leb_of (by omega), ra_leb_of (by omega)]; rfl)]
        exact ⟨env, rfl, hN, rfl⟩
      · exact ra_meet_ok hN h0.1 (by omega) (by omega)
    obtain ⟨e, e1, e2, e3⟩ := s1
    obtain ⟨f, f1, f2, f3⟩ := ra_meets0_ok (μ := μ) (es := es) e2 (fun i r q hr hq => by
      have := h (i + 1) r q (by simpa using hr) (by simpa using hq)
      rw [e3]
      exact this)
    refine ⟨f, ?_, f2, by omega⟩
    unfold ra_meets0
    rw [e1]
    exact f1
  | [], _, env, hN, _ => ⟨env, by simp [ra_meets0], hN, rfl⟩
  | _ :: _, [], env, hN, _ => ⟨env, by simp [ra_meets0], hN, rfl⟩
/-- those whose bounds say something new -/
noncomputable def ra_mf (env : ra_N) : List (Nat × Int) → ra_N → Nat → ra_N → List ((Nat × Int) × (Int × Int))
  | r :: μ, q :: es, pos, suf => match ra_cu env r.1 pos suf with
    | [] => (r, q) :: ra_mf env μ es pos suf
    | a :: t => match ra_leb q.1 (a.1 + r.2) && ra_leb (a.2 + r.2) q.2 with
      | true => ra_mf env μ es (r.1 + 1) t
      | false => (r, q) :: ra_mf env μ es (r.1 + 1) t
  | [], _, _, _ => []
  | _ :: _, [], _, _ => []
theorem ra_mf_get {env : ra_N} : ∀ {μ : List (Nat × Int)} {es : ra_N} {pos : Nat} {suf : ra_N} {z : (Nat × Int) × (Int × Int)}, z ∈ ra_mf env μ es pos suf → ∃ i : Nat, μ[i]? = some z.1 ∧ es[i]? = some z.2
  | r :: μ, q :: es, pos, suf, z, h => by
    have key : ∀ {p : Nat} {u : ra_N}, z ∈ ra_mf env μ es p u → ∃ i : Nat, (r :: μ)[i]? = some z.1 ∧ (q :: es)[i]? = some z.2 := by
      intro p u h
      obtain ⟨i, h1, h2⟩ := ra_mf_get h
      exact ⟨i + 1, by simpa using h1, by simpa using h2⟩
    have key2 : ∀ {p : Nat} {u : ra_N}, z ∈ (r, q) :: ra_mf env μ es p u → ∃ i : Nat, (r :: μ)[i]? = some z.1 ∧ (q :: es)[i]? = some z.2 := by
      intro p u h
      rcases List.mem_cons.mp h with e | e
      · exact ⟨0, by rw [e]; rfl, by rw [e]; rfl⟩
      · exact key e
    unfold ra_mf at h
    split at h
    · exact key2 h
    · split at h
      · exact key h
      · exact key2 h
  | [], _, _, _, z, h => by simp [ra_mf] at h
  | _ :: _, [], _, _, z, h => by simp [ra_mf] at h
noncomputable def ra_meets (env : ra_N) (μ : List (Nat × Int)) (es : ra_N) : Option ra_N := let z := ra_mf env μ es 0 env; ra_meets0 env (z.map Prod.fst) (z.map Prod.snd)
theorem ra_meets_ok {v : Nat → Int} {μ : List (Nat × Int)} {es env : ra_N} (hN : ra_cN v env) (h : ∀ (i : Nat) (r : Nat × Int) (q : Int × Int), μ[i]? = some r → es[i]? = some q → r.1 < env.length ∧ q.1 ≤ v r.1 + r.2 ∧ v r.1 + r.2 ≤ q.2) : ∃ e, ra_meets env μ es = some e ∧ ra_cN v e ∧ e.length = env.length := by
  refine ra_meets0_ok hN (fun i r q hr hq => ?_)
  rw [List.getElem?_map, Option.map_eq_some_iff] at hr hq
  obtain ⟨z, h1, rfl⟩ := hr
  obtain ⟨z', h2, rfl⟩ := hq
  rw [h1] at h2
  cases h2
  obtain ⟨j, h3, h4⟩ := ra_mf_get (List.mem_of_getElem? h1)
  exact h j _ _ h3 h4
/-- linear forms over the symbols -/
abbrev ra_L : Type := List (Nat × Int) × Int
def ra_ev (v : Nat → Int) (l : ra_L) : Int := l.1.foldr (fun t s => t.2 * v t.1 + s) l.2
def ra_cf (i : Nat) : List (Nat × Int) → Int
  | [] => 0
  | t :: ts => if t.1 = i then t.2 + ra_cf i ts else ra_cf i ts
def ra_del (i : Nat) (ts : List (Nat × Int)) : List (Nat × Int) := ts.filter (fun t => !(t.1 == i))
theorem ra_ev_split (v : Nat → Int) (i : Nat) (k : Int) : ∀ ts : List (Nat × Int), ra_ev v (ts, k) = ra_cf i ts * v i + ra_ev v (ra_del i ts, k)
  | [] => by simp [ra_ev, ra_cf, ra_del]
  | t :: ts => by
    have ih := ra_ev_split v i k ts
    simp only [ra_ev, List.foldr_cons] at ih ⊢
    unfold ra_del ra_cf
    unfold ra_del at ih
    by_cases h : t.1 = i
    · rw [if_pos h, List.filter_cons_of_neg (by simp [h]), ih, h, Int.add_mul]
      omega
    · rw [if_neg h, List.filter_cons_of_pos (by simp [h]), ih]
      simp only [List.foldr_cons]
      omega
noncomputable def ra_cfF (i : Nat) (l : List (Nat × Int)) : Int := List.rec (motive := fun _ => Int) 0 (fun t _ ih => Bool.rec (motive := fun _ => Int) ih (t.2 + ih) (Nat.beq t.1 i)) l
theorem ra_cfF_eq (i : Nat) : ∀ l : List (Nat × Int), ra_cfF i l = ra_cf i l
  | [] => rfl
  | t :: l => by
    unfold ra_cf
    rw [← ra_cfF_eq i l]
    show Bool.rec (motive := fun _ => Int) (ra_cfF i l) (t.2 + ra_cfF i l) (Nat.beq t.1 i) = _
    cases h : Nat.beq t.1 i with
    | true => rw [if_pos (Nat.eq_of_beq_eq_true h)]
    | false => rw [if_neg (fun q => by rw [ra_nb.mpr q] at h; exact Bool.noConfusion h)]
noncomputable def ra_dlF (i : Nat) (l : List (Nat × Int)) : List (Nat × Int) := List.rec (motive := fun _ => List (Nat × Int)) [] (fun t _ ih => Bool.rec (motive := fun _ => List (Nat × Int)) (t :: ih) ih (Nat.beq t.1 i)) l
theorem ra_dlF_eq (i : Nat) : ∀ l : List (Nat × Int), ra_dlF i l = ra_del i l
  | [] => rfl
  | t :: l => by
    have ih := ra_dlF_eq i l
    show Bool.rec (motive := fun _ => List (Nat × Int)) (t :: ra_dlF i l) (ra_dlF i l) (Nat.beq t.1 i) = _
    rw [ih]
    unfold ra_del
    cases h : Nat.beq t.1 i with
    | true => rw [List.filter_cons_of_neg (by simp [Nat.eq_of_beq_eq_true h])]
    | false => rw [List.filter_cons_of_pos (by simp; intro q; rw [ra_nb.mpr q] at h; exact Bool.noConfusion h)]
/-- a lower bound -/
def ra_lb (env : ra_N) : Nat → List (Nat × Int) → Int → Option Int
  | _, [], k => some k
  | 0, _ :: _, _ => none
  | f + 1, t :: ts, k => match ra_nth env t.1 with
    | none => none
    | some q => let c := ra_cfF t.1 (t :: ts); ra_lb env f (ra_dlF t.1 (t :: ts)) (k + (if ra_leb 0 c then c * q.1 else c * q.2))
theorem ra_lb_ok {v : Nat → Int} {env : ra_N} (hN : ra_cN v env) : ∀ (f : Nat) (ts : List (Nat × Int)) (k b : Int), ra_lb env f ts k = some b → b ≤ ra_ev v (ts, k)
  | _, [], k, b, h => by
    simp [ra_lb] at h
    simp [ra_ev, h]
  | 0, _ :: _, _, _, h => by simp [ra_lb] at h
  | f + 1, t :: ts, k, b, h => by
    unfold ra_lb at h
    rw [ra_nth_eq] at h
    simp only [ra_cfF_eq, ra_dlF_eq] at h
    cases hq : env[t.1]? with
    | none => rw [hq] at h; cases h
    | some q =>
      rw [hq] at h
      dsimp only at h
      have ih := ra_lb_ok hN f _ _ b h
      have hb := hN.2.2 _ _ hq
      rw [ra_ev_split v t.1 k (t :: ts)]
      have hs : ∀ (l : List (Nat × Int)) (a c : Int), ra_ev v (l, a + c) = ra_ev v (l, a) + c := by
        intro l a c
        induction l with
        | nil => simp [ra_ev]
        | cons x l ih =>
          simp only [ra_ev, List.foldr_cons] at ih ⊢
          omega
      rw [hs] at ih
      have key : (if ra_leb 0 (ra_cf t.1 (t :: ts)) = true then ra_cf t.1 (t :: ts) * q.1 else ra_cf t.1 (t :: ts) * q.2) ≤ ra_cf t.1 (t :: ts) * v t.1 := by
        split
        · rename_i h0
          exact Int.mul_le_mul_of_nonneg_left hb.1 (ra_leb_le h0)
        · rename_i h0
          have := ra_leb_lt h0
          exact Int.mul_le_mul_of_nonpos_left (by omega) hb.2
      omega
/-- a form of the one in the words of the other -/
def ra_sub1 (μ : List (Nat × Int)) : List (Nat × Int) → Int → Option ra_L
  | [], k => some ([], k)
  | t :: ts, k => match ra_nth μ t.1 with
    | none => none
    | some r => match ra_sub1 μ ts k with
      | none => none
      | some l => some ((r.1, t.2) :: l.1, t.2 * r.2 + l.2)
theorem ra_ev_add (v : Nat → Int) (l : List (Nat × Int)) (a c : Int) : ra_ev v (l, a + c) = c + ra_ev v (l, a) := by
  induction l with
  | nil => simp [ra_ev]; omega
  | cons x l ih =>
    simp only [ra_ev, List.foldr_cons] at ih ⊢
    omega
theorem ra_sub1_ok {v : Nat → Int} {μ : List (Nat × Int)} : ∀ {ts : List (Nat × Int)} {k : Int} {l : ra_L}, ra_sub1 μ ts k = some l → ra_ev (ra_vI v μ) (ts, k) = ra_ev v l
  | [], k, l, h => by
    simp [ra_sub1] at h
    subst h
    simp [ra_ev]
  | t :: ts, k, l, h => by
    unfold ra_sub1 at h
    rw [ra_nth_eq] at h
    cases hr : μ[t.1]? with
    | none => rw [hr] at h; cases h
    | some r =>
      rw [hr] at h
      dsimp only at h
      cases hs : ra_sub1 μ ts k with
      | none => rw [hs] at h; cases h
      | some l' =>
        rw [hs] at h
        dsimp only at h
        cases h
        have ih := ra_sub1_ok (v := v) hs
        have e1 : ra_ev (ra_vI v μ) (t :: ts, k) = t.2 * ra_vI v μ t.1 + ra_ev (ra_vI v μ) (ts, k) := by simp [ra_ev]
        have e2 : ra_vI v μ t.1 = v r.1 + r.2 := by simp [ra_vI, hr]
        have e3 : ra_ev v ((r.1, t.2) :: l'.1, t.2 * r.2 + l'.2) = t.2 * v r.1 + ra_ev v (l'.1, t.2 * r.2 + l'.2) := by simp [ra_ev]
        have e4 := ra_ev_add v l'.1 l'.2 (t.2 * r.2)
        rw [Int.add_comm l'.2] at e4
        have e5 : ra_ev v (l'.1, l'.2) = ra_ev v l' := rfl
        rw [e5] at e4
        rw [e1, e2, e3, ih, e4, Int.mul_add, Int.add_assoc]
end
