noncomputable section
/-! states by maps of symbols and places -/
noncomputable def ra_b2 {α β : Type} (f : α → β → Bool) (as : List α) : List β → Bool := List.rec (motive := fun _ => List β → Bool) (fun bs => List.rec (motive := fun _ => Bool) true (fun _ _ _ => false) bs) (fun a _ ih bs => List.rec (motive := fun _ => Bool) false (fun b t _ => Bool.rec (motive := fun _ => Bool) false (ra_dl (ih t)) (f a b)) bs) as
theorem ra_b2_nn {α β : Type} {f : α → β → Bool} : ra_b2 f [] [] = true := rfl
theorem ra_b2_nc {α β : Type} {f : α → β → Bool} {b : β} {bs : List β} : ra_b2 f [] (b :: bs) = false := rfl
theorem ra_b2_cn {α β : Type} {f : α → β → Bool} {a : α} {as : List α} : ra_b2 f (a :: as) [] = false := rfl
theorem ra_b2_cc {α β : Type} {f : α → β → Bool} {a : α} {as : List α} {b : β} {bs : List β} : ra_b2 f (a :: as) (b :: bs) = (f a b && ra_b2 f as bs) := by
  show Bool.rec (motive := fun _ => Bool) false (ra_b2 f as bs) (f a b) = _
  cases f a b <;> rfl
theorem ra_b2_ok {α β γ : Type} {f : α → β → Bool} {R : α → γ → Prop} {R' : β → γ → Prop} (h : ∀ a b c, f a b = true → R a c → R' b c) : ∀ {as : List α} {bs : List β} {cs : List γ}, ra_b2 f as bs = true → ra_a2 R as cs → ra_a2 R' bs cs
  | [], [], [], _, _ => trivial
  | a :: as, b :: bs, c :: cs, h1, h2 => by
    simp only [ra_b2_cc, Bool.and_eq_true] at h1
    exact ⟨h a b c h1.1 h2.1, ra_b2_ok h h1.2 h2.2⟩
  | [], _ :: _, _, h1, _ => by simp [ra_b2_nc, ra_b2_cn] at h1
  | _ :: _, [], _, h1, _ => by simp [ra_b2_nc, ra_b2_cn] at h1
  | [], [], _ :: _, _, h2 => h2.elim
  | _ :: _, _ :: _, [], _, h2 => h2.elim
theorem ra_b2_len {α β : Type} {f : α → β → Bool} : ∀ {as : List α} {bs : List β}, ra_b2 f as bs = true → as.length = bs.length
  | [], [], _ => rfl
  | _ :: _, _ :: _, h => by
    simp only [ra_b2_cc, Bool.and_eq_true] at h
    simp [ra_b2_len h.2]
  | [], _ :: _, h => by simp [ra_b2_nc, ra_b2_cn] at h
  | _ :: _, [], h => by simp [ra_b2_nc, ra_b2_cn] at h
theorem ra_b2_get {α β : Type} {f : α → β → Bool} : ∀ {as : List α} {bs : List β}, ra_b2 f as bs = true → ∀ {i : Nat} {b : β}, bs[i]? = some b → ∃ a, as[i]? = some a ∧ f a b = true
  | [], [], _, i, b, h => by simp at h
  | x :: as, y :: bs, h, 0, b, h1 => by
    simp only [ra_b2_cc, Bool.and_eq_true] at h
    simp at h1
    subst h1
    exact ⟨x, by simp, h.1⟩
  | x :: as, y :: bs, h, i + 1, b, h1 => by
    simp only [ra_b2_cc, Bool.and_eq_true] at h
    simp at h1
    obtain ⟨a, h2, h3⟩ := ra_b2_get h.2 h1
    exact ⟨a, by simpa using h2, h3⟩
  | [], _ :: _, h, _, _, _ => by simp [ra_b2_nc, ra_b2_cn] at h
  | _ :: _, [], h, _, _, _ => by simp [ra_b2_nc, ra_b2_cn] at h
def ra_same (r q' : Nat × Int) (k : Int) : Bool := Nat.beq r.1 q'.1 && ra_eqb (r.2 + k) q'.2
def ra_veq (a b : ra_V) : Bool := match a with
  | .inl q => match b with
    | .inl r => q.1 == r.1 && ra_eqb q.2 r.2
    | .inr _ => false
  | .inr (.inl i) => match b with
    | .inr (.inl j) => i == j
    | _ => false
  | .inr (.inr (.inl i)) => match b with
    | .inr (.inr (.inl j)) => i == j
    | _ => false
  | .inr (.inr (.inr i)) => match b with
    | .inr (.inr (.inr j)) => i == j
    | _ => false
theorem ra_veq_eq {a b : ra_V} (h : ra_veq a b = true) : a = b := by
  rcases a with q | i | k | k <;> rcases b with r | j | n | n <;> simp only [ra_veq, Bool.and_eq_true, beq_iff_eq] at h <;> first | (cases h; done) | skip
  · have := ra_eqb_eq h.2
    obtain ⟨a1, a2⟩ := q
    obtain ⟨b1, b2⟩ := r
    simp at h this
    rw [h.1, this]
  · rw [h]
  · rw [h]
  · rw [h]
/-- places, and references to cells out of the world -/
abbrev ra_Pi : Type := List Nat × List ra_V
def ra_bI (b0 : Nat → Nat) (ads : List Nat) (om : List ra_V) (k : Nat) : Nat := match om[k]? with
  | none => b0 k
  | some (.inr (.inl i)) => (match ads[i]? with
    | some r => r
    | none => 0)
  | some (.inr (.inr (.inl j))) => b0 j
  | some (.inr (.inr (.inr _))) => b0 k
  | some (.inl _) => b0 k
theorem ra_bI_nil {b0 : Nat → Nat} {ads : List Nat} : ra_bI b0 ads [] = b0 := by
  funext k
  simp [ra_bI]
noncomputable def ra_en (env : ra_N) (μ : List (Nat × Int)) (π : ra_Pi) (a' a : ra_V) : Bool := match a with
  | .inl q => match a' with
    | .inl q' => match ra_mg μ q.1 with
      | some r => ra_same r q' q.2 || ra_same r (ra_nm env q') q.2
      | none => false
    | .inr _ => false
  | .inr (.inl i) => match a' with
    | .inr (.inl i') => match ra_pg π.1 i with
      | some j => Nat.beq j i'
      | none => false
    | _ => false
  | .inr (.inr (.inl 0)) => ra_veq a' (.inr (.inr (.inl 0)))
  | .inr (.inr (.inl 1)) => (match a' with
    | .inr (.inr (.inr _)) => true
    | _ => ra_veq a' (.inr (.inr (.inl 1))))
  | .inr (.inr (.inl (k + 2))) => match ra_bg (ra_bl π.2) (k + 2) with
    | none => ra_veq a' (.inr (.inr (.inl (k + 2))))
    | some w => ra_veq a' w && (match w with
      | .inl _ => false
      | .inr (.inl _) => true
      | .inr (.inr (.inr _)) => false
      | .inr (.inr (.inl j)) => Nat.ble 2 j)
  | .inr (.inr (.inr s)) => match a' with
    | .inr (.inr (.inr s')) => (match ra_mg μ s with
      | some r => Nat.beq r.1 s' && ra_eqb r.2 0
      | none => false)
    | _ => false
def ra_vI (v : Nat → Int) (μ : List (Nat × Int)) (i : Nat) : Int := match μ[i]? with
  | some r => v r.1 + r.2
  | none => 0
theorem ra_en_ok {env : ra_N} {v : Nat → Int} {μ : List (Nat × Int)} {π : ra_Pi} {ads adsI : List Nat} {b0 : Nat → Nat} (hN : ra_cN v env) (hπ : ∀ (i j r : Nat), π.1[i]? = some j → ads[j]? = some r → adsI[i]? = some r) {a' a : ra_V} {x : Value} (h : ra_en env μ π a' a = true) (hc : ra_cV env.length v ads b0 a' x) : ra_cV μ.length (ra_vI v μ) adsI (ra_bI b0 ads π.2) a x := by
  rcases a with q | i | k | s
  · rcases a' with q' | a'
    · simp only [ra_en, ra_bl_get, ra_mg_eq, ra_pg_eq] at h
      cases hr : μ[q.1]? with
      | none => rw [hr] at h; cases h
      | some r =>
        rw [hr] at h
        dsimp only at h
        obtain ⟨h1, y, h2, h3⟩ := hc
        refine ⟨(List.getElem?_eq_some_iff.mp hr).1, y, h2, ?_⟩
        have hv : ra_vI v μ q.1 = v r.1 + r.2 := by simp [ra_vI, hr]
        rw [hv]
        have key : ∀ z : Nat × Int, y.toInt = v z.1 + z.2 → ra_same r z q.2 = true → y.toInt = v r.1 + r.2 + q.2 := by
          intro z hz hs
          simp only [ra_same, Bool.and_eq_true, ra_nb] at hs
          have := ra_eqb_eq hs.2
          rw [hz, hs.1]
          omega
        simp only [Bool.or_eq_true] at h
        rcases h with h | h
        · exact key q' h3 h
        · exact key _ (ra_nm_ok hN h1 h3).2 h
    · simp [ra_en] at h
  · rcases a' with q' | i' | k' | k'
    · simp [ra_en] at h
    · simp only [ra_en, ra_bl_get, ra_mg_eq, ra_pg_eq] at h
      cases hr : π.1[i]? with
      | none => rw [hr] at h; cases h
      | some j =>
        rw [hr] at h
        simp only [ra_nb] at h
        subst h
        obtain ⟨r, h1, h2⟩ := hc
        exact ⟨r, hπ i j r hr h1, h2⟩
    · simp [ra_en] at h
    · simp [ra_en] at h
  · rcases k with _ | _ | k
    · have e : a' = .inr (.inr (.inl 0)) := ra_veq_eq h
      subst e
      rcases hc with h1 | ⟨h1, -⟩ | ⟨h1, -⟩
      · exact Or.inl h1
      · cases h1
      · omega
    · rcases a' with q' | i' | k' | k'
      · have e : (.inl q' : ra_V) = .inr (.inr (.inl 1)) := ra_veq_eq h
        cases e
      · have e : (.inr (.inl i') : ra_V) = .inr (.inr (.inl 1)) := ra_veq_eq h
        cases e
      · have e : (.inr (.inr (.inl k')) : ra_V) = .inr (.inr (.inl 1)) := ra_veq_eq h
        cases e
        rcases hc with ⟨h1, -⟩ | h1 | ⟨h1, -⟩
        · cases h1
        · exact Or.inr (Or.inl h1)
        · omega
      · obtain ⟨h1, y, h2, h3⟩ := hc
        exact Or.inr (Or.inl ⟨rfl, y, h2⟩)
    · simp only [ra_en, ra_bl_get, ra_mg_eq, ra_pg_eq] at h
      refine Or.inr (Or.inr ⟨by omega, ?_⟩)
      cases hw : π.2[k + 2]? with
      | none =>
        rw [hw] at h
        have e : a' = .inr (.inr (.inl (k + 2))) := ra_veq_eq h
        subst e
        rcases hc with ⟨h1, -⟩ | ⟨h1, -⟩ | ⟨-, h1⟩
        · omega
        · omega
        · rw [h1]
          simp [ra_bI, hw]
      | some w =>
        rw [hw] at h
        simp only [Bool.and_eq_true] at h
        have e : a' = w := ra_veq_eq h.1
        subst e
        rcases a' with q' | i' | k' | k'
        · cases h.2
        · obtain ⟨r, h1, h2⟩ := hc
          rw [h2]
          simp [ra_bI, hw, h1]
        · have h3 := Nat.le_of_ble_eq_true h.2
          rcases hc with ⟨h1, -⟩ | ⟨h1, -⟩ | ⟨-, h1⟩
          · omega
          · omega
          · rw [h1]
            simp [ra_bI, hw]
        · cases h.2
  · rcases a' with q' | i' | k' | k'
    · simp [ra_en] at h
    · simp [ra_en] at h
    · simp [ra_en] at h
    · simp only [ra_en, ra_bl_get, ra_mg_eq, ra_pg_eq] at h
      cases hr : μ[s]? with
      | none => rw [hr] at h; cases h
      | some r =>
        rw [hr] at h
        simp only [Bool.and_eq_true, ra_nb] at h
        have e2 := ra_eqb_eq h.2
        obtain ⟨h1, y, h2, h3⟩ := hc
        refine ⟨(List.getElem?_eq_some_iff.mp hr).1, y, h2, ?_⟩
        have hv : ra_vI v μ s = v r.1 + r.2 := by simp [ra_vI, hr]
        rw [hv, h3, h.1, e2]
        omega
/-- numbers of a saying -/
theorem ra_nmI {v : Nat → Int} {env : ra_N} (hN : ra_cN v env) {q : Nat × Int} (hq : q.1 < env.length) : v q.1 + q.2 = v (ra_nm env q).1 + (ra_nm env q).2 := by
  have hr : env[q.1]? = some env[q.1] := List.getElem?_eq_getElem hq
  have hb := hN.2.2 _ _ hr
  unfold ra_nm
  dsimp only
  split
  · rename_i he
    have := ra_eqb_eq he
    simp only [ra_rg, ra_nth_eq, hr] at this ⊢
    show _ = v 0 + _
    rw [hN.2.1]
    omega
  · rfl
noncomputable def ra_enP (env : ra_N) (μ : List (Nat × Int)) (q' q : Nat × Int) : Bool := match ra_mg μ q.1 with
  | some r => ra_same r q' q.2 || ra_same r (ra_nm env q') q.2
  | none => false
theorem ra_enP_ok {env : ra_N} {v : Nat → Int} {μ : List (Nat × Int)} (hN : ra_cN v env) {q' q : Nat × Int} (hq : q'.1 < env.length) (h : ra_enP env μ q' q = true) : q.1 < μ.length ∧ ra_vI v μ q.1 + q.2 = v q'.1 + q'.2 := by
  unfold ra_enP at h
  rw [ra_mg_eq] at h
  cases hr : μ[q.1]? with
  | none => rw [hr] at h; cases h
  | some r =>
    rw [hr] at h
    dsimp only at h
    refine ⟨(List.getElem?_eq_some_iff.mp hr).1, ?_⟩
    have hv : ra_vI v μ q.1 = v r.1 + r.2 := by simp [ra_vI, hr]
    rw [hv]
    have key : ∀ z : Nat × Int, v z.1 + z.2 = v q'.1 + q'.2 → ra_same r z q.2 = true → v r.1 + r.2 + q.2 = v q'.1 + q'.2 := by
      intro z hz hs
      simp only [ra_same, Bool.and_eq_true, ra_nb] at hs
      have := ra_eqb_eq hs.2
      rw [← hz, hs.1]
      omega
    simp only [Bool.or_eq_true] at h
    rcases h with h | h
    · exact key q' rfl h
    · exact key _ (ra_nmI hN hq).symm h
theorem ra_enPs_ok {env : ra_N} {v : Nat → Int} {μ : List (Nat × Int)} (hN : ra_cN v env) : ∀ {ps' ps : List (Nat × Int)}, (∀ q ∈ ps', q.1 < env.length) → ra_b2 (ra_enP env μ) ps' ps = true → (∀ q ∈ ps, q.1 < μ.length) ∧ ps.map (fun q => ra_vI v μ q.1 + q.2) = ps'.map (fun q => v q.1 + q.2)
  | [], [], _, _ => ⟨(fun q h => nomatch h), rfl⟩
  | p' :: ps', p :: ps, h, h1 => by
    simp only [ra_b2_cc, Bool.and_eq_true] at h1
    have h2 := ra_enP_ok hN (h p' List.mem_cons_self) h1.1
    have h3 := ra_enPs_ok hN (fun q hq => h q (List.mem_cons_of_mem _ hq)) h1.2
    refine ⟨fun q hq => ?_, by rw [List.map_cons, List.map_cons, h2.2, h3.2]⟩
    rcases List.mem_cons.mp hq with e | e
    · rw [e]; exact h2.1
    · exact h3.1 q e
  | [], _ :: _, _, h => by simp [ra_b2_nc, ra_b2_cn] at h
  | _ :: _, [], _, h => by simp [ra_b2_nc, ra_b2_cn] at h
def ra_enQ (env : ra_N) (μ : List (Nat × Int)) : List Nat → List (Nat × Int) → List Nat → List (Nat × Int) → Bool
  | k :: t, ps', pid, ps => ((k :: t) == pid && ra_b2 (ra_enP env μ) ps' ps) || (match k, ps' with
    | 0, _ :: _ :: u => ra_enQ env μ t u pid ps
    | _, _ => false)
  | [], ps', pid, ps => pid == [] && ra_b2 (ra_enP env μ) ps' ps
theorem ra_enQ_ok {env : ra_N} {v : Nat → Int} {μ : List (Nat × Int)} (hN : ra_cN v env) {n : Nat} {f : Nat → Int} : ∀ {pid' : List Nat} {ps' : List (Nat × Int)} {pid : List Nat} {ps : List (Nat × Int)}, (∀ q ∈ ps', q.1 < env.length) → ra_enQ env μ pid' ps' pid ps = true → ra_phi pid' (ps'.map (fun q => v q.1 + q.2)) n f → (∀ q ∈ ps, q.1 < μ.length) ∧ ra_phi pid (ps.map (fun q => ra_vI v μ q.1 + q.2)) n f
  | [], ps', pid, ps, hb, h, hp => by
    simp only [ra_enQ, Bool.and_eq_true, beq_iff_eq] at h
    have h2 := ra_enPs_ok hN hb h.2
    rw [h.1, h2.2]
    exact ⟨h2.1, hp⟩
  | k :: t, ps', pid, ps, hb, h, hp => by
    unfold ra_enQ at h
    rw [Bool.or_eq_true] at h
    rcases h with h | h
    · rw [Bool.and_eq_true, beq_iff_eq] at h
      have h2 := ra_enPs_ok hN hb h.2
      rw [← h.1, h2.2]
      exact ⟨h2.1, hp⟩
    · split at h
      · rename_i a b u
        exact ra_enQ_ok hN (fun q hq => hb q (List.mem_cons_of_mem _ (List.mem_cons_of_mem _ hq))) h hp.2.2
      · cases h
def ra_inE (env : ra_N) (lo hi : Int) (e : ra_E) : Bool := match e with
  | .inl (.inl q) => let r := ra_rg env q; ra_leb lo r.1 && ra_leb r.2 hi
  | .inl (.inr _) => false
  | .inr q => ra_leb lo q.1 && ra_leb q.2 hi
theorem ra_inE_ok {env : ra_N} {v : Nat → Int} {ads : List Nat} {b0 : Nat → Nat} (hN : ra_cN v env) {lo hi : Int} {e : ra_E} {x : Value} (h : ra_inE env lo hi e = true) (hc : ra_cE env.length v ads b0 e x) : ∃ y : Int32, x = .int y ∧ lo ≤ y.toInt ∧ y.toInt ≤ hi := by
  rcases e with (q | a) | q
  · simp only [ra_inE, Bool.and_eq_true] at h
    obtain ⟨h1, y, h2, h3⟩ := hc
    have h4 := ra_rg_ok hN h3
    have h5 := ra_leb_le h.1
    have h6 := ra_leb_le h.2
    exact ⟨y, h2, by omega, by omega⟩
  · simp [ra_inE] at h
  · simp only [ra_inE, Bool.and_eq_true] at h
    obtain ⟨y, h2, h3, h4⟩ := hc
    have h5 := ra_leb_le h.1
    have h6 := ra_leb_le h.2
    exact ⟨y, h2, by omega, by omega⟩
def ra_enE (env : ra_N) (μ : List (Nat × Int)) (π : ra_Pi) (e' e : ra_E) : Bool := match e with
  | .inl a => match e' with
    | .inl a' => ra_en env μ π a' a
    | .inr _ => false
  | .inr q => ra_inE env q.1 q.2 e'
theorem ra_enE_ok {env : ra_N} {v : Nat → Int} {μ : List (Nat × Int)} {π : ra_Pi} {ads adsI : List Nat} {b0 : Nat → Nat} (hN : ra_cN v env) (hπ : ∀ (i j r : Nat), π.1[i]? = some j → ads[j]? = some r → adsI[i]? = some r) {e' e : ra_E} {x : Value} (h : ra_enE env μ π e' e = true) (hc : ra_cE env.length v ads b0 e' x) : ra_cE μ.length (ra_vI v μ) adsI (ra_bI b0 ads π.2) e x := by
  rcases e with a | q
  · rcases e' with a' | q'
    · exact ra_en_ok hN hπ h hc
    · simp [ra_enE] at h
  · exact ra_inE_ok hN h hc
def ra_enC (env : ra_N) (μ : List (Nat × Int)) (π : ra_Pi) (c' c : ra_C) : Bool := match c with
  | .inl o => match c' with
    | .inl o' => o.1 == o'.1 && ra_b2 (ra_en env μ π) o'.2 o.2
    | .inr _ => false
  | .inr (.inl o) => match c' with
    | .inr (.inl o') => o.1 == o'.1 && ra_b2 (ra_enE env μ π) o'.2 o.2
    | .inr (.inr (.inl o')) => o.1 == o'.1 && (Nat.blt o.1 3 && (o.2.length == o'.2.1 && o.2.all (fun e => match e with
      | .inl _ => false
      | .inr q => ra_leb q.1 o'.2.2.1 && ra_leb o'.2.2.2 q.2)))
    | _ => false
  | .inr (.inr (.inl o)) => match c' with
    | .inr (.inr (.inl o')) => o.1 == o'.1 && (o.2.1 == o'.2.1 && (o.1 == 3 || (ra_leb o.2.2.1 o'.2.2.1 && ra_leb o'.2.2.2 o.2.2.2)))
    | .inr (.inl o') => o.1 == o'.1 && (Nat.blt o.1 3 && (o.2.1 == o'.2.length && o'.2.all (ra_inE env o.2.2.1 o.2.2.2)))
    | _ => false
  | .inr (.inr (.inr o)) => match c' with
    | .inr (.inr (.inr o')) => o.1 == o'.1 && (o.2.1 == o'.2.1 && ra_enQ env μ o'.2.2.1 o'.2.2.2 o.2.2.1 o.2.2.2)
    | _ => false
theorem ra_enC_ok {env : ra_N} {v : Nat → Int} {μ : List (Nat × Int)} {π : ra_Pi} {ads adsI : List Nat} {b0 : Nat → Nat} {cT : Nat → ClassId} (hN : ra_cN v env) (hπ : ∀ (i j r : Nat), π.1[i]? = some j → ads[j]? = some r → adsI[i]? = some r) {c' c : ra_C} {x : va_E} (h : ra_enC env μ π c' c = true) (hc : ra_cC env.length v ads b0 cT c' x) : ra_cC μ.length (ra_vI v μ) adsI (ra_bI b0 ads π.2) cT c x := by
  rcases c with o | o | o | o
  · rcases c' with o' | o'
    · simp only [ra_enC, Bool.and_eq_true, beq_iff_eq] at h
      obtain ⟨fs, h1, h2⟩ := hc
      exact ⟨fs, by rw [h1, h.1], ra_b2_ok (R := ra_cV env.length v ads b0) (R' := ra_cV μ.length (ra_vI v μ) adsI (ra_bI b0 ads π.2)) (fun a b c q1 q2 => ra_en_ok hN hπ q1 q2) h.2 h2⟩
    · simp [ra_enC] at h
  · rcases c' with o' | o' | o' | o'
    · simp [ra_enC] at h
    · simp only [ra_enC, Bool.and_eq_true, beq_iff_eq] at h
      have hl := ra_b2_len h.2
      rcases hc with ⟨h0, f, h1, h2⟩ | ⟨h0, f, h1, h2⟩
      · refine Or.inl ⟨by rw [h.1]; exact h0, f, by rw [h1, h.1, hl], fun j e he => ?_⟩
        obtain ⟨e', g1, g2⟩ := ra_b2_get h.2 he
        exact ra_enE_ok hN hπ g2 (h2 j e' g1)
      · refine Or.inr ⟨by rw [h.1]; exact h0, f, by rw [h1, hl], fun j e he => ?_⟩
        obtain ⟨e', g1, g2⟩ := ra_b2_get h.2 he
        exact ra_enE_ok hN hπ g2 (h2 j e' g1)
    · simp only [ra_enC, Bool.and_eq_true, beq_iff_eq] at h
      obtain ⟨h3, h4, h5, h6⟩ := h
      have h4 : o.1 < 3 := Nat.le_of_ble_eq_true h4
      rcases hc with ⟨h0, f, h1, h2⟩ | ⟨h0, f, h1⟩
      · refine Or.inl ⟨h4, f, by rw [h1, h3, h5], fun j e he => ?_⟩
        have := List.all_eq_true.mp h6 e (List.mem_of_getElem? he)
        rcases e with e | q
        · cases this
        · simp only [Bool.and_eq_true] at this
          have g1 := ra_leb_le this.1
          have g2 := ra_leb_le this.2
          have g3 := h2 j (by rw [← h5]; exact (List.getElem?_eq_some_iff.mp he).1)
          exact ⟨f j, rfl, by omega, by omega⟩
      · omega
    · simp [ra_enC] at h
  · rcases c' with o' | o' | o' | o'
    · simp [ra_enC] at h
    · simp only [ra_enC, Bool.and_eq_true, beq_iff_eq] at h
      obtain ⟨h3, h4, h5, h6⟩ := h
      have h4 : o.1 < 3 := Nat.le_of_ble_eq_true h4
      rcases hc with ⟨h0, f, h1, h2⟩ | ⟨h0, f, h1, h2⟩
      · refine Or.inl ⟨h4, f, by rw [h1, h3, h5], fun j hj => ?_⟩
        have hj' : j < o'.2.length := by omega
        have hg : o'.2[j]? = some o'.2[j] := List.getElem?_eq_getElem hj'
        have := List.all_eq_true.mp h6 _ (List.getElem_mem hj')
        obtain ⟨y, e1, e2, e3⟩ := ra_inE_ok hN this (h2 j _ hg)
        cases e1
        exact ⟨e2, e3⟩
      · omega
    · simp only [ra_enC, Bool.and_eq_true, beq_iff_eq, Bool.or_eq_true] at h
      obtain ⟨h3, h4, h5⟩ := h
      rcases hc with ⟨h0, f, h1, h2⟩ | ⟨h0, f, h1⟩
      · refine Or.inl ⟨by rw [h3]; exact h0, f, by rw [h1, h3, h4], fun j hj => ?_⟩
        have h6 := h2 j (by omega)
        rcases h5 with h5 | h5
        · omega
        · have g1 := ra_leb_le h5.1
          have g2 := ra_leb_le h5.2
          omega
      · exact Or.inr ⟨by rw [h3]; exact h0, f, by rw [h1, h4]⟩
    · simp [ra_enC] at h
  · rcases c' with o' | o' | o' | o'
    · simp [ra_enC] at h
    · simp [ra_enC] at h
    · simp [ra_enC] at h
    · simp only [ra_enC, Bool.and_eq_true, beq_iff_eq] at h
      obtain ⟨h3, h4, h5⟩ := h
      obtain ⟨h0, h1, f, h2, h6⟩ := hc
      have h7 := ra_enQ_ok hN h1 h5 h6
      exact ⟨by rw [h3]; exact h0, h7.1, f, by rw [h2, h3, h4], by rw [h4]; exact h7.2⟩
/-- the map of symbols is good: each bound of the one holds -/
def ra_mok0 (env : ra_N) : List (Nat × Int) → ra_N → Bool
  | [], [] => true
  | r :: μ, q :: es => Nat.blt r.1 env.length && (let a := ra_rg env r; ra_leb q.1 a.1 && ra_leb a.2 q.2) && ra_mok0 env μ es
  | [], _ :: _ => false
  | _ :: _, [] => false
theorem ra_mok0_len {env : ra_N} : ∀ {μ : List (Nat × Int)} {es : ra_N}, ra_mok0 env μ es = true → μ.length = es.length
  | [], [], _ => rfl
  | _ :: _, _ :: _, h => by
    simp only [ra_mok0, Bool.and_eq_true] at h
    simp [ra_mok0_len h.2]
  | [], _ :: _, h => by simp [ra_mok0] at h
  | _ :: _, [], h => by simp [ra_mok0] at h
theorem ra_mok0_get {env : ra_N} {v : Nat → Int} (hN : ra_cN v env) : ∀ {μ : List (Nat × Int)} {es : ra_N}, ra_mok0 env μ es = true → ∀ {i : Nat} {r : Nat × Int}, μ[i]? = some r → r.1 < env.length ∧ ∀ q, es[i]? = some q → q.1 ≤ v r.1 + r.2 ∧ v r.1 + r.2 ≤ q.2
  | [], [], _, i, r, h => by simp at h
  | x :: μ, y :: es, h, 0, r, h1 => by
    simp only [ra_mok0, Bool.and_eq_true] at h
    simp at h1
    subst h1
    have hl : x.1 < env.length := Nat.le_of_ble_eq_true h.1.1
    refine ⟨hl, fun q hq => ?_⟩
    simp at hq
    subst hq
    have g1 := ra_leb_le h.1.2.1
    have g2 := ra_leb_le h.1.2.2
    have hr : env[x.1]? = some env[x.1] := List.getElem?_eq_getElem hl
    have hb := hN.2.2 _ _ hr
    have he : ra_rg env x = ((env[x.1]).1 + x.2, (env[x.1]).2 + x.2) := by simp [ra_rg, ra_nth_eq, hr]
    rw [he] at g1 g2
    dsimp only at g1 g2
    omega
  | x :: μ, y :: es, h, i + 1, r, h1 => by
    simp only [ra_mok0, Bool.and_eq_true] at h
    simp at h1
    have := ra_mok0_get hN h.2 h1
    exact ⟨this.1, fun q hq => this.2 q (by simpa using hq)⟩
  | [], _ :: _, h, _, _, _ => by simp [ra_mok0] at h
  | _ :: _, [], h, _, _, _ => by simp [ra_mok0] at h
noncomputable def ra_mokC (env : ra_N) : List (Nat × Int) → ra_N → Nat → ra_N → Bool
  | [], [], _, _ => true
  | r :: μ, q :: es, pos, suf => match ra_cu env r.1 pos suf with
    | [] => false
    | a :: t => ra_leb q.1 (a.1 + r.2) && ra_leb (a.2 + r.2) q.2 && ra_mokC env μ es (r.1 + 1) t
  | [], _ :: _, _, _ => false
  | _ :: _, [], _, _ => false
theorem ra_mokC_ok {env : ra_N} : ∀ {μ : List (Nat × Int)} {es : ra_N} {pos : Nat}, ra_mokC env μ es pos (env.drop pos) = true → ra_mok0 env μ es = true
  | [], [], _, _ => rfl
  | r :: μ, q :: es, pos, h => by
    unfold ra_mokC at h
    rw [ra_cu_eq] at h
    split at h
    · cases h
    · rename_i a t he
      have hl : r.1 < env.length := by
        rcases Nat.lt_or_ge r.1 env.length with h1 | h1
        · exact h1
        · rw [List.drop_eq_nil_of_le h1] at he
          cases he
      rw [List.drop_eq_getElem_cons hl] at he
      obtain ⟨e1, e2⟩ := List.cons.inj he
      rw [Bool.and_eq_true, Bool.and_eq_true] at h
      rw [← e2] at h
      have ih := ra_mokC_ok h.2
      have hr : ra_rg env r = (a.1 + r.2, a.2 + r.2) := by simp [ra_rg, ra_nth_eq, List.getElem?_eq_getElem hl, e1]
      unfold ra_mok0
      rw [hr, ih]
      dsimp only
      rw [h.1.1, h.1.2]
      have : Nat.blt r.1 env.length = true := Nat.ble_eq_true_of_le hl
      rw [this]
      rfl
  | [], _ :: _, _, h => by simp [ra_mokC] at h
  | _ :: _, [], _, h => by simp [ra_mokC] at h
noncomputable def ra_mok (env : ra_N) (μ : List (Nat × Int)) (es : ra_N) : Bool := ra_mokC env μ es 0 env
theorem ra_mok_len {env : ra_N} {μ : List (Nat × Int)} {es : ra_N} (h : ra_mok env μ es = true) : μ.length = es.length := ra_mok0_len (ra_mokC_ok (pos := 0) h)
theorem ra_mok_get {env : ra_N} {v : Nat → Int} (hN : ra_cN v env) {μ : List (Nat × Int)} {es : ra_N} (h : ra_mok env μ es = true) {i : Nat} {r : Nat × Int} (h1 : μ[i]? = some r) : r.1 < env.length ∧ ∀ q, es[i]? = some q → q.1 ≤ v r.1 + r.2 ∧ v r.1 + r.2 ≤ q.2 := ra_mok0_get hN (ra_mokC_ok (pos := 0) h) h1
def ra_m0 (μ : List (Nat × Int)) : Bool := match μ with
  | r :: _ => r.1 == 0 && ra_eqb r.2 0
  | [] => false
theorem ra_cN_map {env es : ra_N} {v : Nat → Int} {μ : List (Nat × Int)} (hN : ra_cN v env) (h0 : ra_m0 μ = true) (h : ra_mok env μ es = true) : ra_cN (ra_vI v μ) es := by
  cases μ with
  | nil => simp [ra_m0] at h0
  | cons r μ =>
    simp only [ra_m0, Bool.and_eq_true, beq_iff_eq] at h0
    have hl := ra_mok_len h
    refine ⟨by rw [← hl]; simp, ?_, fun i q hq => ?_⟩
    · have := ra_eqb_eq h0.2
      simp [ra_vI, h0.1, hN.2.1, this]
    · have hi : i < (r :: μ).length := by rw [hl]; exact (List.getElem?_eq_some_iff.mp hq).1
      have hr : (r :: μ)[i]? = some (r :: μ)[i] := List.getElem?_eq_getElem hi
      have := (ra_mok_get hN h hr).2 q hq
      simp only [ra_vI, hr]
      exact this
end
