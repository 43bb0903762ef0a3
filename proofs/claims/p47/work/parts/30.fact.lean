noncomputable section
/-! linear sayings about the symbols -/
abbrev rb_D : Type := List ra_L
def rb_dv (v : Nat → Int) (F : rb_D) : Prop := ∀ d ∈ F, 0 ≤ ra_ev v d
def rb_lb (n : Nat) (d : ra_L) : Bool := d.1.all (fun t => Nat.blt t.1 n)
def rb_db (n : Nat) (F : rb_D) : Bool := F.all (rb_lb n)
theorem rb_ev_ext {v v' : Nat → Int} : ∀ {ts : List (Nat × Int)} {k : Int}, (∀ t ∈ ts, v' t.1 = v t.1) → ra_ev v' (ts, k) = ra_ev v (ts, k)
  | [], _, _ => rfl
  | t :: ts, k, h => by
    have ih := rb_ev_ext (k := k) (fun x hx => h x (List.mem_cons_of_mem _ hx))
    simp only [ra_ev, List.foldr_cons] at ih ⊢
    rw [ih, h t List.mem_cons_self]
theorem rb_lb_ev {n : Nat} {d : ra_L} (h : rb_lb n d = true) {v v' : Nat → Int} (hv : ∀ i, i < n → v' i = v i) : ra_ev v' d = ra_ev v d :=
  rb_ev_ext (ts := d.1) (k := d.2) (fun t ht => hv _ (Nat.le_of_ble_eq_true (List.all_eq_true.mp h t ht)))
theorem rb_lb_mono {n n' : Nat} {d : ra_L} (hn : n ≤ n') (h : rb_lb n d = true) : rb_lb n' d = true :=
  List.all_eq_true.mpr (fun t ht => Nat.ble_eq_true_of_le (Nat.lt_of_lt_of_le (Nat.le_of_ble_eq_true (List.all_eq_true.mp h t ht)) hn))
theorem rb_db_mono {n n' : Nat} {F : rb_D} (hn : n ≤ n') (h : rb_db n F = true) : rb_db n' F = true :=
  List.all_eq_true.mpr (fun d hd => rb_lb_mono hn (List.all_eq_true.mp h d hd))
theorem rb_dv_ext {n : Nat} {F : rb_D} (h : rb_db n F = true) {v v' : Nat → Int} (hv : ∀ i, i < n → v' i = v i) (hd : rb_dv v F) : rb_dv v' F := fun d hm => by
  rw [rb_lb_ev (List.all_eq_true.mp h d hm) hv]
  exact hd d hm
def rb_sc (k : Int) (l : ra_L) : ra_L := (l.1.map (fun t => (t.1, k * t.2)), k * l.2)
theorem rb_ev_sc (v : Nat → Int) (c : Int) : ∀ (ts : List (Nat × Int)) (k : Int), ra_ev v (ts.map (fun t => (t.1, c * t.2)), c * k) = c * ra_ev v (ts, k)
  | [], k => rfl
  | t :: ts, k => by
    have ih := rb_ev_sc v c ts k
    simp only [ra_ev, List.map_cons, List.foldr_cons] at ih ⊢
    rw [ih, Int.mul_add, Int.mul_assoc]
theorem rb_ev_ad (v : Nat → Int) (b : List (Nat × Int)) (m : Int) : ∀ (a : List (Nat × Int)) (k : Int), ra_ev v (a ++ b, k + m) = ra_ev v (a, k) + ra_ev v (b, m)
  | [], k => by
    have := ra_ev_add v b m k
    rw [Int.add_comm m k] at this
    rw [List.nil_append, this]
    simp [ra_ev]
  | t :: a, k => by
    have ih := rb_ev_ad v b m a k
    simp only [ra_ev, List.cons_append, List.foldr_cons] at ih ⊢
    rw [ih]
    omega
/-- two sums of terms made one; terms that stand in the same order meet -/
noncomputable def rb_zm (a : List (Nat × Int)) : List (Nat × Int) → List (Nat × Int) := List.rec (motive := fun _ => List (Nat × Int) → List (Nat × Int)) (fun b => b) (fun t a' ih b => List.rec (motive := fun _ => List (Nat × Int)) (t :: a') (fun u b' _ => Bool.rec (motive := fun _ => List (Nat × Int)) (t :: ih b) (Bool.rec (motive := fun _ => List (Nat × Int)) ((t.1, t.2 + u.2) :: ih b') (ih b') (ra_eqb (t.2 + u.2) 0)) (Nat.beq t.1 u.1)) b) a
theorem rb_zm_ok (v : Nat → Int) : ∀ (a b : List (Nat × Int)) (k m : Int), ra_ev v (rb_zm a b, k + m) = ra_ev v (a, k) + ra_ev v (b, m)
  | [], b, k, m => rb_ev_ad v b m [] k
  | t :: a, [], k, m => by
    have := rb_ev_ad v [] m (t :: a) k
    rw [List.append_nil] at this
    exact this
  | t :: a, u :: b, k, m => by
    have s1 : ∀ (x : Nat × Int) (l : List (Nat × Int)) (z : Int), ra_ev v (x :: l, z) = x.2 * v x.1 + ra_ev v (l, z) := fun x l z => rfl
    show ra_ev v (Bool.rec (motive := fun _ => List (Nat × Int)) (t :: rb_zm a (u :: b)) (Bool.rec (motive := fun _ => List (Nat × Int)) ((t.1, t.2 + u.2) :: rb_zm a b) (rb_zm a b) (ra_eqb (t.2 + u.2) 0)) (Nat.beq t.1 u.1), k + m) = _
    cases hb : Nat.beq t.1 u.1 with
    | false =>
      show ra_ev v (t :: rb_zm a (u :: b), k + m) = _
      rw [s1, rb_zm_ok v a (u :: b) k m, s1 t a k]
      omega
    | true =>
      have hu : t.1 = u.1 := Nat.eq_of_beq_eq_true hb
      have ih := rb_zm_ok v a b k m
      show ra_ev v (Bool.rec (motive := fun _ => List (Nat × Int)) ((t.1, t.2 + u.2) :: rb_zm a b) (rb_zm a b) (ra_eqb (t.2 + u.2) 0), k + m) = _
      rw [s1 t a k, s1 u b m, ← hu]
      cases hz : ra_eqb (t.2 + u.2) 0 with
      | true =>
        have h0 := ra_eqb_eq hz
        have h1 : t.2 * v t.1 + u.2 * v t.1 = 0 := by rw [← Int.add_mul, h0, Int.zero_mul]
        show ra_ev v (rb_zm a b, k + m) = _
        rw [ih]
        omega
      | false =>
        show ra_ev v ((t.1, t.2 + u.2) :: rb_zm a b, k + m) = _
        rw [s1, ih, Int.add_mul]
        dsimp only
        omega
noncomputable def rb_ad (a b : ra_L) : ra_L := (rb_zm a.1 b.1, a.2 + b.2)
/-- a saying less some of those told -/
def rb_cmb (F : rb_D) : List (Nat × Nat) → ra_L → Option ra_L
  | [], g => some g
  | h :: hs, g => match ra_nth F h.1 with
    | none => none
    | some d => rb_cmb F hs (rb_ad g (rb_sc (-(h.2 : Int)) d))
theorem rb_cmb_ok {v : Nat → Int} {F : rb_D} (hF : rb_dv v F) : ∀ {hs : List (Nat × Nat)} {g l : ra_L}, rb_cmb F hs g = some l → ra_ev v l ≤ ra_ev v g
  | [], g, l, h => by
    cases h
    exact Int.le_refl _
  | q :: hs, g, l, h => by
    unfold rb_cmb at h
    rw [ra_nth_eq] at h
    split at h
    · cases h
    · rename_i d hd
      have ih := rb_cmb_ok hF h
      have e1 : ra_ev v (rb_ad g (rb_sc (-(q.2 : Int)) d)) = ra_ev v g + ra_ev v (rb_sc (-(q.2 : Int)) d) := rb_zm_ok v g.1 _ g.2 _
      have e2 : ra_ev v (rb_sc (-(q.2 : Int)) d) = -(q.2 : Int) * ra_ev v d := rb_ev_sc v _ d.1 d.2
      have h0 := hF d (List.mem_of_getElem? hd)
      have h1 : 0 ≤ (q.2 : Int) * ra_ev v d := Int.mul_nonneg (by omega) h0
      rw [e1, e2, Int.neg_mul] at ih
      omega
abbrev rb_H : Type := Nat × List (Nat × Nat)
/-- 0 ≤ g, by those told and by the bounds -/
def rb_far (env : ra_N) (F : rb_D) (h : rb_H) (g : ra_L) : Bool := match rb_cmb F h.2 (rb_sc ((h.1 : Int) + 1) g) with
  | none => false
  | some l => match ra_lb env (l.1.length + 1) l.1 l.2 with
    | none => false
    | some b => ra_leb 0 b
theorem rb_far_ok {v : Nat → Int} {env : ra_N} {F : rb_D} (hN : ra_cN v env) (hF : rb_dv v F) {h : rb_H} {g : ra_L} (hh : rb_far env F h g = true) : 0 ≤ ra_ev v g := by
  unfold rb_far at hh
  split at hh
  · cases hh
  · rename_i l hl
    split at hh
    · cases hh
    · rename_i b hb
      have h1 := rb_cmb_ok hF hl
      have h2 := ra_lb_ok hN _ _ _ _ hb
      have h3 := ra_leb_le hh
      have e : ra_ev v (rb_sc ((h.1 : Int) + 1) g) = ((h.1 : Int) + 1) * ra_ev v g := rb_ev_sc v _ g.1 g.2
      have e2 : ra_ev v (l.1, l.2) = ra_ev v l := rfl
      rw [e] at h1
      rw [e2] at h2
      by_cases hg : 0 ≤ ra_ev v g
      · exact hg
      · exfalso
        have : ((h.1 : Int) + 1) * ra_ev v g < 0 := Int.mul_neg_of_pos_of_neg (by omega) (by omega)
        omega
def rb_fars (env : ra_N) (F : rb_D) : List rb_H → List ra_L → Bool
  | h :: hs, g :: gs => rb_far env F h g && rb_fars env F hs gs
  | _, [] => true
  | [], _ :: _ => false
theorem rb_fars_ok {v : Nat → Int} {env : ra_N} {F : rb_D} (hN : ra_cN v env) (hF : rb_dv v F) : ∀ {hs : List rb_H} {gs : List ra_L}, rb_fars env F hs gs = true → rb_dv v gs
  | h :: hs, g :: gs, hh => by
    simp only [rb_fars, Bool.and_eq_true] at hh
    intro d hd
    rcases List.mem_cons.mp hd with e | e
    · rw [e]; exact rb_far_ok hN hF hh.1
    · exact rb_fars_ok hN hF hh.2 d e
  | [], [], _ => fun d hd => nomatch hd
  | _ :: _, [], _ => fun d hd => nomatch hd
  | [], _ :: _, hh => by simp [rb_fars] at hh
/-- sayings of the one in the words of the other -/
def rb_subs (μ : List (Nat × Int)) : rb_D → Option rb_D
  | [] => some []
  | d :: F => match ra_sub1 μ d.1 d.2 with
    | none => none
    | some l => match rb_subs μ F with
      | none => none
      | some L => some (l :: L)
theorem rb_subs_ok {v : Nat → Int} {μ : List (Nat × Int)} : ∀ {F G : rb_D}, rb_subs μ F = some G → rb_dv v G → rb_dv (ra_vI v μ) F
  | [], G, h, hd => fun d hm => nomatch hm
  | d :: F, G, h, hd => by
    unfold rb_subs at h
    split at h
    · cases h
    · rename_i l hl
      split at h
      · cases h
      · rename_i L hL
        cases h
        intro x hx
        rcases List.mem_cons.mp hx with e | e
        · rw [e]
          have e1 : ra_ev (ra_vI v μ) (d.1, d.2) = ra_ev v l := ra_sub1_ok hl
          have e2 : ra_ev (ra_vI v μ) (d.1, d.2) = ra_ev (ra_vI v μ) d := rfl
          rw [← e2, e1]
          exact hd l List.mem_cons_self
        · exact rb_subs_ok hL (fun y hy => hd y (List.mem_cons_of_mem _ hy)) x e
/-- the same, values kept by a map -/
theorem rb_sub1_v {v vc : Nat → Int} {n : Nat} {μ : List (Nat × Int)} (hμ : ∀ (i : Nat) (r : Nat × Int), μ[i]? = some r → r.1 < n ∧ vc i = v r.1 + r.2) : ∀ {ts : List (Nat × Int)} {k : Int} {l : ra_L}, ra_sub1 μ ts k = some l → rb_lb n l = true ∧ ra_ev vc (ts, k) = ra_ev v l
  | [], k, l, h => by
    simp [ra_sub1] at h
    subst h
    exact ⟨rfl, rfl⟩
  | t :: ts, k, l, h => by
    unfold ra_sub1 at h
    rw [ra_nth_eq] at h
    cases hr : μ[t.1]? with
    | none => rw [hr] at h; cases h
    | some r =>
      rw [hr] at h
      dsimp only at h
      cases hs : ra_sub1 μ ts k with
      | none => rw [hs] at h; cases h
      | some l' =>
        rw [hs] at h
        dsimp only at h
        cases h
        have ih := rb_sub1_v hμ hs
        have h1 := hμ _ _ hr
        refine ⟨?_, ?_⟩
        · unfold rb_lb
          rw [List.all_cons, Bool.and_eq_true]
          exact ⟨Nat.ble_eq_true_of_le h1.1, ih.1⟩
        · have e1 : ra_ev vc (t :: ts, k) = t.2 * vc t.1 + ra_ev vc (ts, k) := by simp [ra_ev]
          have e3 : ra_ev v ((r.1, t.2) :: l'.1, t.2 * r.2 + l'.2) = t.2 * v r.1 + ra_ev v (l'.1, t.2 * r.2 + l'.2) := by simp [ra_ev]
          have e4 := ra_ev_add v l'.1 l'.2 (t.2 * r.2)
          rw [Int.add_comm l'.2] at e4
          have e5 : ra_ev v (l'.1, l'.2) = ra_ev v l' := rfl
          rw [e5] at e4
          rw [e1, h1.2, e3, ih.2, e4, Int.mul_add, Int.add_assoc]
theorem rb_subs_v {v vc : Nat → Int} {n : Nat} {μ : List (Nat × Int)} (hμ : ∀ (i : Nat) (r : Nat × Int), μ[i]? = some r → r.1 < n ∧ vc i = v r.1 + r.2) : ∀ {F G : rb_D}, rb_subs μ F = some G → rb_dv vc F → rb_db n G = true ∧ rb_dv v G
  | [], G, h, hd => by
    cases h
    exact ⟨rfl, fun d hm => nomatch hm⟩
  | d :: F, G, h, hd => by
    unfold rb_subs at h
    split at h
    · cases h
    · rename_i l hl
      split at h
      · cases h
      · rename_i L hL
        cases h
        have h1 := rb_sub1_v hμ hl
        have ih := rb_subs_v hμ hL (fun y hy => hd y (List.mem_cons_of_mem _ hy))
        refine ⟨?_, fun x hx => ?_⟩
        · unfold rb_db
          rw [List.all_cons, Bool.and_eq_true]
          exact ⟨h1.1, ih.1⟩
        · rcases List.mem_cons.mp hx with e | e
          · rw [e, ← h1.2]
            exact hd d List.mem_cons_self
          · exact ih.2 x e
end
