section
/-! a domain of values: numbers as a symbol and an offset, symbols with bounds; places of cells -/
abbrev ra_V : Type := (Nat × Int) ⊕ (Nat ⊕ Nat)
abbrev ra_E : Type := ra_V ⊕ (Int × Int)
abbrev ra_C : Type := (Nat × List ra_V) ⊕ ((Nat × List ra_E) ⊕ (Nat × Nat × Int × Int))
abbrev ra_N : Type := List (Int × Int)
abbrev ra_S : Type := ra_N × List (Nat × ra_V) × List ra_V × List ra_C × Nat × Nat
def ra_leb (a b : Int) : Bool := match b - a with
  | .ofNat _ => true
  | .negSucc _ => false
theorem ra_leb_le {a b : Int} (h : ra_leb a b = true) : a ≤ b := by
  unfold ra_leb at h
  split at h
  · rename_i n hn
    have : b - a = (n : Int) := hn
    omega
  · cases h
theorem ra_leb_lt {a b : Int} (h : ¬ ra_leb a b = true) : b < a := by
  unfold ra_leb at h
  split at h
  · exact absurd rfl h
  · rename_i n hn
    have : b - a = Int.negSucc n := hn
    omega
theorem ra_leb_of {a b : Int} (h : a ≤ b) : ra_leb a b = true := by
  cases hq : ra_leb a b with
  | true => rfl
  | false => have := ra_leb_lt (a := a) (b := b) (by rw [hq]; decide); omega
def ra_eqb (a b : Int) : Bool := ra_leb a b && ra_leb b a
theorem ra_eqb_eq {a b : Int} (h : ra_eqb a b = true) : a = b := by
  simp only [ra_eqb, Bool.and_eq_true] at h
  have h1 := ra_leb_le h.1
  have h2 := ra_leb_le h.2
  omega
def ra_a2 {α β : Type} (R : α → β → Prop) : List α → List β → Prop
  | [], [] => True
  | a :: as, b :: bs => R a b ∧ ra_a2 R as bs
  | [], _ :: _ => False
  | _ :: _, [] => False
theorem ra_a2_len {α β : Type} {R : α → β → Prop} : ∀ {as : List α} {bs : List β}, ra_a2 R as bs → as.length = bs.length
  | [], [], _ => rfl
  | _ :: _, _ :: _, h => by simp [ra_a2_len h.2]
  | [], _ :: _, h => h.elim
  | _ :: _, [], h => h.elim
theorem ra_a2_get {α β : Type} {R : α → β → Prop} : ∀ {as : List α} {bs : List β}, ra_a2 R as bs → ∀ {i : Nat} {a : α}, as[i]? = some a → ∃ b, bs[i]? = some b ∧ R a b
  | [], [], _, i, a, h => by simp at h
  | x :: as, y :: bs, h, 0, a, h1 => by
    simp at h1
    subst h1
    exact ⟨y, by simp, h.1⟩
  | x :: as, y :: bs, h, i + 1, a, h1 => by
    simp at h1
    obtain ⟨b, h2, h3⟩ := ra_a2_get h.2 h1
    exact ⟨b, by simpa using h2, h3⟩
  | [], _ :: _, h, _, _, _ => h.elim
  | _ :: _, [], h, _, _, _ => h.elim
theorem ra_a2_mono {α β : Type} {R R' : α → β → Prop} (hR : ∀ a b, R a b → R' a b) : ∀ {as : List α} {bs : List β}, ra_a2 R as bs → ra_a2 R' as bs
  | [], [], _ => trivial
  | _ :: _, _ :: _, h => ⟨hR _ _ h.1, ra_a2_mono hR h.2⟩
  | [], _ :: _, h => h.elim
  | _ :: _, [], h => h.elim
theorem ra_a2_set {α β : Type} {R : α → β → Prop} : ∀ {as : List α} {bs : List β}, ra_a2 R as bs → ∀ (i : Nat) {a : α} {b : β}, R a b → ra_a2 R (as.set i a) (bs.set i b)
  | [], [], _, _, _, _, _ => trivial
  | _ :: _, _ :: _, h, 0, _, _, h1 => ⟨h1, h.2⟩
  | _ :: _, _ :: _, h, i + 1, _, _, h1 => ⟨h.1, ra_a2_set h.2 i h1⟩
  | [], _ :: _, h, _, _, _, _ => h.elim
  | _ :: _, [], h, _, _, _, _ => h.elim
theorem ra_a2_app {α β : Type} {R : α → β → Prop} : ∀ {as : List α} {bs : List β} {as' : List α} {bs' : List β}, ra_a2 R as bs → ra_a2 R as' bs' → ra_a2 R (as ++ as') (bs ++ bs')
  | [], [], _, _, _, h => h
  | _ :: _, _ :: _, _, _, h, h1 => ⟨h.1, ra_a2_app h.2 h1⟩
  | [], _ :: _, _, _, h, _ => h.elim
  | _ :: _, [], _, _, h, _ => h.elim
theorem ra_a2_of {α β : Type} {R : α → β → Prop} : ∀ {as : List α} {bs : List β}, as.length = bs.length → (∀ (i : Nat) (a : α) (b : β), as[i]? = some a → bs[i]? = some b → R a b) → ra_a2 R as bs
  | [], [], _, _ => trivial
  | a :: as, b :: bs, h, h1 => ⟨h1 0 a b (by simp) (by simp), ra_a2_of (by simpa using h) (fun i x y hx hy => h1 (i + 1) x y (by simpa using hx) (by simpa using hy))⟩
  | [], _ :: _, h, _ => by simp at h
  | _ :: _, [], h, _ => by simp at h
theorem ra_a2_filter {α β : Type} {R : α → β → Prop} {p : α → Bool} {q : β → Bool} (hpq : ∀ a b, R a b → p a = q b) : ∀ {as : List α} {bs : List β}, ra_a2 R as bs → ra_a2 R (as.filter p) (bs.filter q)
  | [], [], _ => trivial
  | a :: as, b :: bs, h => by
    have h2 := ra_a2_filter (p := p) (q := q) hpq h.2
    have h3 := hpq a b h.1
    cases hp : p a with
    | true => rw [List.filter_cons_of_pos hp, List.filter_cons_of_pos (by rw [← h3]; exact hp)]; exact ⟨h.1, h2⟩
    | false => rw [List.filter_cons_of_neg (by rw [hp]; decide), List.filter_cons_of_neg (by rw [← h3, hp]; decide)]; exact h2
  | [], _ :: _, h => h.elim
  | _ :: _, [], h => h.elim
def ra_cN (v : Nat → Int) (env : ra_N) : Prop := 0 < env.length ∧ v 0 = 0 ∧ ∀ (i : Nat) (q : Int × Int), env[i]? = some q → q.1 ≤ v i ∧ v i ≤ q.2
def ra_cV (n : Nat) (v : Nat → Int) (ads : List Nat) (b0 : Nat → Nat) (a : ra_V) (x : Value) : Prop := match a with
  | .inl q => q.1 < n ∧ ∃ y : Int32, x = .int y ∧ y.toInt = v q.1 + q.2
  | .inr (.inl i) => ∃ r, ads[i]? = some r ∧ x = .ref r
  | .inr (.inr k) => (k = 0 ∧ x = .null) ∨ (k = 1 ∧ ∃ y : Int64, x = .long y) ∨ (2 ≤ k ∧ x = .ref (b0 k))
def ra_cE (n : Nat) (v : Nat → Int) (ads : List Nat) (b0 : Nat → Nat) (a : ra_E) (x : Value) : Prop := match a with
  | .inl a => ra_cV n v ads b0 a x
  | .inr q => ∃ y : Int32, x = .int y ∧ q.1 ≤ y.toInt ∧ y.toInt ≤ q.2
def ra_cC (n : Nat) (v : Nat → Int) (ads : List Nat) (b0 : Nat → Nat) (cT : Nat → ClassId) (c : ra_C) (e : va_E) : Prop := match c with
  | .inl o => ∃ fs, e = .inr (o.1, fs) ∧ ra_a2 (ra_cV n v ads b0) o.2 fs
  | .inr (.inl o) => (o.1 < 3 ∧ ∃ f : Nat → Int32, e = .inl (cT o.1, o.2.length, .inl f) ∧ ∀ (j : Nat) (x : ra_E), o.2[j]? = some x → ra_cE n v ads b0 x (.int (f j))) ∨ (o.1 = 4 ∧ ∃ g : Nat → Option Nat, e = .inl (cT 4, o.2.length, .inr (.inr (.inr (.inr g)))) ∧ ∀ (j : Nat) (x : ra_E), o.2[j]? = some x → ra_cE n v ads b0 x (va_rf (g j)))
  | .inr (.inr o) => (o.1 < 3 ∧ ∃ f : Nat → Int32, e = .inl (cT o.1, o.2.1, .inl f) ∧ ∀ j : Nat, j < o.2.1 → o.2.2.1 ≤ (f j).toInt ∧ (f j).toInt ≤ o.2.2.2) ∨ (o.1 = 3 ∧ ∃ f : Nat → Int64, e = .inl (cT 3, o.2.1, .inr (.inl f)))
def ra_pf (ad0 : List Nat) (ws : va_W) : Prop := ∀ (k r : Nat), ad0[k]? = some r → (ws.map Prod.fst)[k]? = some r
def ra_g (b0 : Nat → Nat) (ad0 : List Nat) (cT : Nat → ClassId) (v : Nat → Int) (a : ra_S) (lv : List (Nat × Value)) (st : List Value) (ws : va_W) : Prop :=
  ra_cN v a.1 ∧ ra_a2 (fun (p : Nat × ra_V) (q : Nat × Value) => p.1 = q.1 ∧ ra_cV a.1.length v (ws.map Prod.fst) b0 p.2 q.2) a.2.1 lv ∧ ra_a2 (ra_cV a.1.length v (ws.map Prod.fst) b0) a.2.2.1 st ∧ ra_a2 (fun (c : ra_C) (q : Nat × va_E) => ra_cC a.1.length v (ws.map Prod.fst) b0 cT c q.2) a.2.2.2.1 ws ∧ ra_pf ad0 ws
theorem ra_cV_ext {n n' : Nat} {v v' : Nat → Int} {ads ads' : List Nat} {b0 : Nat → Nat} (hn : n ≤ n') (hv : ∀ i, i < n → v' i = v i) (ha : ∀ (i r : Nat), ads[i]? = some r → ads'[i]? = some r) {a : ra_V} {x : Value} (h : ra_cV n v ads b0 a x) : ra_cV n' v' ads' b0 a x := by
  rcases a with q | i | k
  · obtain ⟨h1, y, h2, h3⟩ := h
    exact ⟨by omega, y, h2, by rw [hv _ h1]; exact h3⟩
  · obtain ⟨r, h1, h2⟩ := h
    exact ⟨r, ha _ _ h1, h2⟩
  · exact h
theorem ra_cE_ext {n n' : Nat} {v v' : Nat → Int} {ads ads' : List Nat} {b0 : Nat → Nat} (hn : n ≤ n') (hv : ∀ i, i < n → v' i = v i) (ha : ∀ (i r : Nat), ads[i]? = some r → ads'[i]? = some r) {a : ra_E} {x : Value} (h : ra_cE n v ads b0 a x) : ra_cE n' v' ads' b0 a x := by
  rcases a with q | q
  · exact ra_cV_ext (a := q) hn hv ha h
  · exact h
theorem ra_cC_ext {n n' : Nat} {v v' : Nat → Int} {ads ads' : List Nat} {b0 : Nat → Nat} {cT : Nat → ClassId} (hn : n ≤ n') (hv : ∀ i, i < n → v' i = v i) (ha : ∀ (i r : Nat), ads[i]? = some r → ads'[i]? = some r) {c : ra_C} {x : va_E} (h : ra_cC n v ads b0 cT c x) : ra_cC n' v' ads' b0 cT c x := by
  rcases c with o | o | o
  · obtain ⟨fs, h1, h2⟩ := h
    exact ⟨fs, h1, ra_a2_mono (fun a b h => ra_cV_ext hn hv ha h) h2⟩
  · rcases h with ⟨h0, f, h1, h2⟩ | ⟨h0, f, h1, h2⟩
    · exact Or.inl ⟨h0, f, h1, fun j x hx => ra_cE_ext hn hv ha (h2 j x hx)⟩
    · exact Or.inr ⟨h0, f, h1, fun j x hx => ra_cE_ext hn hv ha (h2 j x hx)⟩
  · exact h
def ra_lo : Int := -2147483648
def ra_hi : Int := 2147483647
def ra_rg (env : ra_N) (q : Nat × Int) : Int × Int := match env[q.1]? with
  | some r => (r.1 + q.2, r.2 + q.2)
  | none => (ra_lo, ra_hi)
theorem ra_i32 (y : Int32) : ra_lo ≤ y.toInt ∧ y.toInt ≤ ra_hi := by
  have h1 := Int32.le_toInt y
  have h2 := Int32.toInt_lt y
  unfold ra_lo ra_hi
  omega
theorem ra_rg_ok {v : Nat → Int} {env : ra_N} (hN : ra_cN v env) {q : Nat × Int} {y : Int32} (h : y.toInt = v q.1 + q.2) : (ra_rg env q).1 ≤ y.toInt ∧ y.toInt ≤ (ra_rg env q).2 := by
  unfold ra_rg
  cases hq : env[q.1]? with
  | none => exact ra_i32 y
  | some r =>
    have := hN.2.2 _ _ hq
    dsimp only
    omega
/-- a number known by one value alone is a constant -/
def ra_nm (env : ra_N) (q : Nat × Int) : Nat × Int := let r := ra_rg env q; if ra_eqb r.1 r.2 then (0, r.1) else q
theorem ra_nm_ok {v : Nat → Int} {env : ra_N} (hN : ra_cN v env) {q : Nat × Int} {y : Int32} (hq : q.1 < env.length) (h : y.toInt = v q.1 + q.2) : (ra_nm env q).1 < env.length ∧ y.toInt = v (ra_nm env q).1 + (ra_nm env q).2 := by
  have h1 := ra_rg_ok hN h
  unfold ra_nm
  dsimp only
  split
  · rename_i he
    have := ra_eqb_eq he
    refine ⟨hN.1, ?_⟩
    show y.toInt = v 0 + _
    rw [hN.2.1]
    omega
  · exact ⟨hq, h⟩
def ra_fr (env : ra_N) (lo hi : Int) : ra_N × (Nat × Int) := (env ++ [(lo, hi)], (env.length, 0))
/-- what an operation's result must be -/
def ra_res (v : Nat → Int) (env : ra_N) (r : ra_N × (Nat × Int)) (z : Int) : Prop :=
  env.length ≤ r.1.length ∧ r.2.1 < r.1.length ∧ ∃ v' : Nat → Int, (∀ i, i < env.length → v' i = v i) ∧ ra_cN v' r.1 ∧ z = v' r.2.1 + r.2.2
theorem ra_cN_fr {v : Nat → Int} {env : ra_N} (hN : ra_cN v env) {lo hi z : Int} (h1 : lo ≤ z) (h2 : z ≤ hi) : ra_cN (fun i => if i = env.length then z else v i) (env ++ [(lo, hi)]) := by
  obtain ⟨a, b, c⟩ := hN
  refine ⟨by simp, ?_, fun i q hq => ?_⟩
  · show (if 0 = env.length then z else v 0) = 0
    rw [if_neg (by omega)]
    exact b
  · show q.1 ≤ (if i = env.length then z else v i) ∧ (if i = env.length then z else v i) ≤ q.2
    by_cases hi : i = env.length
    · subst hi
      simp at hq
      subst hq
      simp
      exact ⟨h1, h2⟩
    · rw [if_neg hi]
      have hl : i < env.length := by
        have := (List.getElem?_eq_some_iff.mp hq).1
        simp at this
        omega
      rw [List.getElem?_append_left hl] at hq
      exact c i q hq
theorem ra_fr_ok {v : Nat → Int} {env : ra_N} (hN : ra_cN v env) {lo hi z : Int} (h1 : lo ≤ z) (h2 : z ≤ hi) : ra_res v env (ra_fr env lo hi) z := by
  refine ⟨by simp [ra_fr], by simp [ra_fr], fun i => if i = env.length then z else v i, fun i hi => if_neg (by omega), ra_cN_fr hN h1 h2, ?_⟩
  show z = (if env.length = env.length then z else v env.length) + 0
  rw [if_pos rfl]
  omega
theorem ra_res_same {v : Nat → Int} {env : ra_N} (hN : ra_cN v env) {q : Nat × Int} {z : Int} (hq : q.1 < env.length) (h : z = v q.1 + q.2) : ra_res v env (env, q) z :=
  ⟨Nat.le_refl _, hq, v, fun _ _ => rfl, hN, h⟩
def ra_inr (lo hi : Int) : Bool := ra_leb ra_lo lo && ra_leb hi ra_hi
theorem ra_inr_ok {lo hi : Int} (h : ra_inr lo hi = true) : ra_lo ≤ lo ∧ hi ≤ ra_hi := by
  simp only [ra_inr, Bool.and_eq_true] at h
  exact ⟨ra_leb_le h.1, ra_leb_le h.2⟩
theorem ra_bmod {z : Int} (h : ra_lo ≤ z ∧ z ≤ ra_hi) : z.bmod 4294967296 = z := by
  unfold ra_lo ra_hi at h
  rw [Int.bmod_def]
  split <;> omega
theorem ra_toInt_add (x y : Int32) (h : ra_lo ≤ x.toInt + y.toInt ∧ x.toInt + y.toInt ≤ ra_hi) : (x + y).toInt = x.toInt + y.toInt := by
  rw [Int32.toInt_add]
  exact ra_bmod h
theorem ra_toInt_sub (x y : Int32) (h : ra_lo ≤ x.toInt - y.toInt ∧ x.toInt - y.toInt ≤ ra_hi) : (x - y).toInt = x.toInt - y.toInt := by
  rw [Int32.toInt_sub]
  exact ra_bmod h
theorem ra_toInt_mul (x y : Int32) (h : ra_lo ≤ x.toInt * y.toInt ∧ x.toInt * y.toInt ≤ ra_hi) : (x * y).toInt = x.toInt * y.toInt := by
  rw [Int32.toInt_mul]
  exact ra_bmod h
/-- a result within bounds, or any number -/
def ra_frc (env : ra_N) (lo hi : Int) : ra_N × (Nat × Int) := if ra_inr lo hi then ra_fr env lo hi else ra_fr env ra_lo ra_hi
def ra_sh (env : ra_N) (q : Nat × Int) (k : Int) : ra_N × (Nat × Int) := let r := ra_rg env q; if ra_inr (r.1 + k) (r.2 + k) then (env, (q.1, q.2 + k)) else ra_fr env ra_lo ra_hi
def ra_add (env : ra_N) (x y : Nat × Int) : ra_N × (Nat × Int) :=
  if y.1 = 0 then ra_sh env x y.2 else if x.1 = 0 then ra_sh env y x.2 else let a := ra_rg env x; let b := ra_rg env y; ra_frc env (a.1 + b.1) (a.2 + b.2)
def ra_sub (env : ra_N) (x y : Nat × Int) : ra_N × (Nat × Int) :=
  if y.1 = 0 then ra_sh env x (- y.2) else if x.1 = y.1 ∧ ra_inr (x.2 - y.2) (x.2 - y.2) = true then (env, (0, x.2 - y.2)) else let a := ra_rg env x; let b := ra_rg env y; ra_frc env (a.1 - b.2) (a.2 - b.1)
theorem ra_sh_ok {v : Nat → Int} {env : ra_N} (hN : ra_cN v env) {q : Nat × Int} {x : Int32} {k : Int} {z : Int32} (hq : q.1 < env.length) (h : x.toInt = v q.1 + q.2) (hz : ra_lo ≤ x.toInt + k ∧ x.toInt + k ≤ ra_hi → z.toInt = x.toInt + k) : ra_res v env (ra_sh env q k) z.toInt := by
  have h1 := ra_rg_ok hN h
  unfold ra_sh
  dsimp only
  split
  · rename_i hi
    have h2 := ra_inr_ok hi
    refine ra_res_same hN hq ?_
    rw [hz (by omega), h]
    dsimp only
    omega
  · exact ra_fr_ok hN (ra_i32 z).1 (ra_i32 z).2
theorem ra_add_ok {v : Nat → Int} {env : ra_N} (hN : ra_cN v env) {qx qy : Nat × Int} {x y : Int32} (hx : qx.1 < env.length) (hy : qy.1 < env.length) (ex : x.toInt = v qx.1 + qx.2) (ey : y.toInt = v qy.1 + qy.2) : ra_res v env (ra_add env qx qy) (x + y).toInt := by
  unfold ra_add
  split
  · rename_i h0
    have e0 : y.toInt = qy.2 := by rw [ey, h0, hN.2.1]; omega
    exact ra_sh_ok hN hx ex (fun h => by rw [← e0] at h ⊢; exact ra_toInt_add x y h)
  · split
    · rename_i h0
      have e0 : x.toInt = qx.2 := by rw [ex, h0, hN.2.1]; omega
      exact ra_sh_ok hN hy ey (fun h => by rw [← e0] at h ⊢; rw [ra_toInt_add x y (by omega)]; omega)
    · have h1 := ra_rg_ok hN ex
      have h2 := ra_rg_ok hN ey
      dsimp only
      unfold ra_frc
      split
      · rename_i hi
        have h3 := ra_inr_ok hi
        have h4 := ra_toInt_add x y (by omega)
        exact ra_fr_ok hN (by omega) (by omega)
      · exact ra_fr_ok hN (ra_i32 _).1 (ra_i32 _).2
theorem ra_sub_ok {v : Nat → Int} {env : ra_N} (hN : ra_cN v env) {qx qy : Nat × Int} {x y : Int32} (hx : qx.1 < env.length) (hy : qy.1 < env.length) (ex : x.toInt = v qx.1 + qx.2) (ey : y.toInt = v qy.1 + qy.2) : ra_res v env (ra_sub env qx qy) (x - y).toInt := by
  unfold ra_sub
  split
  · rename_i h0
    have e0 : y.toInt = qy.2 := by rw [ey, h0, hN.2.1]; omega
    exact ra_sh_ok hN hx ex (fun h => by rw [← e0] at h ⊢; rw [ra_toInt_sub x y (by omega)]; omega)
  · split
    · rename_i h0
      have h3 := ra_inr_ok h0.2
      refine ra_res_same hN hN.1 ?_
      have e0 : x.toInt - y.toInt = qx.2 - qy.2 := by rw [ex, ey, h0.1]; omega
      rw [ra_toInt_sub x y (by omega), e0]
      show _ = v 0 + _
      rw [hN.2.1]
      omega
    · have h1 := ra_rg_ok hN ex
      have h2 := ra_rg_ok hN ey
      dsimp only
      unfold ra_frc
      split
      · rename_i hi
        have h3 := ra_inr_ok hi
        have h4 := ra_toInt_sub x y (by omega)
        exact ra_fr_ok hN (by omega) (by omega)
      · exact ra_fr_ok hN (ra_i32 _).1 (ra_i32 _).2
/-- an operation on numbers: of two constants its value, else bounds -/
def ra_bin (f : Int32 → Int32 → Int32) (g : Int × Int → Int × Int → Int × Int) (env : ra_N) (x y : Nat × Int) : ra_N × (Nat × Int) :=
  let a := ra_nm env x; let b := ra_nm env y
  if a.1 = 0 ∧ b.1 = 0 then (env, (0, (f (Int32.ofInt a.2) (Int32.ofInt b.2)).toInt)) else let r := g (ra_rg env x) (ra_rg env y); ra_fr env r.1 r.2
def ra_gok (f : Int32 → Int32 → Int32) (g : Int × Int → Int × Int → Int × Int) (P : Int32 → Int32 → Prop) : Prop := ∀ (a b : Int × Int) (x y : Int32), P x y → a.1 ≤ x.toInt → x.toInt ≤ a.2 → b.1 ≤ y.toInt → y.toInt ≤ b.2 → (g a b).1 ≤ (f x y).toInt ∧ (f x y).toInt ≤ (g a b).2
theorem ra_bin_ok {f : Int32 → Int32 → Int32} {g : Int × Int → Int × Int → Int × Int} {P : Int32 → Int32 → Prop} (hg : ra_gok f g P) {v : Nat → Int} {env : ra_N} (hN : ra_cN v env) {qx qy : Nat × Int} {x y : Int32} (hx : qx.1 < env.length) (hy : qy.1 < env.length) (ex : x.toInt = v qx.1 + qx.2) (ey : y.toInt = v qy.1 + qy.2) (hP : P x y) : ra_res v env (ra_bin f g env qx qy) (f x y).toInt := by
  have h1 := ra_nm_ok hN hx ex
  have h2 := ra_nm_ok hN hy ey
  unfold ra_bin
  dsimp only
  split
  · rename_i h0
    have e1 : x = Int32.ofInt (ra_nm env qx).2 := by
      have : x.toInt = (ra_nm env qx).2 := by rw [h1.2, h0.1, hN.2.1]; omega
      rw [← this, Int32.ofInt_toInt]
    have e2 : y = Int32.ofInt (ra_nm env qy).2 := by
      have : y.toInt = (ra_nm env qy).2 := by rw [h2.2, h0.2, hN.2.1]; omega
      rw [← this, Int32.ofInt_toInt]
    rw [← e1, ← e2]
    refine ra_res_same hN hN.1 ?_
    show _ = v 0 + _
    rw [hN.2.1]
    omega
  · have h3 := ra_rg_ok hN ex
    have h4 := ra_rg_ok hN ey
    have h5 := hg _ _ x y hP h3.1 h3.2 h4.1 h4.2
    exact ra_fr_ok hN h5.1 h5.2
def ra_top (_ _ : Int × Int) : Int × Int := (ra_lo, ra_hi)
theorem ra_top_ok (f : Int32 → Int32 → Int32) (P : Int32 → Int32 → Prop) : ra_gok f ra_top P := fun _ _ x y _ _ _ _ _ => ra_i32 (f x y)
def ra_gmul (a b : Int × Int) : Int × Int := if ra_leb 0 a.1 && ra_leb 0 b.1 && ra_leb (a.2 * b.2) ra_hi then (a.1 * b.1, a.2 * b.2) else (ra_lo, ra_hi)
theorem ra_gmul_ok : ra_gok (fun x y => x * y) ra_gmul (fun _ _ => True) := by
  intro a b x y _ h1 h2 h3 h4
  unfold ra_gmul
  split
  · rename_i h
    simp only [Bool.and_eq_true] at h
    have g1 := ra_leb_le h.1.1
    have g2 := ra_leb_le h.1.2
    have g3 := ra_leb_le h.2
    have k1 : a.1 * b.1 ≤ x.toInt * y.toInt := Int.mul_le_mul h1 h3 g2 (by omega)
    have k2 : x.toInt * y.toInt ≤ a.2 * b.2 := Int.mul_le_mul h2 h4 (by omega) (by omega)
    have k3 : 0 ≤ a.1 * b.1 := Int.mul_nonneg g1 g2
    have k4 := ra_toInt_mul x y ⟨by unfold ra_lo; omega, by omega⟩
    show a.1 * b.1 ≤ (x * y).toInt ∧ (x * y).toInt ≤ a.2 * b.2
    omega
  · exact ra_i32 _
end
section
/-! bounds of and, division, rest; comparisons refine bounds -/
theorem ra_toNat_of {x : Int32} (h : 0 ≤ x.toInt) : (x.toBitVec.toNat : Int) = x.toInt ∧ x.toBitVec.toNat < 2147483648 := by
  have h1 := x.toBitVec.isLt
  have h2 : x.toInt = x.toBitVec.toInt := rfl
  rw [BitVec.toInt_eq_toNat_cond] at h2
  split at h2
  · constructor <;> omega
  · have : (x.toBitVec.toNat : Int) < 4294967296 := by omega
    omega
theorem ra_toInt_of {x : Int32} (h : x.toBitVec.toNat < 2147483648) : x.toInt = (x.toBitVec.toNat : Int) := by
  have h2 : x.toInt = x.toBitVec.toInt := rfl
  rw [BitVec.toInt_eq_toNat_cond] at h2
  split at h2
  · exact h2
  · omega
def ra_gand (a b : Int × Int) : Int × Int := if ra_leb 0 b.1 then (0, b.2) else if ra_leb 0 a.1 then (0, a.2) else (ra_lo, ra_hi)
theorem ra_and_le {x y : Int32} (h : 0 ≤ y.toInt) : 0 ≤ (x &&& y).toInt ∧ (x &&& y).toInt ≤ y.toInt := by
  obtain ⟨h1, h2⟩ := ra_toNat_of h
  have h3 : (x &&& y).toBitVec.toNat = x.toBitVec.toNat &&& y.toBitVec.toNat := by
    rw [Int32.toBitVec_and, BitVec.toNat_and]
  have h4 : (x &&& y).toBitVec.toNat ≤ y.toBitVec.toNat := by
    rw [h3]
    exact Nat.and_le_right
  have h5 := ra_toInt_of (x := x &&& y) (by omega)
  omega
theorem ra_gand_ok : ra_gok (fun x y => x &&& y) ra_gand (fun _ _ => True) := by
  intro a b x y _ h1 h2 h3 h4
  unfold ra_gand
  split
  · rename_i h
    have g := ra_leb_le h
    have := ra_and_le (x := x) (y := y) (by omega)
    show 0 ≤ (x &&& y).toInt ∧ (x &&& y).toInt ≤ b.2
    omega
  · split
    · rename_i h
      have g := ra_leb_le h
      have := ra_and_le (x := y) (y := x) (by omega)
      have e : x &&& y = y &&& x := by
        rw [← Int32.toBitVec_inj, Int32.toBitVec_and, Int32.toBitVec_and, BitVec.and_comm]
      show 0 ≤ (x &&& y).toInt ∧ (x &&& y).toInt ≤ a.2
      rw [e]
      omega
    · exact ra_i32 _
theorem ra_tdiv {a b : Int} (h : 1 ≤ b) : (0 ≤ a → 0 ≤ a.tdiv b ∧ a.tdiv b ≤ a) ∧ (a ≤ 0 → a ≤ a.tdiv b ∧ a.tdiv b ≤ 0) := by
  constructor
  · intro ha
    exact ⟨Int.tdiv_nonneg ha (by omega), Int.tdiv_le_self b ha⟩
  · intro ha
    have h1 : 0 ≤ (-a).tdiv b := Int.tdiv_nonneg (by omega) (by omega)
    have h2 : (-a).tdiv b ≤ -a := Int.tdiv_le_self b (by omega)
    rw [Int.neg_tdiv] at h1 h2
    omega
theorem ra_toInt_div (x y : Int32) (h : 1 ≤ y.toInt) : (x / y).toInt = x.toInt.tdiv y.toInt := by
  rw [Int32.toInt_div]
  have h1 := ra_i32 x
  have h2 := ra_tdiv (a := x.toInt) h
  unfold ra_lo ra_hi at h1
  apply ra_bmod
  unfold ra_lo ra_hi
  rcases Int.le_total 0 x.toInt with h3 | h3
  · have := h2.1 h3
    omega
  · have := h2.2 h3
    omega
def ra_gdiv (a b : Int × Int) : Int × Int := if ra_leb 0 a.1 && ra_leb 1 b.1 then (a.1 / b.2, a.2 / b.1) else (ra_lo, ra_hi)
theorem ra_gdiv_ok : ra_gok (fun x y => x / y) ra_gdiv (fun _ _ => True) := by
  intro a b x y _ h1 h2 h3 h4
  unfold ra_gdiv
  split
  · rename_i h
    simp only [Bool.and_eq_true] at h
    have g1 := ra_leb_le h.1
    have g2 := ra_leb_le h.2
    have e := ra_toInt_div x y (by omega)
    rw [Int.tdiv_eq_ediv_of_nonneg (by omega)] at e
    show a.1 / b.2 ≤ (x / y).toInt ∧ (x / y).toInt ≤ a.2 / b.1
    rw [e]
    have hy : 0 < y.toInt := by omega
    have hb2 : 0 < b.2 := by omega
    have hb1 : 0 < b.1 := by omega
    constructor
    · rw [Int.le_ediv_iff_mul_le hy]
      have k1 : a.1 / b.2 * b.2 ≤ a.1 := Int.ediv_mul_le _ (by omega)
      have k2 : 0 ≤ a.1 / b.2 := Int.ediv_nonneg g1 (by omega)
      have k3 : a.1 / b.2 * y.toInt ≤ a.1 / b.2 * b.2 := Int.mul_le_mul_of_nonneg_left h4 k2
      omega
    · rw [Int.le_ediv_iff_mul_le hb1]
      have k1 : x.toInt / y.toInt * y.toInt ≤ x.toInt := Int.ediv_mul_le _ (by omega)
      have k2 : 0 ≤ x.toInt / y.toInt := Int.ediv_nonneg (by omega) (by omega)
      have k3 : x.toInt / y.toInt * b.1 ≤ x.toInt / y.toInt * y.toInt := Int.mul_le_mul_of_nonneg_left h3 k2
      omega
  · exact ra_i32 _
def ra_frem (x y : Int32) : Int32 := x - x / y * y
def ra_grem (a b : Int × Int) : Int × Int := if ra_leb 1 b.1 then (if ra_leb 0 a.1 then (0, b.2 - 1) else (1 - b.2, b.2 - 1)) else (ra_lo, ra_hi)
theorem ra_toInt_rem (x y : Int32) (h : 1 ≤ y.toInt) : (ra_frem x y).toInt = x.toInt.tmod y.toInt := by
  have h1 := ra_i32 x
  have hd := ra_toInt_div x y h
  have e : x.toInt.tdiv y.toInt * y.toInt + x.toInt.tmod y.toInt = x.toInt := Int.tdiv_mul_add_tmod _ _
  have h2 := Int.tmod_lt_of_pos x.toInt (b := y.toInt) (by omega)
  have h2' : - y.toInt < x.toInt.tmod y.toInt := by
    have := Int.tmod_lt_of_pos (-x.toInt) (b := y.toInt) (by omega)
    rw [Int.neg_tmod] at this
    omega
  have h3 : ra_lo ≤ x.toInt.tdiv y.toInt * y.toInt ∧ x.toInt.tdiv y.toInt * y.toInt ≤ ra_hi := by
    rcases Int.le_total 0 x.toInt with h4 | h4
    · have k1 := Int.tmod_nonneg y.toInt h4
      have k2 : 0 ≤ x.toInt.tdiv y.toInt * y.toInt := Int.mul_nonneg ((ra_tdiv h).1 h4).1 (by omega)
      unfold ra_lo ra_hi at *
      omega
    · have k1 := Int.tmod_nonneg (a := -x.toInt) y.toInt (by omega)
      rw [Int.neg_tmod] at k1
      have k2 : 0 ≤ (-(x.toInt.tdiv y.toInt)) * y.toInt := Int.mul_nonneg (by have := ((ra_tdiv h).2 h4).2; omega) (by omega)
      rw [Int.neg_mul] at k2
      unfold ra_lo ra_hi at *
      omega
  have hm : (x / y * y).toInt = x.toInt.tdiv y.toInt * y.toInt := by
    rw [ra_toInt_mul _ _ (by rw [hd]; exact h3), hd]
  unfold ra_frem
  rw [ra_toInt_sub _ _ (by rw [hm]; have := ra_i32 y; unfold ra_lo ra_hi at *; omega), hm]
  omega
theorem ra_grem_ok : ra_gok ra_frem ra_grem (fun _ _ => True) := by
  intro a b x y _ h1 h2 h3 h4
  unfold ra_grem
  split
  · rename_i h
    have g1 := ra_leb_le h
    have e := ra_toInt_rem x y (by omega)
    have k1 := Int.tmod_lt_of_pos x.toInt (b := y.toInt) (by omega)
    have k2 : - y.toInt < x.toInt.tmod y.toInt := by
      have := Int.tmod_lt_of_pos (-x.toInt) (b := y.toInt) (by omega)
      rw [Int.neg_tmod] at this
      omega
    split
    · rename_i h0
      have g2 := ra_leb_le h0
      have k3 := Int.tmod_nonneg (a := x.toInt) y.toInt (by omega)
      show 0 ≤ _ ∧ _ ≤ b.2 - 1
      omega
    · show 1 - b.2 ≤ _ ∧ _ ≤ b.2 - 1
      omega
  · exact ra_i32 _
/-- bounds of one symbol made narrower; none if nothing is left -/
def ra_meet (env : ra_N) (i : Nat) (lo hi : Int) : Option ra_N := match env[i]? with
  | none => none
  | some r =>
    let l := if ra_leb lo r.1 then r.1 else lo
    let h := if ra_leb r.2 hi then r.2 else hi
    if ra_leb l h then some (env.set i (l, h)) else none
theorem ra_meet_ok {v : Nat → Int} {env : ra_N} (hN : ra_cN v env) {i : Nat} {lo hi : Int} (hi0 : i < env.length) (h1 : lo ≤ v i) (h2 : v i ≤ hi) : ∃ e, ra_meet env i lo hi = some e ∧ ra_cN v e ∧ e.length = env.length := by
  have hr : env[i]? = some env[i] := List.getElem?_eq_getElem hi0
  have hb := hN.2.2 _ _ hr
  unfold ra_meet
  rw [hr]
  dsimp only
  generalize hl : (if ra_leb lo (env[i]).1 = true then (env[i]).1 else lo) = l
  generalize hh : (if ra_leb (env[i]).2 hi = true then (env[i]).2 else hi) = h
  have el : l ≤ v i := by rw [← hl]; split <;> omega
  have eh : v i ≤ h := by rw [← hh]; split <;> omega
  rw [if_pos (ra_leb_of (by omega))]
  refine ⟨_, rfl, ⟨by simp; exact hN.1, hN.2.1, fun j q hq => ?_⟩, by simp⟩
  rw [List.getElem?_set] at hq
  split at hq
  · rename_i hij
    subst hij
    simp [hi0] at hq
    subst hq
    exact ⟨el, eh⟩
  · exact hN.2.2 j q hq
def ra_mU (env : ra_N) (i : Nat) (hi : Int) : Option ra_N := match env[i]? with
  | none => none
  | some r => ra_meet env i r.1 hi
def ra_mL (env : ra_N) (i : Nat) (lo : Int) : Option ra_N := match env[i]? with
  | none => none
  | some r => ra_meet env i lo r.2
theorem ra_mU_ok {v : Nat → Int} {env : ra_N} (hN : ra_cN v env) {i : Nat} {hi : Int} (hi0 : i < env.length) (h2 : v i ≤ hi) : ∃ e, ra_mU env i hi = some e ∧ ra_cN v e ∧ e.length = env.length := by
  have hr : env[i]? = some env[i] := List.getElem?_eq_getElem hi0
  unfold ra_mU
  rw [hr]
  exact ra_meet_ok hN hi0 (hN.2.2 _ _ hr).1 h2
theorem ra_mL_ok {v : Nat → Int} {env : ra_N} (hN : ra_cN v env) {i : Nat} {lo : Int} (hi0 : i < env.length) (h2 : lo ≤ v i) : ∃ e, ra_mL env i lo = some e ∧ ra_cN v e ∧ e.length = env.length := by
  have hr : env[i]? = some env[i] := List.getElem?_eq_getElem hi0
  unfold ra_mL
  rw [hr]
  exact ra_meet_ok hN hi0 h2 (hN.2.2 _ _ hr).2
/-- x + d ≤ y -/
def ra_le (d : Int) (env : ra_N) (x y : Nat × Int) : List ra_N :=
  if x.1 = y.1 then (if ra_leb (x.2 + d) y.2 then [env] else []) else
  match (if x.1 = 0 then (if ra_leb (x.2 + d) (ra_rg env y).2 then some env else none) else ra_mU env x.1 ((ra_rg env y).2 - d - x.2)) with
  | none => []
  | some e => match (if y.1 = 0 then some e else ra_mL e y.1 ((ra_rg e x).1 + d - y.2)) with
    | none => []
    | some e2 => [e2]
theorem ra_le_ok {v : Nat → Int} {env : ra_N} (hN : ra_cN v env) {qx qy : Nat × Int} {x y : Int32} {d : Int} (hx : qx.1 < env.length) (hy : qy.1 < env.length) (ex : x.toInt = v qx.1 + qx.2) (ey : y.toInt = v qy.1 + qy.2) (h : x.toInt + d ≤ y.toInt) : ∃ e ∈ ra_le d env qx qy, ra_cN v e ∧ e.length = env.length := by
  unfold ra_le
  split
  · rename_i h0
    rw [h0] at ex
    rw [if_pos (ra_leb_of (by omega))]
    exact ⟨env, List.mem_singleton.mpr rfl, hN, rfl⟩
  · have h1 := ra_rg_ok hN ey
    have s1 : ∃ e, (if qx.1 = 0 then (if ra_leb (qx.2 + d) (ra_rg env qy).2 then some env else none) else ra_mU env qx.1 ((ra_rg env qy).2 - d - qx.2)) = some e ∧ ra_cN v e ∧ e.length = env.length := by
      split
      · rename_i h0
        have e0 : x.toInt = qx.2 := by rw [ex, h0, hN.2.1]; omega
        rw [if_pos (ra_leb_of (by omega))]
        exact ⟨env, rfl, hN, rfl⟩
      · exact ra_mU_ok hN hx (by omega)
    obtain ⟨e, e1, e2, e3⟩ := s1
    rw [e1]
    dsimp only
    have h2 := ra_rg_ok e2 ex
    have s2 : ∃ f, (if qy.1 = 0 then some e else ra_mL e qy.1 ((ra_rg e qx).1 + d - qy.2)) = some f ∧ ra_cN v f ∧ f.length = e.length := by
      split
      · exact ⟨e, rfl, e2, rfl⟩
      · exact ra_mL_ok e2 (by omega) (by omega)
    obtain ⟨f, f1, f2, f3⟩ := s2
    rw [f1]
    exact ⟨f, List.mem_singleton.mpr rfl, f2, by omega⟩
/-- both ways of a comparison: 0 lt, 1 ge, 2 eq, 3 ne, 4 gt, 5 le -/
def ra_cmpT (k : Nat) (env : ra_N) (x y : Nat × Int) : List ra_N := match k with
  | 0 => ra_le 1 env x y
  | 1 => ra_le 0 env y x
  | 2 => (ra_le 0 env x y).flatMap (fun e => ra_le 0 e y x)
  | 3 => ra_le 1 env x y ++ ra_le 1 env y x
  | 4 => ra_le 1 env y x
  | _ => ra_le 0 env x y
def ra_cmpP (k : Nat) (x y : Int32) : Prop := match k with
  | 0 => x < y
  | 1 => y ≤ x
  | 2 => x = y
  | 3 => ¬ x = y
  | 4 => y < x
  | _ => x ≤ y
theorem ra_cmpT_ok {v : Nat → Int} {env : ra_N} (hN : ra_cN v env) {qx qy : Nat × Int} {x y : Int32} (k : Nat) (hx : qx.1 < env.length) (hy : qy.1 < env.length) (ex : x.toInt = v qx.1 + qx.2) (ey : y.toInt = v qy.1 + qy.2) (h : ra_cmpP k x y) : ∃ e ∈ ra_cmpT k env qx qy, ra_cN v e ∧ e.length = env.length := by
  unfold ra_cmpP at h
  unfold ra_cmpT
  split at h
  · exact ra_le_ok hN hx hy ex ey (by have := Int32.lt_iff_toInt_lt.mp h; omega)
  · exact ra_le_ok hN hy hx ey ex (by have := Int32.le_iff_toInt_le.mp h; omega)
  · subst h
    obtain ⟨e, h1, h2, h3⟩ := ra_le_ok (d := 0) hN hx hy ex ey (by omega)
    obtain ⟨f, g1, g2, g3⟩ := ra_le_ok (d := 0) (env := e) h2 (by omega) (by omega) ey ex (by omega)
    exact ⟨f, List.mem_flatMap.mpr ⟨e, h1, g1⟩, g2, by omega⟩
  · have hne : x.toInt ≠ y.toInt := fun q => h (Int32.toInt_inj.mp q)
    rcases Int.lt_or_gt_of_ne hne with q | q
    · obtain ⟨e, h1, h2⟩ := ra_le_ok (d := 1) hN hx hy ex ey (by omega)
      exact ⟨e, List.mem_append_left _ h1, h2⟩
    · obtain ⟨e, h1, h2⟩ := ra_le_ok (d := 1) hN hy hx ey ex (by omega)
      exact ⟨e, List.mem_append_right _ h1, h2⟩
  · exact ra_le_ok hN hy hx ey ex (by have := Int32.lt_iff_toInt_lt.mp h; omega)
  · exact ra_le_ok hN hx hy ex ey (by have := Int32.le_iff_toInt_le.mp h; omega)
end
section
/-! states by maps of symbols and places -/
def ra_b2 {α β : Type} (f : α → β → Bool) : List α → List β → Bool
  | [], [] => true
  | a :: as, b :: bs => f a b && ra_b2 f as bs
  | [], _ :: _ => false
  | _ :: _, [] => false
theorem ra_b2_ok {α β γ : Type} {f : α → β → Bool} {R : α → γ → Prop} {R' : β → γ → Prop} (h : ∀ a b c, f a b = true → R a c → R' b c) : ∀ {as : List α} {bs : List β} {cs : List γ}, ra_b2 f as bs = true → ra_a2 R as cs → ra_a2 R' bs cs
  | [], [], [], _, _ => trivial
  | a :: as, b :: bs, c :: cs, h1, h2 => by
    simp only [ra_b2, Bool.and_eq_true] at h1
    exact ⟨h a b c h1.1 h2.1, ra_b2_ok h h1.2 h2.2⟩
  | [], _ :: _, _, h1, _ => by simp [ra_b2] at h1
  | _ :: _, [], _, h1, _ => by simp [ra_b2] at h1
  | [], [], _ :: _, _, h2 => h2.elim
  | _ :: _, _ :: _, [], _, h2 => h2.elim
theorem ra_b2_len {α β : Type} {f : α → β → Bool} : ∀ {as : List α} {bs : List β}, ra_b2 f as bs = true → as.length = bs.length
  | [], [], _ => rfl
  | _ :: _, _ :: _, h => by
    simp only [ra_b2, Bool.and_eq_true] at h
    simp [ra_b2_len h.2]
  | [], _ :: _, h => by simp [ra_b2] at h
  | _ :: _, [], h => by simp [ra_b2] at h
theorem ra_b2_get {α β : Type} {f : α → β → Bool} : ∀ {as : List α} {bs : List β}, ra_b2 f as bs = true → ∀ {i : Nat} {b : β}, bs[i]? = some b → ∃ a, as[i]? = some a ∧ f a b = true
  | [], [], _, i, b, h => by simp at h
  | x :: as, y :: bs, h, 0, b, h1 => by
    simp only [ra_b2, Bool.and_eq_true] at h
    simp at h1
    subst h1
    exact ⟨x, by simp, h.1⟩
  | x :: as, y :: bs, h, i + 1, b, h1 => by
    simp only [ra_b2, Bool.and_eq_true] at h
    simp at h1
    obtain ⟨a, h2, h3⟩ := ra_b2_get h.2 h1
    exact ⟨a, by simpa using h2, h3⟩
  | [], _ :: _, h, _, _, _ => by simp [ra_b2] at h
  | _ :: _, [], h, _, _, _ => by simp [ra_b2] at h
def ra_same (r q' : Nat × Int) (k : Int) : Bool := r.1 == q'.1 && ra_eqb (r.2 + k) q'.2
def ra_veq (a b : ra_V) : Bool := match a with
  | .inl q => match b with
    | .inl r => q.1 == r.1 && ra_eqb q.2 r.2
    | .inr _ => false
  | .inr (.inl i) => match b with
    | .inr (.inl j) => i == j
    | _ => false
  | .inr (.inr i) => match b with
    | .inr (.inr j) => i == j
    | _ => false
theorem ra_veq_eq {a b : ra_V} (h : ra_veq a b = true) : a = b := by
  rcases a with q | i | k <;> rcases b with r | j | n <;> simp only [ra_veq, Bool.and_eq_true, beq_iff_eq] at h <;> first | (cases h; done) | skip
  · have := ra_eqb_eq h.2
    obtain ⟨a1, a2⟩ := q
    obtain ⟨b1, b2⟩ := r
    simp at h this
    rw [h.1, this]
  · rw [h]
  · rw [h]
/-- places, and references to cells out of the world -/
abbrev ra_Pi : Type := List Nat × List ra_V
def ra_bI (b0 : Nat → Nat) (ads : List Nat) (om : List ra_V) (k : Nat) : Nat := match om[k]? with
  | none => b0 k
  | some (.inr (.inl i)) => (match ads[i]? with
    | some r => r
    | none => 0)
  | some (.inr (.inr j)) => b0 j
  | some (.inl _) => b0 k
theorem ra_bI_nil {b0 : Nat → Nat} {ads : List Nat} : ra_bI b0 ads [] = b0 := by
  funext k
  simp [ra_bI]
def ra_en (env : ra_N) (μ : List (Nat × Int)) (π : ra_Pi) (a' a : ra_V) : Bool := match a with
  | .inl q => match a' with
    | .inl q' => match μ[q.1]? with
      | some r => ra_same r q' q.2 || ra_same r (ra_nm env q') q.2
      | none => false
    | .inr _ => false
  | .inr (.inl i) => match a' with
    | .inr (.inl i') => match π.1[i]? with
      | some j => j == i'
      | none => false
    | _ => false
  | .inr (.inr 0) => ra_veq a' (.inr (.inr 0))
  | .inr (.inr 1) => ra_veq a' (.inr (.inr 1))
  | .inr (.inr (k + 2)) => match π.2[k + 2]? with
    | none => ra_veq a' (.inr (.inr (k + 2)))
    | some w => ra_veq a' w && (match w with
      | .inl _ => false
      | .inr (.inl _) => true
      | .inr (.inr j) => Nat.ble 2 j)
def ra_vI (v : Nat → Int) (μ : List (Nat × Int)) (i : Nat) : Int := match μ[i]? with
  | some r => v r.1 + r.2
  | none => 0
theorem ra_en_ok {env : ra_N} {v : Nat → Int} {μ : List (Nat × Int)} {π : ra_Pi} {ads adsI : List Nat} {b0 : Nat → Nat} (hN : ra_cN v env) (hπ : ∀ (i j r : Nat), π.1[i]? = some j → ads[j]? = some r → adsI[i]? = some r) {a' a : ra_V} {x : Value} (h : ra_en env μ π a' a = true) (hc : ra_cV env.length v ads b0 a' x) : ra_cV μ.length (ra_vI v μ) adsI (ra_bI b0 ads π.2) a x := by
  rcases a with q | i | k
  · rcases a' with q' | a'
    · simp only [ra_en] at h
      cases hr : μ[q.1]? with
      | none => rw [hr] at h; cases h
      | some r =>
        rw [hr] at h
        dsimp only at h
        obtain ⟨h1, y, h2, h3⟩ := hc
        refine ⟨(List.getElem?_eq_some_iff.mp hr).1, y, h2, ?_⟩
        have hv : ra_vI v μ q.1 = v r.1 + r.2 := by simp [ra_vI, hr]
        rw [hv]
        have key : ∀ z : Nat × Int, y.toInt = v z.1 + z.2 → ra_same r z q.2 = true → y.toInt = v r.1 + r.2 + q.2 := by
          intro z hz hs
          simp only [ra_same, Bool.and_eq_true, beq_iff_eq] at hs
          have := ra_eqb_eq hs.2
          rw [hz, hs.1]
          omega
        simp only [Bool.or_eq_true] at h
        rcases h with h | h
        · exact key q' h3 h
        · exact key _ (ra_nm_ok hN h1 h3).2 h
    · simp [ra_en] at h
  · rcases a' with q' | i' | k'
    · simp [ra_en] at h
    · simp only [ra_en] at h
      cases hr : π.1[i]? with
      | none => rw [hr] at h; cases h
      | some j =>
        rw [hr] at h
        simp only [beq_iff_eq] at h
        subst h
        obtain ⟨r, h1, h2⟩ := hc
        exact ⟨r, hπ i j r hr h1, h2⟩
    · simp [ra_en] at h
  · rcases k with _ | _ | k
    · have e : a' = .inr (.inr 0) := ra_veq_eq h
      subst e
      rcases hc with h1 | ⟨h1, -⟩ | ⟨h1, -⟩
      · exact Or.inl h1
      · cases h1
      · omega
    · have e : a' = .inr (.inr 1) := ra_veq_eq h
      subst e
      rcases hc with ⟨h1, -⟩ | h1 | ⟨h1, -⟩
      · cases h1
      · exact Or.inr (Or.inl h1)
      · omega
    · simp only [ra_en] at h
      refine Or.inr (Or.inr ⟨by omega, ?_⟩)
      cases hw : π.2[k + 2]? with
      | none =>
        rw [hw] at h
        have e : a' = .inr (.inr (k + 2)) := ra_veq_eq h
        subst e
        rcases hc with ⟨h1, -⟩ | ⟨h1, -⟩ | ⟨-, h1⟩
        · omega
        · omega
        · rw [h1]
          simp [ra_bI, hw]
      | some w =>
        rw [hw] at h
        simp only [Bool.and_eq_true] at h
        have e : a' = w := ra_veq_eq h.1
        subst e
        rcases a' with q' | i' | k'
        · cases h.2
        · obtain ⟨r, h1, h2⟩ := hc
          rw [h2]
          simp [ra_bI, hw, h1]
        · have h3 := Nat.le_of_ble_eq_true h.2
          rcases hc with ⟨h1, -⟩ | ⟨h1, -⟩ | ⟨-, h1⟩
          · omega
          · omega
          · rw [h1]
            simp [ra_bI, hw]
def ra_inE (env : ra_N) (lo hi : Int) (e : ra_E) : Bool := match e with
  | .inl (.inl q) => let r := ra_rg env q; ra_leb lo r.1 && ra_leb r.2 hi
  | .inl (.inr _) => false
  | .inr q => ra_leb lo q.1 && ra_leb q.2 hi
theorem ra_inE_ok {env : ra_N} {v : Nat → Int} {ads : List Nat} {b0 : Nat → Nat} (hN : ra_cN v env) {lo hi : Int} {e : ra_E} {x : Value} (h : ra_inE env lo hi e = true) (hc : ra_cE env.length v ads b0 e x) : ∃ y : Int32, x = .int y ∧ lo ≤ y.toInt ∧ y.toInt ≤ hi := by
  rcases e with (q | a) | q
  · simp only [ra_inE, Bool.and_eq_true] at h
    obtain ⟨h1, y, h2, h3⟩ := hc
    have h4 := ra_rg_ok hN h3
    have h5 := ra_leb_le h.1
    have h6 := ra_leb_le h.2
    exact ⟨y, h2, by omega, by omega⟩
  · simp [ra_inE] at h
  · simp only [ra_inE, Bool.and_eq_true] at h
    obtain ⟨y, h2, h3, h4⟩ := hc
    have h5 := ra_leb_le h.1
    have h6 := ra_leb_le h.2
    exact ⟨y, h2, by omega, by omega⟩
def ra_enE (env : ra_N) (μ : List (Nat × Int)) (π : ra_Pi) (e' e : ra_E) : Bool := match e with
  | .inl a => match e' with
    | .inl a' => ra_en env μ π a' a
    | .inr _ => false
  | .inr q => ra_inE env q.1 q.2 e'
theorem ra_enE_ok {env : ra_N} {v : Nat → Int} {μ : List (Nat × Int)} {π : ra_Pi} {ads adsI : List Nat} {b0 : Nat → Nat} (hN : ra_cN v env) (hπ : ∀ (i j r : Nat), π.1[i]? = some j → ads[j]? = some r → adsI[i]? = some r) {e' e : ra_E} {x : Value} (h : ra_enE env μ π e' e = true) (hc : ra_cE env.length v ads b0 e' x) : ra_cE μ.length (ra_vI v μ) adsI (ra_bI b0 ads π.2) e x := by
  rcases e with a | q
  · rcases e' with a' | q'
    · exact ra_en_ok hN hπ h hc
    · simp [ra_enE] at h
  · exact ra_inE_ok hN h hc
def ra_enC (env : ra_N) (μ : List (Nat × Int)) (π : ra_Pi) (c' c : ra_C) : Bool := match c with
  | .inl o => match c' with
    | .inl o' => o.1 == o'.1 && ra_b2 (ra_en env μ π) o'.2 o.2
    | .inr _ => false
  | .inr (.inl o) => match c' with
    | .inr (.inl o') => o.1 == o'.1 && ra_b2 (ra_enE env μ π) o'.2 o.2
    | _ => false
  | .inr (.inr o) => match c' with
    | .inr (.inr o') => o.1 == o'.1 && (o.2.1 == o'.2.1 && (o.1 == 3 || (ra_leb o.2.2.1 o'.2.2.1 && ra_leb o'.2.2.2 o.2.2.2)))
    | .inr (.inl o') => o.1 == o'.1 && (Nat.blt o.1 3 && (o.2.1 == o'.2.length && o'.2.all (ra_inE env o.2.2.1 o.2.2.2)))
    | _ => false
theorem ra_enC_ok {env : ra_N} {v : Nat → Int} {μ : List (Nat × Int)} {π : ra_Pi} {ads adsI : List Nat} {b0 : Nat → Nat} {cT : Nat → ClassId} (hN : ra_cN v env) (hπ : ∀ (i j r : Nat), π.1[i]? = some j → ads[j]? = some r → adsI[i]? = some r) {c' c : ra_C} {x : va_E} (h : ra_enC env μ π c' c = true) (hc : ra_cC env.length v ads b0 cT c' x) : ra_cC μ.length (ra_vI v μ) adsI (ra_bI b0 ads π.2) cT c x := by
  rcases c with o | o | o
  · rcases c' with o' | o'
    · simp only [ra_enC, Bool.and_eq_true, beq_iff_eq] at h
      obtain ⟨fs, h1, h2⟩ := hc
      exact ⟨fs, by rw [h1, h.1], ra_b2_ok (R := ra_cV env.length v ads b0) (R' := ra_cV μ.length (ra_vI v μ) adsI (ra_bI b0 ads π.2)) (fun a b c q1 q2 => ra_en_ok hN hπ q1 q2) h.2 h2⟩
    · simp [ra_enC] at h
  · rcases c' with o' | o' | o'
    · simp [ra_enC] at h
    · simp only [ra_enC, Bool.and_eq_true, beq_iff_eq] at h
      have hl := ra_b2_len h.2
      rcases hc with ⟨h0, f, h1, h2⟩ | ⟨h0, f, h1, h2⟩
      · refine Or.inl ⟨by rw [h.1]; exact h0, f, by rw [h1, h.1, hl], fun j e he => ?_⟩
        obtain ⟨e', g1, g2⟩ := ra_b2_get h.2 he
        exact ra_enE_ok hN hπ g2 (h2 j e' g1)
      · refine Or.inr ⟨by rw [h.1]; exact h0, f, by rw [h1, hl], fun j e he => ?_⟩
        obtain ⟨e', g1, g2⟩ := ra_b2_get h.2 he
        exact ra_enE_ok hN hπ g2 (h2 j e' g1)
    · simp [ra_enC] at h
  · rcases c' with o' | o' | o'
    · simp [ra_enC] at h
    · simp only [ra_enC, Bool.and_eq_true, beq_iff_eq] at h
      obtain ⟨h3, h4, h5, h6⟩ := h
      have h4 : o.1 < 3 := Nat.le_of_ble_eq_true h4
      rcases hc with ⟨h0, f, h1, h2⟩ | ⟨h0, f, h1, h2⟩
      · refine Or.inl ⟨h4, f, by rw [h1, h3, h5], fun j hj => ?_⟩
        have hj' : j < o'.2.length := by omega
        have hg : o'.2[j]? = some o'.2[j] := List.getElem?_eq_getElem hj'
        have := List.all_eq_true.mp h6 _ (List.getElem_mem hj')
        obtain ⟨y, e1, e2, e3⟩ := ra_inE_ok hN this (h2 j _ hg)
        cases e1
        exact ⟨e2, e3⟩
      · omega
    · simp only [ra_enC, Bool.and_eq_true, beq_iff_eq, Bool.or_eq_true] at h
      obtain ⟨h3, h4, h5⟩ := h
      rcases hc with ⟨h0, f, h1, h2⟩ | ⟨h0, f, h1⟩
      · refine Or.inl ⟨by rw [h3]; exact h0, f, by rw [h1, h3, h4], fun j hj => ?_⟩
        have h6 := h2 j (by omega)
        rcases h5 with h5 | h5
        · omega
        · have g1 := ra_leb_le h5.1
          have g2 := ra_leb_le h5.2
          omega
      · exact Or.inr ⟨by rw [h3]; exact h0, f, by rw [h1, h4]⟩
/-- the map of symbols is good: each bound of the one holds -/
def ra_mok (env : ra_N) : List (Nat × Int) → ra_N → Bool
  | [], [] => true
  | r :: μ, q :: es => Nat.blt r.1 env.length && (let a := ra_rg env r; ra_leb q.1 a.1 && ra_leb a.2 q.2) && ra_mok env μ es
  | [], _ :: _ => false
  | _ :: _, [] => false
theorem ra_mok_len {env : ra_N} : ∀ {μ : List (Nat × Int)} {es : ra_N}, ra_mok env μ es = true → μ.length = es.length
  | [], [], _ => rfl
  | _ :: _, _ :: _, h => by
    simp only [ra_mok, Bool.and_eq_true] at h
    simp [ra_mok_len h.2]
  | [], _ :: _, h => by simp [ra_mok] at h
  | _ :: _, [], h => by simp [ra_mok] at h
theorem ra_mok_get {env : ra_N} {v : Nat → Int} (hN : ra_cN v env) : ∀ {μ : List (Nat × Int)} {es : ra_N}, ra_mok env μ es = true → ∀ {i : Nat} {r : Nat × Int}, μ[i]? = some r → r.1 < env.length ∧ ∀ q, es[i]? = some q → q.1 ≤ v r.1 + r.2 ∧ v r.1 + r.2 ≤ q.2
  | [], [], _, i, r, h => by simp at h
  | x :: μ, y :: es, h, 0, r, h1 => by
    simp only [ra_mok, Bool.and_eq_true] at h
    simp at h1
    subst h1
    have hl : x.1 < env.length := Nat.le_of_ble_eq_true h.1.1
    refine ⟨hl, fun q hq => ?_⟩
    simp at hq
    subst hq
    have g1 := ra_leb_le h.1.2.1
    have g2 := ra_leb_le h.1.2.2
    have hr : env[x.1]? = some env[x.1] := List.getElem?_eq_getElem hl
    have hb := hN.2.2 _ _ hr
    have he : ra_rg env x = ((env[x.1]).1 + x.2, (env[x.1]).2 + x.2) := by simp [ra_rg, hr]
    rw [he] at g1 g2
    dsimp only at g1 g2
    omega
  | x :: μ, y :: es, h, i + 1, r, h1 => by
    simp only [ra_mok, Bool.and_eq_true] at h
    simp at h1
    have := ra_mok_get hN h.2 h1
    exact ⟨this.1, fun q hq => this.2 q (by simpa using hq)⟩
  | [], _ :: _, h, _, _, _ => by simp [ra_mok] at h
  | _ :: _, [], h, _, _, _ => by simp [ra_mok] at h
def ra_m0 (μ : List (Nat × Int)) : Bool := match μ with
  | r :: _ => r.1 == 0 && ra_eqb r.2 0
  | [] => false
theorem ra_cN_map {env es : ra_N} {v : Nat → Int} {μ : List (Nat × Int)} (hN : ra_cN v env) (h0 : ra_m0 μ = true) (h : ra_mok env μ es = true) : ra_cN (ra_vI v μ) es := by
  cases μ with
  | nil => simp [ra_m0] at h0
  | cons r μ =>
    simp only [ra_m0, Bool.and_eq_true, beq_iff_eq] at h0
    have hl := ra_mok_len h
    refine ⟨by rw [← hl]; simp, ?_, fun i q hq => ?_⟩
    · have := ra_eqb_eq h0.2
      simp [ra_vI, h0.1, hN.2.1, this]
    · have hi : i < (r :: μ).length := by rw [hl]; exact (List.getElem?_eq_some_iff.mp hq).1
      have hr : (r :: μ)[i]? = some (r :: μ)[i] := List.getElem?_eq_getElem hi
      have := (ra_mok_get hN h hr).2 q hq
      simp only [ra_vI, hr]
      exact this
end
section
/-! what a call gives back, in the words of its caller -/
def ra_tr (μ : List (Nat × Int)) (π : ra_Pi) (a : ra_V) : ra_V := match a with
  | .inl q => match μ[q.1]? with
    | some r => .inl (r.1, r.2 + q.2)
    | none => .inl q
  | .inr (.inl i) => match π.1[i]? with
    | some j => .inr (.inl j)
    | none => .inr (.inl i)
  | .inr (.inr 0) => .inr (.inr 0)
  | .inr (.inr 1) => .inr (.inr 1)
  | .inr (.inr (k + 2)) => match π.2[k + 2]? with
    | some (.inr w) => .inr w
    | _ => .inr (.inr (k + 2))
/-- the references out of the world are good -/
def ra_wok (n : Nat) (om : List ra_V) : Bool := om.all (fun w => match w with
  | .inl _ => true
  | .inr (.inl i) => Nat.blt i n
  | .inr (.inr j) => Nat.ble 2 j)
def ra_trE (μ : List (Nat × Int)) (π : ra_Pi) (e : ra_E) : ra_E := match e with
  | .inl a => .inl (ra_tr μ π a)
  | .inr q => .inr q
def ra_trC (μ : List (Nat × Int)) (π : ra_Pi) (c : ra_C) : ra_C := match c with
  | .inl o => .inl (o.1, o.2.map (ra_tr μ π))
  | .inr (.inl o) => .inr (.inl (o.1, o.2.map (ra_trE μ π)))
  | .inr (.inr o) => .inr (.inr o)
theorem ra_tr_ok {n : Nat} {vc v : Nat → Int} {μ : List (Nat × Int)} {π : ra_Pi} {adsc ads : List Nat} {b0 bc : Nat → Nat} (hμ : ∀ (i : Nat) (r : Nat × Int), μ[i]? = some r → r.1 < n ∧ vc i = v r.1 + r.2) (hπ : ∀ (i r : Nat), adsc[i]? = some r → ∃ j, π.1[i]? = some j ∧ ads[j]? = some r) (hω : ∀ k, 2 ≤ k → ra_cV n v ads b0 (ra_tr μ π (.inr (.inr k))) (.ref (bc k))) {a : ra_V} {x : Value} (h : ra_cV μ.length vc adsc bc a x) : ra_cV n v ads b0 (ra_tr μ π a) x := by
  rcases a with q | i | k
  · obtain ⟨h1, y, h2, h3⟩ := h
    have hr : μ[q.1]? = some μ[q.1] := List.getElem?_eq_getElem h1
    have h4 := hμ _ _ hr
    simp only [ra_tr, hr]
    exact ⟨h4.1, y, h2, by rw [h3, h4.2]; dsimp only; omega⟩
  · obtain ⟨r, h1, h2⟩ := h
    obtain ⟨j, h3, h4⟩ := hπ i r h1
    simp only [ra_tr, h3]
    exact ⟨r, h4, h2⟩
  · rcases h with ⟨h1, h2⟩ | ⟨h1, h2⟩ | ⟨h1, h2⟩
    · subst h1
      exact Or.inl ⟨rfl, h2⟩
    · subst h1
      exact Or.inr (Or.inl ⟨rfl, h2⟩)
    · rw [h2]
      exact hω k h1
theorem ra_trE_ok {n : Nat} {vc v : Nat → Int} {μ : List (Nat × Int)} {π : ra_Pi} {adsc ads : List Nat} {b0 bc : Nat → Nat} (hμ : ∀ (i : Nat) (r : Nat × Int), μ[i]? = some r → r.1 < n ∧ vc i = v r.1 + r.2) (hπ : ∀ (i r : Nat), adsc[i]? = some r → ∃ j, π.1[i]? = some j ∧ ads[j]? = some r) (hω : ∀ k, 2 ≤ k → ra_cV n v ads b0 (ra_tr μ π (.inr (.inr k))) (.ref (bc k))) {a : ra_E} {x : Value} (h : ra_cE μ.length vc adsc bc a x) : ra_cE n v ads b0 (ra_trE μ π a) x := by
  rcases a with a | q
  · exact ra_tr_ok (a := a) hμ hπ hω h
  · exact h
theorem ra_a2_map {α β : Type} {R R' : α → β → Prop} {f : α → α} (hR : ∀ a b, R a b → R' (f a) b) : ∀ {as : List α} {bs : List β}, ra_a2 R as bs → ra_a2 R' (as.map f) bs
  | [], [], _ => trivial
  | _ :: _, _ :: _, h => ⟨hR _ _ h.1, ra_a2_map hR h.2⟩
  | [], _ :: _, h => h.elim
  | _ :: _, [], h => h.elim
theorem ra_trC_ok {n : Nat} {vc v : Nat → Int} {μ : List (Nat × Int)} {π : ra_Pi} {adsc ads : List Nat} {b0 bc : Nat → Nat} {cT : Nat → ClassId} (hμ : ∀ (i : Nat) (r : Nat × Int), μ[i]? = some r → r.1 < n ∧ vc i = v r.1 + r.2) (hπ : ∀ (i r : Nat), adsc[i]? = some r → ∃ j, π.1[i]? = some j ∧ ads[j]? = some r) (hω : ∀ k, 2 ≤ k → ra_cV n v ads b0 (ra_tr μ π (.inr (.inr k))) (.ref (bc k))) {c : ra_C} {x : va_E} (h : ra_cC μ.length vc adsc bc cT c x) : ra_cC n v ads b0 cT (ra_trC μ π c) x := by
  rcases c with o | o | o
  · obtain ⟨fs, h1, h2⟩ := h
    exact ⟨fs, h1, ra_a2_map (R := ra_cV μ.length vc adsc bc) (fun a b q => ra_tr_ok hμ hπ hω q) h2⟩
  · rcases h with ⟨h0, f, h1, h2⟩ | ⟨h0, f, h1, h2⟩
    · refine Or.inl ⟨h0, f, by simpa [ra_trC] using h1, fun j e he => ?_⟩
      simp only [ra_trC, List.getElem?_map, Option.map_eq_some_iff] at he
      obtain ⟨e', g1, g2⟩ := he
      rw [← g2]
      exact ra_trE_ok hμ hπ hω (h2 j e' g1)
    · refine Or.inr ⟨h0, f, by simpa [ra_trC] using h1, fun j e he => ?_⟩
      simp only [ra_trC, List.getElem?_map, Option.map_eq_some_iff] at he
      obtain ⟨e', g1, g2⟩ := he
      rw [← g2]
      exact ra_trE_ok hμ hπ hω (h2 j e' g1)
  · exact h
def ra_meets : ra_N → List (Nat × Int) → ra_N → Option ra_N
  | env, r :: μ, q :: es => match (if r.1 = 0 then (if ra_leb q.1 r.2 && ra_leb r.2 q.2 then some env else none) else ra_meet env r.1 (q.1 - r.2) (q.2 - r.2)) with
    | none => none
    | some e => ra_meets e μ es
  | env, [], _ => some env
  | env, _ :: _, [] => some env
theorem ra_meets_ok {v : Nat → Int} : ∀ {μ : List (Nat × Int)} {es env : ra_N}, ra_cN v env → (∀ (i : Nat) (r : Nat × Int) (q : Int × Int), μ[i]? = some r → es[i]? = some q → r.1 < env.length ∧ q.1 ≤ v r.1 + r.2 ∧ v r.1 + r.2 ≤ q.2) → ∃ e, ra_meets env μ es = some e ∧ ra_cN v e ∧ e.length = env.length
  | r :: μ, q :: es, env, hN, h => by
    have h0 := h 0 r q (by simp) (by simp)
    have s1 : ∃ e, (if r.1 = 0 then (if ra_leb q.1 r.2 && ra_leb r.2 q.2 then some env else none) else ra_meet env r.1 (q.1 - r.2) (q.2 - r.2)) = some e ∧ ra_cN v e ∧ e.length = env.length := by
      split
      · rename_i hz
        rw [hz, hN.2.1] at h0
        rw [if_pos (by rw [ra_leb_of (by omega), ra_leb_of (by omega)]; rfl)]
        exact ⟨env, rfl, hN, rfl⟩
      · exact ra_meet_ok hN h0.1 (by omega) (by omega)
    obtain ⟨e, e1, e2, e3⟩ := s1
    obtain ⟨f, f1, f2, f3⟩ := ra_meets_ok (μ := μ) (es := es) e2 (fun i r q hr hq => by
      have := h (i + 1) r q (by simpa using hr) (by simpa using hq)
      rw [e3]
      exact this)
    refine ⟨f, ?_, f2, by omega⟩
    unfold ra_meets
    rw [e1]
    exact f1
  | [], _, env, hN, _ => ⟨env, by simp [ra_meets], hN, rfl⟩
  | _ :: _, [], env, hN, _ => ⟨env, by simp [ra_meets], hN, rfl⟩
/-- linear forms over the symbols -/
abbrev ra_L : Type := List (Nat × Int) × Int
def ra_ev (v : Nat → Int) (l : ra_L) : Int := l.1.foldr (fun t s => t.2 * v t.1 + s) l.2
def ra_cf (i : Nat) : List (Nat × Int) → Int
  | [] => 0
  | t :: ts => if t.1 = i then t.2 + ra_cf i ts else ra_cf i ts
def ra_del (i : Nat) (ts : List (Nat × Int)) : List (Nat × Int) := ts.filter (fun t => !(t.1 == i))
theorem ra_ev_split (v : Nat → Int) (i : Nat) (k : Int) : ∀ ts : List (Nat × Int), ra_ev v (ts, k) = ra_cf i ts * v i + ra_ev v (ra_del i ts, k)
  | [] => by simp [ra_ev, ra_cf, ra_del]
  | t :: ts => by
    have ih := ra_ev_split v i k ts
    simp only [ra_ev, List.foldr_cons] at ih ⊢
    unfold ra_del ra_cf
    unfold ra_del at ih
    by_cases h : t.1 = i
    · rw [if_pos h, List.filter_cons_of_neg (by simp [h]), ih, h, Int.add_mul]
      omega
    · rw [if_neg h, List.filter_cons_of_pos (by simp [h]), ih]
      simp only [List.foldr_cons]
      omega
/-- a lower bound -/
def ra_lb (env : ra_N) : Nat → List (Nat × Int) → Int → Option Int
  | _, [], k => some k
  | 0, _ :: _, _ => none
  | f + 1, t :: ts, k => match env[t.1]? with
    | none => none
    | some q => let c := ra_cf t.1 (t :: ts); ra_lb env f (ra_del t.1 (t :: ts)) (k + (if ra_leb 0 c then c * q.1 else c * q.2))
theorem ra_lb_ok {v : Nat → Int} {env : ra_N} (hN : ra_cN v env) : ∀ (f : Nat) (ts : List (Nat × Int)) (k b : Int), ra_lb env f ts k = some b → b ≤ ra_ev v (ts, k)
  | _, [], k, b, h => by
    simp [ra_lb] at h
    simp [ra_ev, h]
  | 0, _ :: _, _, _, h => by simp [ra_lb] at h
  | f + 1, t :: ts, k, b, h => by
    unfold ra_lb at h
    cases hq : env[t.1]? with
    | none => rw [hq] at h; cases h
    | some q =>
      rw [hq] at h
      dsimp only at h
      have ih := ra_lb_ok hN f _ _ b h
      have hb := hN.2.2 _ _ hq
      rw [ra_ev_split v t.1 k (t :: ts)]
      have hs : ∀ (l : List (Nat × Int)) (a c : Int), ra_ev v (l, a + c) = ra_ev v (l, a) + c := by
        intro l a c
        induction l with
        | nil => simp [ra_ev]
        | cons x l ih =>
          simp only [ra_ev, List.foldr_cons] at ih ⊢
          omega
      rw [hs] at ih
      have key : (if ra_leb 0 (ra_cf t.1 (t :: ts)) = true then ra_cf t.1 (t :: ts) * q.1 else ra_cf t.1 (t :: ts) * q.2) ≤ ra_cf t.1 (t :: ts) * v t.1 := by
        split
        · rename_i h0
          exact Int.mul_le_mul_of_nonneg_left hb.1 (ra_leb_le h0)
        · rename_i h0
          have := ra_leb_lt h0
          exact Int.mul_le_mul_of_nonpos_left (by omega) hb.2
      omega
/-- a form of the one in the words of the other -/
def ra_sub1 (μ : List (Nat × Int)) : List (Nat × Int) → Int → Option ra_L
  | [], k => some ([], k)
  | t :: ts, k => match μ[t.1]? with
    | none => none
    | some r => match ra_sub1 μ ts k with
      | none => none
      | some l => some ((r.1, t.2) :: l.1, t.2 * r.2 + l.2)
theorem ra_ev_add (v : Nat → Int) (l : List (Nat × Int)) (a c : Int) : ra_ev v (l, a + c) = c + ra_ev v (l, a) := by
  induction l with
  | nil => simp [ra_ev]; omega
  | cons x l ih =>
    simp only [ra_ev, List.foldr_cons] at ih ⊢
    omega
theorem ra_sub1_ok {v : Nat → Int} {μ : List (Nat × Int)} : ∀ {ts : List (Nat × Int)} {k : Int} {l : ra_L}, ra_sub1 μ ts k = some l → ra_ev (ra_vI v μ) (ts, k) = ra_ev v l
  | [], k, l, h => by
    simp [ra_sub1] at h
    subst h
    simp [ra_ev]
  | t :: ts, k, l, h => by
    unfold ra_sub1 at h
    cases hr : μ[t.1]? with
    | none => rw [hr] at h; cases h
    | some r =>
      rw [hr] at h
      dsimp only at h
      cases hs : ra_sub1 μ ts k with
      | none => rw [hs] at h; cases h
      | some l' =>
        rw [hs] at h
        dsimp only at h
        cases h
        have ih := ra_sub1_ok (v := v) hs
        have e1 : ra_ev (ra_vI v μ) (t :: ts, k) = t.2 * ra_vI v μ t.1 + ra_ev (ra_vI v μ) (ts, k) := by simp [ra_ev]
        have e2 : ra_vI v μ t.1 = v r.1 + r.2 := by simp [ra_vI, hr]
        have e3 : ra_ev v ((r.1, t.2) :: l'.1, t.2 * r.2 + l'.2) = t.2 * v r.1 + ra_ev v (l'.1, t.2 * r.2 + l'.2) := by simp [ra_ev]
        have e4 := ra_ev_add v l'.1 l'.2 (t.2 * r.2)
        rw [Int.add_comm l'.2] at e4
        have e5 : ra_ev v (l'.1, l'.2) = ra_ev v l' := rfl
        rw [e5] at e4
        rw [e1, e2, e3, ih, e4, Int.mul_add, Int.add_assoc]
end
section
/-! the machine's steps over states -/
section
variable {p : Program} {l : Launch} {e : Env} {R : Room} {s : State} {m : MethodId} {args : Array Value} {below : List Frame} {meth : Method} {c : Code} {Q : State → Prop}
variable {cc : ByteArray} {own : String} {nL : Nat} {A : Nat → Prop} {D : va_G} {cl : List vw_C} {tys : List (ClassId × FieldType)} {Ts : List Cond} {b0 : Nat → Nat} {ad0 : List Nat} {cT : Nat → ClassId} {n0 : Nat} {v0 : Nat → Int}
def ra_X (p : Program) (s : State) (m : MethodId) (args : Array Value) (c : Code) (cc : ByteArray) (own : String) (nL : Nat) (A : Nat → Prop) (D : va_G) (cl : List vw_C) (tys : List (ClassId × FieldType)) (Ts : List Cond) : Prop :=
  p.tables.exec = Jvm.exec ∧ c.code = cc ∧ c.maxLocals = nL ∧ s.vm.findClass own = some m.cls ∧ (∀ w ∈ Ts, w.before args s = true) ∧ va_K D cl tys s ∧ ∀ q : Nat, s.heap.size ≤ q → A q
def ra_W (p : Program) (l : Launch) (e : Env) (R : Room) (s : State) (m : MethodId) (args : Array Value) (below : List Frame) (meth : Method) (c : Code) (Q : State → Prop) (nL : Nat) (A : Nat → Prop) (D : va_G) (cl : List vw_C) (pc : Nat) (lv : List (Nat × Value)) (st : List Value) (ws : va_W) (ce sl : Nat) : Prop :=
  ∀ (H : Heap) (locs : List Loc) (ls : Array Slot), va_P D cl ws H → va_D A ws → va_S A s.heap H locs → lv_has ls nL lv → W p l e R s m args below meth c H locs ce sl Q (F0 m pc ls st)
def ra_ok (p : Program) (l : Launch) (e : Env) (R : Room) (s : State) (m : MethodId) (args : Array Value) (below : List Frame) (meth : Method) (c : Code) (Q : State → Prop) (nL : Nat) (A : Nat → Prop) (D : va_G) (cl : List vw_C) (b0 : Nat → Nat) (ad0 : List Nat) (cT : Nat → ClassId) (n0 : Nat) (v0 : Nat → Int) (x : Nat × ra_S) : Prop :=
  n0 ≤ x.2.1.length → ∀ (v : Nat → Int) (lv : List (Nat × Value)) (st : List Value) (ws : va_W), ra_g b0 ad0 cT v x.2 lv st ws → (∀ i, i < n0 → v i = v0 i) → ra_W p l e R s m args below meth c Q nL A D cl x.1 lv st ws x.2.2.2.2.2.1 x.2.2.2.2.2.2
theorem ra_g_ext {v v' : Nat → Int} {env env' : ra_N} {lv : List (Nat × ra_V)} {st : List ra_V} {aw : List ra_C} {ce sl : Nat} {lvv : List (Nat × Value)} {stv : List Value} {ws : va_W} (h : ra_g b0 ad0 cT v (env, lv, st, aw, ce, sl) lvv stv ws) (hn : env.length ≤ env'.length) (hv : ∀ i, i < env.length → v' i = v i) (hN : ra_cN v' env') : ra_g b0 ad0 cT v' (env', lv, st, aw, ce, sl) lvv stv ws := by
  obtain ⟨h1, h2, h3, h4, h5⟩ := h
  exact ⟨hN, ra_a2_mono (fun a b q => ⟨q.1, ra_cV_ext hn hv (fun _ _ z => z) q.2⟩) h2, ra_a2_mono (fun a b q => ra_cV_ext hn hv (fun _ _ z => z) q) h3, ra_a2_mono (fun a b q => ra_cC_ext hn hv (fun _ _ z => z) q) h4, h5⟩
/-- the rest of a stack, something pushed -/
theorem ra_g_st {v : Nat → Int} {env : ra_N} {lv : List (Nat × ra_V)} {st st' : List ra_V} {aw : List ra_C} {ce sl ce' sl' : Nat} {lvv : List (Nat × Value)} {stv stv' : List Value} {ws : va_W} (h : ra_g b0 ad0 cT v (env, lv, st, aw, ce, sl) lvv stv ws) (hs : ra_a2 (ra_cV env.length v (ws.map Prod.fst) b0) st' stv') : ra_g b0 ad0 cT v (env, lv, st', aw, ce', sl') lvv stv' ws := ⟨h.1, h.2.1, hs, h.2.2.2⟩
theorem ra_a2_cons {α β : Type} {R : α → β → Prop} {a : α} {as : List α} {bs : List β} (h : ra_a2 R (a :: as) bs) : ∃ b bs', bs = b :: bs' ∧ R a b ∧ ra_a2 R as bs' := by
  cases bs with
  | nil => exact h.elim
  | cons b bs => exact ⟨b, bs, rfl, h.1, h.2⟩
theorem ra_cV_const {v : Nat → Int} {env : ra_N} {ads : List Nat} (hN : ra_cN v env) {k : Int} {y : Int32} (h : y.toInt = k) : ra_cV env.length v ads b0 (.inl (0, k)) (.int y) := ⟨hN.1, y, rfl, by show y.toInt = v 0 + k; rw [hN.2.1, h]; omega⟩
/-- a jump's target -/
def ra_tg (pc : Nat) (off : Int) : Nat := ((pc : Int) + off).toNat
def ra_lf (lv : List (Nat × ra_V)) (i : Nat) : Option ra_V := match lv with
  | [] => none
  | q :: lv => if q.1 = i then some q.2 else ra_lf lv i
theorem ra_lf_ok {n : Nat} {v : Nat → Int} {ads : List Nat} : ∀ {lv : List (Nat × ra_V)} {lvv : List (Nat × Value)} {i : Nat} {a : ra_V}, ra_lf lv i = some a → ra_a2 (fun (p : Nat × ra_V) (q : Nat × Value) => p.1 = q.1 ∧ ra_cV n v ads b0 p.2 q.2) lv lvv → ∃ (k : Nat) (x : Value), lvv[k]? = some (i, x) ∧ ra_cV n v ads b0 a x
  | [], _, _, _, h, _ => by simp [ra_lf] at h
  | q :: lv, lvv, i, a, h, h2 => by
    obtain ⟨b, bs, rfl, h3, h4⟩ := ra_a2_cons h2
    unfold ra_lf at h
    split at h
    · rename_i hq
      cases h
      exact ⟨0, b.2, by simp [← hq, h3.1], h3.2⟩
    · obtain ⟨k, x, g1, g2⟩ := ra_lf_ok h h4
      exact ⟨k + 1, x, by simpa using g1, g2⟩
def ra_two (a : ra_V) : Bool := match a with
  | .inr (.inr k) => k == 1
  | _ => false
theorem ra_two_ok {n : Nat} {v : Nat → Int} {ads : List Nat} {a : ra_V} {x : Value} (h : ra_cV n v ads b0 a x) : (x.category == 2) = ra_two a := by
  rcases a with q | i | k
  · obtain ⟨_, y, rfl, _⟩ := h
    rfl
  · obtain ⟨r, _, rfl⟩ := h
    rfl
  · rcases h with ⟨rfl, rfl⟩ | ⟨rfl, y, rfl⟩ | ⟨h1, rfl⟩
    · rfl
    · rfl
    · show false = (k == 1)
      have : ¬ k = 1 := by omega
      simp [this]
def ra_s1 (lv : List (Nat × ra_V)) (i : Nat) (a : ra_V) : List (Nat × ra_V) := (i, a) :: lv.filter (fun q => !(q.1 == i) && !(q.1 + 1 == i && ra_two q.2))
def ra_s2 (lv : List (Nat × ra_V)) (i : Nat) (a : ra_V) : List (Nat × ra_V) := (i, a) :: lv.filter (fun q => !(q.1 == i) && (!(q.1 == i + 1) && !(q.1 + 1 == i && ra_two q.2)))
theorem ra_s1_ok {n : Nat} {v : Nat → Int} {ads : List Nat} {lv : List (Nat × ra_V)} {lvv : List (Nat × Value)} {i : Nat} {a : ra_V} {x : Value} (h : ra_a2 (fun (p : Nat × ra_V) (q : Nat × Value) => p.1 = q.1 ∧ ra_cV n v ads b0 p.2 q.2) lv lvv) (hx : ra_cV n v ads b0 a x) : ra_a2 (fun (p : Nat × ra_V) (q : Nat × Value) => p.1 = q.1 ∧ ra_cV n v ads b0 p.2 q.2) (ra_s1 lv i a) ((i, x) :: lvv.filter (fun q => !(q.1 == i) && !(q.1 + 1 == i && q.2.category == 2))) :=
  ⟨⟨rfl, hx⟩, ra_a2_filter (fun a b q => by rw [q.1, ra_two_ok q.2]) h⟩
theorem ra_s2_ok {n : Nat} {v : Nat → Int} {ads : List Nat} {lv : List (Nat × ra_V)} {lvv : List (Nat × Value)} {i : Nat} {a : ra_V} {x : Value} (h : ra_a2 (fun (p : Nat × ra_V) (q : Nat × Value) => p.1 = q.1 ∧ ra_cV n v ads b0 p.2 q.2) lv lvv) (hx : ra_cV n v ads b0 a x) : ra_a2 (fun (p : Nat × ra_V) (q : Nat × Value) => p.1 = q.1 ∧ ra_cV n v ads b0 p.2 q.2) (ra_s2 lv i a) ((i, x) :: lvv.filter (fun q => !(q.1 == i) && (!(q.1 == i + 1) && !(q.1 + 1 == i && q.2.category == 2)))) :=
  ⟨⟨rfl, hx⟩, ra_a2_filter (fun a b q => by rw [q.1, ra_two_ok q.2]) h⟩
/-- an int operation: the function, and its abstract one -/
def ra_bop (i : Instr) : Option (ra_N → Nat × Int → Nat × Int → ra_N × (Nat × Int)) := match i with
  | .iadd => some ra_add
  | .isub => some ra_sub
  | .imul => some (ra_bin (fun x y => x * y) ra_gmul)
  | .iand => some (ra_bin (fun x y => x &&& y) ra_gand)
  | .ior => some (ra_bin (fun x y => x ||| y) ra_top)
  | .ixor => some (ra_bin (fun x y => x ^^^ y) ra_top)
  | .ishl => some (ra_bin (fun x y => x <<< (y &&& 31)) ra_top)
  | .ishr => some (ra_bin (fun x y => x >>> (y &&& 31)) ra_top)
  | .iushr => some (ra_bin (fun x y => (x.toUInt32 >>> (y.toUInt32 &&& Int32.toUInt32 31)).toInt32) ra_top)
  | _ => none
def ra_bopv (i : Instr) (x y : Int32) : Int32 := match i with
  | .iadd => x + y
  | .isub => x - y
  | .imul => x * y
  | .iand => x &&& y
  | .ior => x ||| y
  | .ixor => x ^^^ y
  | .ishl => x <<< (y &&& 31)
  | .ishr => x >>> (y &&& 31)
  | .iushr => (x.toUInt32 >>> (y.toUInt32 &&& Int32.toUInt32 31)).toInt32
  | _ => 0
theorem ra_bop_ok {i : Instr} {op : ra_N → Nat × Int → Nat × Int → ra_N × (Nat × Int)} (h : ra_bop i = some op) {v : Nat → Int} {env : ra_N} (hN : ra_cN v env) {qx qy : Nat × Int} {x y : Int32} (hx : qx.1 < env.length) (hy : qy.1 < env.length) (ex : x.toInt = v qx.1 + qx.2) (ey : y.toInt = v qy.1 + qy.2) : ra_res v env (op env qx qy) (ra_bopv i x y).toInt := by
  unfold ra_bop at h
  split at h <;> first | (cases h; done) | skip
  · cases h; exact ra_add_ok hN hx hy ex ey
  · cases h; exact ra_sub_ok hN hx hy ex ey
  · cases h; exact ra_bin_ok ra_gmul_ok hN hx hy ex ey trivial
  · cases h; exact ra_bin_ok ra_gand_ok hN hx hy ex ey trivial
  · cases h; exact ra_bin_ok (ra_top_ok (fun x y => x ||| y) (fun _ _ => True)) hN hx hy ex ey trivial
  · cases h; exact ra_bin_ok (ra_top_ok (fun x y => x ^^^ y) (fun _ _ => True)) hN hx hy ex ey trivial
  · cases h; exact ra_bin_ok (ra_top_ok (fun x y => x <<< (y &&& 31)) (fun _ _ => True)) hN hx hy ex ey trivial
  · cases h; exact ra_bin_ok (ra_top_ok (fun x y => x >>> (y &&& 31)) (fun _ _ => True)) hN hx hy ex ey trivial
  · cases h; exact ra_bin_ok (ra_top_ok (fun x y => (x.toUInt32 >>> (y.toUInt32 &&& Int32.toUInt32 31)).toInt32) (fun _ _ => True)) hN hx hy ex ey trivial
theorem ra_bopW {i : Instr} {op : ra_N → Nat × Int → Nat × Int → ra_N × (Nat × Int)} (h : ra_bop i = some op) (X : ra_X p s m args c cc own nL A D cl tys Ts) {pc : Nat} (hdg : decode cc pc = .ok (i, 1)) {x y : Int32} {lv : List (Nat × Value)} {st : List Value} {ws : va_W} {ce sl : Nat} (k : ra_W p l e R s m args below meth c Q nL A D cl (pc + 1) lv (.int (ra_bopv i x y) :: st) ws ce sl) : ra_W p l e R s m args below meth c Q nL A D cl pc lv (.int y :: .int x :: st) ws ce sl := by
  intro H locs ls hP hD hS hl
  have k := k H locs ls hP hD hS hl
  obtain ⟨hx, hb, -⟩ := X
  unfold ra_bop at h
  split at h <;> first | (cases h; done) | skip
  · exact lv_iadd hx hb hdg k
  · exact lv_isub hx hb hdg k
  · exact lv_imul hx hb hdg k
  · exact lv_iand hx hb hdg k
  · exact lv_ior hx hb hdg k
  · exact lv_ixor hx hb hdg k
  · exact lv_ishl hx hb hdg k
  · exact lv_ishr hx hb hdg k
  · exact lv_iushr hx hb hdg rfl k
/-- numbers of comparisons -/
def ra_ck (k : ClassFile.Cond) : Nat := match k with
  | .lt => 0
  | .ge => 1
  | .eq => 2
  | .ne => 3
  | .gt => 4
  | .le => 5
def ra_nk (k : ClassFile.Cond) : Nat := match k with
  | .lt => 1
  | .ge => 0
  | .eq => 3
  | .ne => 2
  | .gt => 5
  | .le => 4
theorem ra_icmpW (X : ra_X p s m args c cc own nL A D cl tys Ts) {pc : Nat} {k : ClassFile.Cond} {off : Int} {tgt : Nat} (hdg : decode cc pc = .ok (.if_icmp k off, 3)) (ht : (pc : Int) + off = (tgt : Int)) {x y : Int32} {lv : List (Nat × Value)} {st : List Value} {ws : va_W} {ce sl : Nat} (kt : ra_cmpP (ra_ck k) x y → ra_W p l e R s m args below meth c Q nL A D cl tgt lv st ws ce sl) (kf : ra_cmpP (ra_nk k) x y → ra_W p l e R s m args below meth c Q nL A D cl (pc + 3) lv st ws ce sl) : ra_W p l e R s m args below meth c Q nL A D cl pc lv (.int y :: .int x :: st) ws ce sl := by
  intro H locs ls hP hD hS hl
  obtain ⟨hx, hb, -⟩ := X
  cases k with
  | lt => exact lv_icmp_lt hx hb hdg ht (fun q => kt q H locs ls hP hD hS hl) (fun q => kf (Int32.not_lt.mp q) H locs ls hP hD hS hl)
  | ge => exact lv_icmp_ge hx hb hdg ht (fun q => kt q H locs ls hP hD hS hl) (fun q => kf (Int32.not_le.mp q) H locs ls hP hD hS hl)
  | eq => exact lv_icmp_eq hx hb hdg ht (fun q => kt q H locs ls hP hD hS hl) (fun q => kf q H locs ls hP hD hS hl)
  | ne => exact lv_icmp_ne hx hb hdg ht (fun q => kt q H locs ls hP hD hS hl) (fun q => kf q H locs ls hP hD hS hl)
  | gt => exact lv_icmp_gt hx hb hdg ht (fun q => kt q H locs ls hP hD hS hl) (fun q => kf (Int32.not_lt.mp q) H locs ls hP hD hS hl)
  | le => exact lv_icmp_le hx hb hdg ht (fun q => kt q H locs ls hP hD hS hl) (fun q => kf (Int32.not_le.mp q) H locs ls hP hD hS hl)
theorem ra_ifW (X : ra_X p s m args c cc own nL A D cl tys Ts) {pc : Nat} {k : ClassFile.Cond} {off : Int} {tgt : Nat} (hdg : decode cc pc = .ok (.ifCond k off, 3)) (ht : (pc : Int) + off = (tgt : Int)) {x : Int32} {lv : List (Nat × Value)} {st : List Value} {ws : va_W} {ce sl : Nat} (kt : ra_cmpP (ra_ck k) x 0 → ra_W p l e R s m args below meth c Q nL A D cl tgt lv st ws ce sl) (kf : ra_cmpP (ra_nk k) x 0 → ra_W p l e R s m args below meth c Q nL A D cl (pc + 3) lv st ws ce sl) : ra_W p l e R s m args below meth c Q nL A D cl pc lv (.int x :: st) ws ce sl := by
  intro H locs ls hP hD hS hl
  obtain ⟨hx, hb, -⟩ := X
  cases k with
  | lt => exact lv_if_lt hx hb hdg ht (fun q => kt q H locs ls hP hD hS hl) (fun q => kf (Int32.not_lt.mp q) H locs ls hP hD hS hl)
  | ge => exact lv_if_ge hx hb hdg ht (fun q => kt q H locs ls hP hD hS hl) (fun q => kf (Int32.not_le.mp q) H locs ls hP hD hS hl)
  | eq => exact lv_if_eq hx hb hdg ht (fun q => kt q H locs ls hP hD hS hl) (fun q => kf q H locs ls hP hD hS hl)
  | ne => exact lv_if_ne hx hb hdg ht (fun q => kt q H locs ls hP hD hS hl) (fun q => kf q H locs ls hP hD hS hl)
  | gt => exact lv_if_gt hx hb hdg ht (fun q => kt q H locs ls hP hD hS hl) (fun q => kf (Int32.not_lt.mp q) H locs ls hP hD hS hl)
  | le => exact lv_if_le hx hb hdg ht (fun q => kt q H locs ls hP hD hS hl) (fun q => kf (Int32.not_le.mp q) H locs ls hP hD hS hl)
end
end
section
/-! steps without the heap -/
section
variable {p : Program} {l : Launch} {e : Env} {R : Room} {s : State} {m : MethodId} {args : Array Value} {below : List Frame} {meth : Method} {c : Code} {Q : State → Prop}
variable {cc : ByteArray} {own : String} {nL : Nat} {A : Nat → Prop} {D : va_G} {cl : List vw_C} {tys : List (ClassId × FieldType)} {Ts : List Cond} {b0 : Nat → Nat} {ad0 : List Nat} {cT : Nat → ClassId} {n0 : Nat} {v0 : Nat → Int}

def ra_gd {α : Type} (b : Bool) (x : Option α) : Option α := match b with
  | true => x
  | false => none
theorem ra_gd_ok {α : Type} {b : Bool} {x : Option α} {y : α} (h : ra_gd b x = some y) : b = true ∧ x = some y := by
  cases b with
  | true => exact ⟨rfl, h⟩
  | false => cases h
def ra_kf (kt : List (Nat × Int)) (i : Nat) : Option Int := match kt with
  | [] => none
  | q :: kt => if q.1 = i then some q.2 else ra_kf kt i
theorem ra_kf_mem : ∀ {kt : List (Nat × Int)} {i : Nat} {k : Int}, ra_kf kt i = some k → (i, k) ∈ kt
  | [], _, _, h => by simp [ra_kf] at h
  | q :: kt, i, k, h => by
    unfold ra_kf at h
    split at h
    · rename_i hq
      cases h
      exact List.mem_cons.mpr (Or.inl (by rw [← hq]))
    · exact List.mem_cons_of_mem _ (ra_kf_mem h)
def ra_okK (Ts : List Cond) (own : String) (kt : List (Nat × Int)) : Prop := ∀ q ∈ kt, ∃ v : Int32, v.toInt = q.2 ∧ Cond.constant own q.1 v ∈ Ts
def ra_okL (Ts : List Cond) (own : String) (kl : List Nat) : Prop := ∀ q ∈ kl, ∃ v : Int64, Cond.constantLong own q v ∈ Ts
def ra_lop (i : Instr) : Bool := match i with
  | .ladd => true
  | .lsub => true
  | .lmul => true
  | .lor => true
  | .land => true
  | .lxor => true
  | _ => false
def ra_gi2b (_ _ : Int × Int) : Int × Int := (-128, 127)
theorem ra_gi2b_ok : ra_gok (fun x _ => x.toInt8.toInt32) ra_gi2b (fun _ _ => True) := by
  intro a b x y _ _ _ _ _
  have h1 := Int8.le_toInt x.toInt8
  have h2 := Int8.toInt_lt x.toInt8
  have h3 : x.toInt8.toInt32.toInt = x.toInt8.toInt := Int8.toInt_toInt32 _
  unfold ra_gi2b
  dsimp only
  rw [h3]
  omega
def ra_gi2c (_ _ : Int × Int) : Int × Int := (0, 65535)
theorem ra_gi2c_ok : ra_gok (fun x _ => (x.toUInt32 % 65536).toInt32) ra_gi2c (fun _ _ => True) := by
  intro a b x y _ _ _ _ _
  have e := pk_char x
  have h : x.toBitVec.toNat % 65536 < 65536 := Nat.mod_lt _ (by decide)
  unfold ra_gi2c
  dsimp only
  rw [e, nI_toInt (by omega)]
  omega
/-- constants, loads, stores of the frame, arithmetic -/
def ra_p1 (kt : List (Nat × Int)) (kl : List Nat) (nL : Nat) (i : Instr) (n pc : Nat) (a : ra_S) : Option (List (Nat × ra_S)) := match a with
  | (env, lv, st, aw, ce, sl) => match i with
    | .iconst k => ra_gd (n == 1) (some [(pc + 1, (env, lv, .inl (0, (Int32.ofInt k).toInt) :: st, aw, ce, sl))])
    | .bipush k => ra_gd (n == 2) (some [(pc + 2, (env, lv, .inl (0, (Int8.ofInt k).toInt32.toInt) :: st, aw, ce, sl))])
    | .sipush k => ra_gd (n == 3) (some [(pc + 3, (env, lv, .inl (0, (Int16.ofInt k).toInt32.toInt) :: st, aw, ce, sl))])
    | .lconst _ => ra_gd (n == 1) (some [(pc + 1, (env, lv, .inr (.inr 1) :: st, aw, ce, sl))])
    | .ldc j => ra_gd (n == 2) (match ra_kf kt j with
      | some k => some [(pc + 2, (env, lv, .inl (0, k) :: st, aw, ce, sl))]
      | none => none)
    | .ldc_w j => ra_gd (n == 3) (match ra_kf kt j with
      | some k => some [(pc + 3, (env, lv, .inl (0, k) :: st, aw, ce, sl))]
      | none => none)
    | .ldc2_w j => ra_gd (n == 3 && kl.contains j) (some [(pc + 3, (env, lv, .inr (.inr 1) :: st, aw, ce, sl))])
    | .iload_n k => ra_gd (n == 1) (match ra_lf lv k with
      | some (.inl q) => some [(pc + 1, (env, lv, .inl q :: st, aw, ce, sl))]
      | _ => none)
    | .iload k => ra_gd (n == 2) (match ra_lf lv k with
      | some (.inl q) => some [(pc + 2, (env, lv, .inl q :: st, aw, ce, sl))]
      | _ => none)
    | .lload_n k => ra_gd (n == 1) (match ra_lf lv k with
      | some (.inr (.inr 1)) => some [(pc + 1, (env, lv, .inr (.inr 1) :: st, aw, ce, sl))]
      | _ => none)
    | .lload k => ra_gd (n == 2) (match ra_lf lv k with
      | some (.inr (.inr 1)) => some [(pc + 2, (env, lv, .inr (.inr 1) :: st, aw, ce, sl))]
      | _ => none)
    | .aload_n k => ra_gd (n == 1) (match ra_lf lv k with
      | some (.inr (.inl j)) => some [(pc + 1, (env, lv, .inr (.inl j) :: st, aw, ce, sl))]
      | some (.inr (.inr z)) => ra_gd (Nat.ble 2 z) (some [(pc + 1, (env, lv, .inr (.inr z) :: st, aw, ce, sl))])
      | _ => none)
    | .aload k => ra_gd (n == 2) (match ra_lf lv k with
      | some (.inr (.inl j)) => some [(pc + 2, (env, lv, .inr (.inl j) :: st, aw, ce, sl))]
      | some (.inr (.inr z)) => ra_gd (Nat.ble 2 z) (some [(pc + 2, (env, lv, .inr (.inr z) :: st, aw, ce, sl))])
      | _ => none)
    | .istore_n k => ra_gd (n == 1 && Nat.blt k.val nL) (match st with
      | .inl q :: st => some [(pc + 1, (env, ra_s1 lv k (.inl q), st, aw, ce, sl))]
      | _ => none)
    | .istore k => ra_gd (n == 2 && Nat.blt k nL) (match st with
      | .inl q :: st => some [(pc + 2, (env, ra_s1 lv k (.inl q), st, aw, ce, sl))]
      | _ => none)
    | .lstore_n k => ra_gd (n == 1 && Nat.blt (k.val + 1) nL) (match st with
      | .inr (.inr 1) :: st => some [(pc + 1, (env, ra_s2 lv k (.inr (.inr 1)), st, aw, ce, sl))]
      | _ => none)
    | .lstore k => ra_gd (n == 2 && Nat.blt (k + 1) nL) (match st with
      | .inr (.inr 1) :: st => some [(pc + 2, (env, ra_s2 lv k (.inr (.inr 1)), st, aw, ce, sl))]
      | _ => none)
    | .astore_n k => ra_gd (n == 1 && Nat.blt k.val nL) (match st with
      | .inr (.inl j) :: st => some [(pc + 1, (env, ra_s1 lv k (.inr (.inl j)), st, aw, ce, sl))]
      | .inr (.inr z) :: st => ra_gd (Nat.ble 2 z) (some [(pc + 1, (env, ra_s1 lv k (.inr (.inr z)), st, aw, ce, sl))])
      | _ => none)
    | .astore k => ra_gd (n == 2 && Nat.blt k nL) (match st with
      | .inr (.inl j) :: st => some [(pc + 2, (env, ra_s1 lv k (.inr (.inl j)), st, aw, ce, sl))]
      | .inr (.inr z) :: st => ra_gd (Nat.ble 2 z) (some [(pc + 2, (env, ra_s1 lv k (.inr (.inr z)), st, aw, ce, sl))])
      | _ => none)
    | .iinc k d => ra_gd (n == 3 && Nat.blt k nL) (match ra_lf lv k with
      | some (.inl q) => let r := ra_add env q (0, (Int32.ofInt d).toInt); some [(pc + 3, (r.1, ra_s1 lv k (.inl r.2), st, aw, ce, sl))]
      | _ => none)
    | .idiv => ra_gd (n == 1) (match st with
      | .inl y :: .inl x :: st => ra_gd (let b := ra_rg env y; ra_leb 1 b.1 || ra_leb b.2 (-1)) (let r := ra_bin (fun x y => x / y) ra_gdiv env x y; some [(pc + 1, (r.1, lv, .inl r.2 :: st, aw, ce, sl))])
      | _ => none)
    | .irem => ra_gd (n == 1) (match st with
      | .inl y :: .inl x :: st => ra_gd (let b := ra_rg env y; ra_leb 1 b.1 || ra_leb b.2 (-1)) (let r := ra_bin ra_frem ra_grem env x y; some [(pc + 1, (r.1, lv, .inl r.2 :: st, aw, ce, sl))])
      | _ => none)
    | .lshl => ra_gd (n == 1) (match st with
      | .inl _ :: .inr (.inr 1) :: st => some [(pc + 1, (env, lv, .inr (.inr 1) :: st, aw, ce, sl))]
      | _ => none)
    | .lcmp => ra_gd (n == 1) (match st with
      | .inr (.inr 1) :: .inr (.inr 1) :: st => let r := ra_fr env ra_lo ra_hi; some [(pc + 1, (r.1, lv, .inl r.2 :: st, aw, ce, sl))]
      | _ => none)
    | .i2l => ra_gd (n == 1) (match st with
      | .inl _ :: st => some [(pc + 1, (env, lv, .inr (.inr 1) :: st, aw, ce, sl))]
      | _ => none)
    | .l2i => ra_gd (n == 1) (match st with
      | .inr (.inr 1) :: st => let r := ra_fr env ra_lo ra_hi; some [(pc + 1, (r.1, lv, .inl r.2 :: st, aw, ce, sl))]
      | _ => none)
    | .i2b => ra_gd (n == 1) (match st with
      | .inl x :: st => let r := ra_bin (fun x _ => x.toInt8.toInt32) ra_gi2b env x (0, 0); some [(pc + 1, (r.1, lv, .inl r.2 :: st, aw, ce, sl))]
      | _ => none)
    | .i2c => ra_gd (n == 1) (match st with
      | .inl x :: st => let r := ra_bin (fun x _ => (x.toUInt32 % 65536).toInt32) ra_gi2c env x (0, 0); some [(pc + 1, (r.1, lv, .inl r.2 :: st, aw, ce, sl))]
      | _ => none)
    | .dup => ra_gd (n == 1) (match st with
      | x :: st => ra_gd (!ra_two x) (some [(pc + 1, (env, lv, x :: x :: st, aw, ce, sl))])
      | _ => none)
    | .dup2 => ra_gd (n == 1) (match st with
      | x :: y :: st => ra_gd (!ra_two x && !ra_two y) (some [(pc + 1, (env, lv, x :: y :: x :: y :: st, aw, ce, sl))])
      | _ => none)
    | .pop => ra_gd (n == 1) (match st with
      | x :: st => ra_gd (!ra_two x) (some [(pc + 1, (env, lv, st, aw, ce, sl))])
      | _ => none)
    | .goto off => ra_gd (n == 3 && ra_leb 0 ((pc : Int) + off)) (some [(ra_tg pc off, (env, lv, st, aw, ce, sl))])
    | _ => match ra_bop i with
      | some op => ra_gd (n == 1) (match st with
        | .inl y :: .inl x :: st => let r := op env x y; some [(pc + 1, (r.1, lv, .inl r.2 :: st, aw, ce, sl))]
        | _ => none)
      | none => ra_gd (n == 1 && ra_lop i) (match st with
        | .inr (.inr 1) :: .inr (.inr 1) :: st => some [(pc + 1, (env, lv, .inr (.inr 1) :: st, aw, ce, sl))]
        | _ => none)
end
end
section
/-! the steps without the heap are the machine's -/
section
variable {p : Program} {l : Launch} {e : Env} {R : Room} {s : State} {m : MethodId} {args : Array Value} {below : List Frame} {meth : Method} {c : Code} {Q : State → Prop}
variable {cc : ByteArray} {own : String} {nL : Nat} {A : Nat → Prop} {D : va_G} {cl : List vw_C} {tys : List (ClassId × FieldType)} {Ts : List Cond} {b0 : Nat → Nat} {ad0 : List Nat} {cT : Nat → ClassId} {n0 : Nat} {v0 : Nat → Int}

theorem ra_resV {v : Nat → Int} {env : ra_N} {r : ra_N × (Nat × Int)} {y : Int32} (h : ra_res v env r y.toInt) : env.length ≤ r.1.length ∧ ∃ v' : Nat → Int, (∀ i, i < env.length → v' i = v i) ∧ ra_cN v' r.1 ∧ ∀ ads : List Nat, ra_cV r.1.length v' ads b0 (.inl r.2) (.int y) := by
  obtain ⟨h1, h2, v', h3, h4, h5⟩ := h
  exact ⟨h1, v', h3, h4, fun ads => ⟨h2, y, rfl, h5⟩⟩
theorem ra_a2_mk {α β : Type} {R : α → β → Prop} {a : α} {b : β} {as : List α} {bs : List β} (h : R a b) (h2 : ra_a2 R as bs) : ra_a2 R (a :: as) (b :: bs) := ⟨h, h2⟩
theorem ra_cV_long {n : Nat} {v : Nat → Int} {ads : List Nat} (y : Int64) : ra_cV n v ads b0 (.inr (.inr 1)) (.long y) := Or.inr (Or.inl ⟨rfl, y, rfl⟩)
theorem ra_longV {n : Nat} {v : Nat → Int} {ads : List Nat} {x : Value} (h : ra_cV n v ads b0 (.inr (.inr 1)) x) : ∃ y : Int64, x = .long y := by
  rcases h with ⟨h, -⟩ | ⟨-, h⟩ | ⟨h, -⟩
  · cases h
  · exact h
  · omega
theorem ra_scrV {n : Nat} {v : Nat → Int} {ads : List Nat} {z : Nat} (hz : 2 ≤ z) {x : Value} (h : ra_cV n v ads b0 (.inr (.inr z)) x) : x = .ref (b0 z) := by
  rcases h with ⟨h, -⟩ | ⟨h, -⟩ | ⟨-, h⟩
  · omega
  · omega
  · exact h
/-- a result comes on the stack -/
theorem ra_pushR {v : Nat → Int} {env : ra_N} {lv : List (Nat × ra_V)} {st st1 : List ra_V} {aw : List ra_C} {ce sl : Nat} {lvv : List (Nat × Value)} {stv stv1 : List Value} {ws : va_W} {r : ra_N × (Nat × Int)} {y : Int32} {pc : Nat} (h : ra_res v env r y.toInt) (hg : ra_g b0 ad0 cT v (env, lv, st1, aw, ce, sl) lvv stv1 ws) (hs : ra_a2 (ra_cV env.length v (ws.map Prod.fst) b0) st stv) (hn : n0 ≤ env.length) (hv : ∀ i, i < n0 → v i = v0 i)
    (k : ra_ok p l e R s m args below meth c Q nL A D cl b0 ad0 cT n0 v0 (pc, (r.1, lv, .inl r.2 :: st, aw, ce, sl))) : ra_W p l e R s m args below meth c Q nL A D cl pc lvv (.int y :: stv) ws ce sl := by
  obtain ⟨h1, v', h3, h4, h5⟩ := ra_resV (b0 := b0) h
  have hg' := ra_g_ext (ra_g_st (st' := st) (stv' := stv) (ce' := ce) (sl' := sl) hg hs) h1 h3 h4
  exact k (Nat.le_trans hn h1) v' _ _ ws ⟨hg'.1, hg'.2.1, ⟨h5 _, hg'.2.2.1⟩, hg'.2.2.2⟩ (fun i hi => by rw [h3 i (by omega)]; exact hv i hi)
theorem ra_cat1 {n : Nat} {v : Nat → Int} {ads : List Nat} {a : ra_V} {x : Value} (h : ra_cV n v ads b0 a x) (h2 : (!ra_two a) = true) : x.category = 1 := by
  have h1 := ra_two_ok h
  rcases lv_cat x with h3 | h3
  · exact h3
  · rw [h3] at h1
    rw [← h1] at h2
    cases h2
theorem ra_ne0 {v : Nat → Int} {env : ra_N} (hN : ra_cN v env) {q : Nat × Int} {y : Int32} (h : y.toInt = v q.1 + q.2) (hb : (let b := ra_rg env q; ra_leb 1 b.1 || ra_leb b.2 (-1)) = true) : ¬ y = 0 := by
  have h1 := ra_rg_ok hN h
  simp only [Bool.or_eq_true] at hb
  intro h0
  have h2 : y.toInt = 0 := by rw [h0]; rfl
  rcases hb with hb | hb
  · have := ra_leb_le hb
    omega
  · have := ra_leb_le hb
    omega
theorem ra_tg_ok {pc : Nat} {off : Int} (h : ra_leb 0 ((pc : Int) + off) = true) : (pc : Int) + off = (ra_tg pc off : Int) := by
  have := ra_leb_le h
  unfold ra_tg
  omega
set_option maxHeartbeats 4000000 in
theorem ra_p1_ok {kt : List (Nat × Int)} {kl : List Nat} {i : Instr} {n pc : Nat} {a : ra_S} {out : List (Nat × ra_S)} (h : ra_p1 kt kl nL i n pc a = some out) (X : ra_X p s m args c cc own nL A D cl tys Ts) (hK : ra_okK Ts own kt) (hL : ra_okL Ts own kl) (hdg : decode cc pc = .ok (i, n)) (hs : ∀ x ∈ out, ra_ok p l e R s m args below meth c Q nL A D cl b0 ad0 cT n0 v0 x) : ra_ok p l e R s m args below meth c Q nL A D cl b0 ad0 cT n0 v0 (pc, a) := by
  obtain ⟨env, lv, st, aw, ce, sl⟩ := a
  intro hn v lvv stv ws hg hv
  have hN := hg.1
  dsimp only at hn hN
  have hlv := hg.2.1
  have hst := hg.2.2.1
  dsimp only at hlv hst
  obtain ⟨hx, hb, hml, hown, hts, hKK, hA⟩ := id X
  unfold ra_p1 at h
  dsimp only at h
  split at h
  · have hq0 := ra_gd_ok h; clear h; obtain ⟨h1, h⟩ := hq0
    cases h
    simp only [beq_iff_eq] at h1
    subst h1
    intro H locs ls hP hD hS hl
    refine lv_iconst hx hb hdg rfl ?_
    exact hs _ (List.mem_singleton.mpr rfl) hn v _ _ ws (ra_g_st hg (ra_a2_mk (ra_cV_const hN rfl) hst)) hv H locs ls hP hD hS hl
  · have hq0 := ra_gd_ok h; clear h; obtain ⟨h1, h⟩ := hq0
    cases h
    simp only [beq_iff_eq] at h1
    subst h1
    intro H locs ls hP hD hS hl
    refine lv_bipush hx hb hdg rfl ?_
    exact hs _ (List.mem_singleton.mpr rfl) hn v _ _ ws (ra_g_st hg (ra_a2_mk (ra_cV_const hN rfl) hst)) hv H locs ls hP hD hS hl
  · have hq0 := ra_gd_ok h; clear h; obtain ⟨h1, h⟩ := hq0
    cases h
    simp only [beq_iff_eq] at h1
    subst h1
    intro H locs ls hP hD hS hl
    refine lv_sipush hx hb hdg rfl ?_
    exact hs _ (List.mem_singleton.mpr rfl) hn v _ _ ws (ra_g_st hg (ra_a2_mk (ra_cV_const hN rfl) hst)) hv H locs ls hP hD hS hl
  · have hq0 := ra_gd_ok h; clear h; obtain ⟨h1, h⟩ := hq0
    cases h
    simp only [beq_iff_eq] at h1
    subst h1
    intro H locs ls hP hD hS hl
    refine lv_lconst hx hb hdg rfl ?_
    exact hs _ (List.mem_singleton.mpr rfl) hn v _ _ ws (ra_g_st hg (ra_a2_mk (ra_cV_long _) hst)) hv H locs ls hP hD hS hl
  · have hq0 := ra_gd_ok h; clear h; obtain ⟨h1, h⟩ := hq0
    simp only [beq_iff_eq] at h1
    subst h1
    split at h
    · rename_i k hk
      cases h
      obtain ⟨w, hw, hm⟩ := hK _ (ra_kf_mem hk)
      intro H locs ls hP hD hS hl
      refine lv_ldc hx hb hown (hts _ hm) hdg ?_
      exact hs _ (List.mem_singleton.mpr rfl) hn v _ _ ws (ra_g_st hg (ra_a2_mk (ra_cV_const hN hw) hst)) hv H locs ls hP hD hS hl
    · cases h
  · have hq0 := ra_gd_ok h; clear h; obtain ⟨h1, h⟩ := hq0
    simp only [beq_iff_eq] at h1
    subst h1
    split at h
    · rename_i k hk
      cases h
      obtain ⟨w, hw, hm⟩ := hK _ (ra_kf_mem hk)
      intro H locs ls hP hD hS hl
      refine lv_ldcw hx hb hown (hts _ hm) hdg ?_
      exact hs _ (List.mem_singleton.mpr rfl) hn v _ _ ws (ra_g_st hg (ra_a2_mk (ra_cV_const hN hw) hst)) hv H locs ls hP hD hS hl
    · cases h
  · have hq0 := ra_gd_ok h; clear h; obtain ⟨h1, h⟩ := hq0
    cases h
    simp only [Bool.and_eq_true, beq_iff_eq, List.contains_iff_mem] at h1
    obtain ⟨h1, h2⟩ := h1
    subst h1
    obtain ⟨w, hm⟩ := hL _ h2
    intro H locs ls hP hD hS hl
    refine lv_ldc2 hx hb hown (hts _ hm) hdg ?_
    exact hs _ (List.mem_singleton.mpr rfl) hn v _ _ ws (ra_g_st hg (ra_a2_mk (ra_cV_long _) hst)) hv H locs ls hP hD hS hl
  · have hq0 := ra_gd_ok h; clear h; obtain ⟨h1, h⟩ := hq0
    simp only [beq_iff_eq] at h1
    subst h1
    split at h
    · rename_i q hq
      cases h
      obtain ⟨k, x, g1, g2⟩ := ra_lf_ok hq hlv
      have g3 := g2
      obtain ⟨_, y, rfl, _⟩ := g2
      intro H locs ls hP hD hS hl
      refine lv_iload_n hx hb hdg rfl (lv_at hl k g1) ?_
      exact hs _ (List.mem_singleton.mpr rfl) hn v _ _ ws (ra_g_st hg (ra_a2_mk g3 hst)) hv H locs ls hP hD hS hl
    · cases h
  · have hq0 := ra_gd_ok h; clear h; obtain ⟨h1, h⟩ := hq0
    simp only [beq_iff_eq] at h1
    subst h1
    split at h
    · rename_i q hq
      cases h
      obtain ⟨k, x, g1, g2⟩ := ra_lf_ok hq hlv
      have g3 := g2
      obtain ⟨_, y, rfl, _⟩ := g2
      intro H locs ls hP hD hS hl
      refine lv_iload hx hb hdg (lv_at hl k g1) ?_
      exact hs _ (List.mem_singleton.mpr rfl) hn v _ _ ws (ra_g_st hg (ra_a2_mk g3 hst)) hv H locs ls hP hD hS hl
    · cases h
  · have hq0 := ra_gd_ok h; clear h; obtain ⟨h1, h⟩ := hq0
    simp only [beq_iff_eq] at h1
    subst h1
    split at h
    · rename_i hq
      cases h
      obtain ⟨k, x, g1, g2⟩ := ra_lf_ok hq hlv
      have g3 := g2
      obtain ⟨y, rfl⟩ := ra_longV g2
      intro H locs ls hP hD hS hl
      refine lv_lload_n hx hb hdg rfl (lv_at hl k g1) ?_
      exact hs _ (List.mem_singleton.mpr rfl) hn v _ _ ws (ra_g_st hg (ra_a2_mk g3 hst)) hv H locs ls hP hD hS hl
    · cases h
  · have hq0 := ra_gd_ok h; clear h; obtain ⟨h1, h⟩ := hq0
    simp only [beq_iff_eq] at h1
    subst h1
    split at h
    · rename_i hq
      cases h
      obtain ⟨k, x, g1, g2⟩ := ra_lf_ok hq hlv
      have g3 := g2
      obtain ⟨y, rfl⟩ := ra_longV g2
      intro H locs ls hP hD hS hl
      refine lv_lload hx hb hdg (lv_at hl k g1) ?_
      exact hs _ (List.mem_singleton.mpr rfl) hn v _ _ ws (ra_g_st hg (ra_a2_mk g3 hst)) hv H locs ls hP hD hS hl
    · cases h
  · have hq0 := ra_gd_ok h; clear h; obtain ⟨h1, h⟩ := hq0
    simp only [beq_iff_eq] at h1
    subst h1
    split at h
    · rename_i q hq
      cases h
      obtain ⟨k, x, g1, g2⟩ := ra_lf_ok hq hlv
      have g3 := g2
      obtain ⟨r, _, rfl⟩ := g2
      intro H locs ls hP hD hS hl
      refine lv_aload_n hx hb hdg rfl (lv_at hl k g1) ?_
      exact hs _ (List.mem_singleton.mpr rfl) hn v _ _ ws (ra_g_st hg (ra_a2_mk g3 hst)) hv H locs ls hP hD hS hl
    · rename_i z hq
      have hq2 := ra_gd_ok h; clear h; obtain ⟨hz2, h⟩ := hq2
      have hz := Nat.le_of_ble_eq_true hz2
      cases h
      obtain ⟨k, x, g1, g2⟩ := ra_lf_ok hq hlv
      have g3 := g2
      have g4 := ra_scrV hz g2
      subst g4
      intro H locs ls hP hD hS hl
      refine lv_aload_n hx hb hdg rfl (lv_at hl k g1) ?_
      exact hs _ (List.mem_singleton.mpr rfl) hn v _ _ ws (ra_g_st hg (ra_a2_mk g3 hst)) hv H locs ls hP hD hS hl
    · cases h
  · have hq0 := ra_gd_ok h; clear h; obtain ⟨h1, h⟩ := hq0
    simp only [beq_iff_eq] at h1
    subst h1
    split at h
    · rename_i q hq
      cases h
      obtain ⟨k, x, g1, g2⟩ := ra_lf_ok hq hlv
      have g3 := g2
      obtain ⟨r, _, rfl⟩ := g2
      intro H locs ls hP hD hS hl
      refine lv_aload hx hb hdg (lv_at hl k g1) ?_
      exact hs _ (List.mem_singleton.mpr rfl) hn v _ _ ws (ra_g_st hg (ra_a2_mk g3 hst)) hv H locs ls hP hD hS hl
    · rename_i z hq
      have hq2 := ra_gd_ok h; clear h; obtain ⟨hz2, h⟩ := hq2
      have hz := Nat.le_of_ble_eq_true hz2
      cases h
      obtain ⟨k, x, g1, g2⟩ := ra_lf_ok hq hlv
      have g3 := g2
      have g4 := ra_scrV hz g2
      subst g4
      intro H locs ls hP hD hS hl
      refine lv_aload hx hb hdg (lv_at hl k g1) ?_
      exact hs _ (List.mem_singleton.mpr rfl) hn v _ _ ws (ra_g_st hg (ra_a2_mk g3 hst)) hv H locs ls hP hD hS hl
    · cases h
  · have hq0 := ra_gd_ok h; clear h; obtain ⟨h1, h⟩ := hq0
    simp only [Bool.and_eq_true, beq_iff_eq] at h1
    obtain ⟨h1, h2⟩ := h1
    subst h1
    split at h
    · cases h
      obtain ⟨x, stv1, rfl, g2, g4⟩ := ra_a2_cons hst
      have g3 := g2
      obtain ⟨_, y, rfl, _⟩ := g2
      intro H locs ls hP hD hS hl
      refine lv_istore_n hx hb hdg rfl hl (Nat.le_of_ble_eq_true h2) rfl (fun ls hl => ?_)
      exact hs _ (List.mem_singleton.mpr rfl) hn v _ _ ws ⟨hN, ra_s1_ok hlv g3, g4, hg.2.2.2⟩ hv H locs ls hP hD hS hl
    · cases h
  · have hq0 := ra_gd_ok h; clear h; obtain ⟨h1, h⟩ := hq0
    simp only [Bool.and_eq_true, beq_iff_eq] at h1
    obtain ⟨h1, h2⟩ := h1
    subst h1
    split at h
    · cases h
      obtain ⟨x, stv1, rfl, g2, g4⟩ := ra_a2_cons hst
      have g3 := g2
      obtain ⟨_, y, rfl, _⟩ := g2
      intro H locs ls hP hD hS hl
      refine lv_istore hx hb hdg hl (Nat.le_of_ble_eq_true h2) rfl (fun ls hl => ?_)
      exact hs _ (List.mem_singleton.mpr rfl) hn v _ _ ws ⟨hN, ra_s1_ok hlv g3, g4, hg.2.2.2⟩ hv H locs ls hP hD hS hl
    · cases h
  · have hq0 := ra_gd_ok h; clear h; obtain ⟨h1, h⟩ := hq0
    simp only [Bool.and_eq_true, beq_iff_eq] at h1
    obtain ⟨h1, h2⟩ := h1
    subst h1
    split at h
    · cases h
      obtain ⟨x, stv1, rfl, g2, g4⟩ := ra_a2_cons hst
      have g3 := g2
      obtain ⟨y, rfl⟩ := ra_longV g2
      intro H locs ls hP hD hS hl
      refine lv_lstore_n hx hb hdg rfl hl (Nat.le_of_ble_eq_true h2) rfl (fun ls hl => ?_)
      exact hs _ (List.mem_singleton.mpr rfl) hn v _ _ ws ⟨hN, ra_s2_ok hlv g3, g4, hg.2.2.2⟩ hv H locs ls hP hD hS hl
    · cases h
  · have hq0 := ra_gd_ok h; clear h; obtain ⟨h1, h⟩ := hq0
    simp only [Bool.and_eq_true, beq_iff_eq] at h1
    obtain ⟨h1, h2⟩ := h1
    subst h1
    split at h
    · cases h
      obtain ⟨x, stv1, rfl, g2, g4⟩ := ra_a2_cons hst
      have g3 := g2
      obtain ⟨y, rfl⟩ := ra_longV g2
      intro H locs ls hP hD hS hl
      refine lv_lstore hx hb hdg hl (Nat.le_of_ble_eq_true h2) rfl (fun ls hl => ?_)
      exact hs _ (List.mem_singleton.mpr rfl) hn v _ _ ws ⟨hN, ra_s2_ok hlv g3, g4, hg.2.2.2⟩ hv H locs ls hP hD hS hl
    · cases h
  · have hq0 := ra_gd_ok h; clear h; obtain ⟨h1, h⟩ := hq0
    simp only [Bool.and_eq_true, beq_iff_eq] at h1
    obtain ⟨h1, h2⟩ := h1
    subst h1
    split at h
    · cases h
      obtain ⟨x, stv1, rfl, g2, g4⟩ := ra_a2_cons hst
      have g3 := g2
      obtain ⟨r, _, rfl⟩ := g2
      intro H locs ls hP hD hS hl
      refine lv_astore_n hx hb hdg rfl hl (Nat.le_of_ble_eq_true h2) rfl (fun ls hl => ?_)
      exact hs _ (List.mem_singleton.mpr rfl) hn v _ _ ws ⟨hN, ra_s1_ok hlv g3, g4, hg.2.2.2⟩ hv H locs ls hP hD hS hl
    · rename_i z st1
      have hq2 := ra_gd_ok h; clear h; obtain ⟨hz2, h⟩ := hq2
      have hz := Nat.le_of_ble_eq_true hz2
      cases h
      obtain ⟨x, stv1, rfl, g2, g4⟩ := ra_a2_cons hst
      have g3 := g2
      have g5 := ra_scrV hz g2
      subst g5
      intro H locs ls hP hD hS hl
      refine lv_astore_n hx hb hdg rfl hl (Nat.le_of_ble_eq_true h2) rfl (fun ls hl => ?_)
      exact hs _ (List.mem_singleton.mpr rfl) hn v _ _ ws ⟨hN, ra_s1_ok hlv g3, g4, hg.2.2.2⟩ hv H locs ls hP hD hS hl
    · cases h
  · have hq0 := ra_gd_ok h; clear h; obtain ⟨h1, h⟩ := hq0
    simp only [Bool.and_eq_true, beq_iff_eq] at h1
    obtain ⟨h1, h2⟩ := h1
    subst h1
    split at h
    · cases h
      obtain ⟨x, stv1, rfl, g2, g4⟩ := ra_a2_cons hst
      have g3 := g2
      obtain ⟨r, _, rfl⟩ := g2
      intro H locs ls hP hD hS hl
      refine lv_astore hx hb hdg hl (Nat.le_of_ble_eq_true h2) rfl (fun ls hl => ?_)
      exact hs _ (List.mem_singleton.mpr rfl) hn v _ _ ws ⟨hN, ra_s1_ok hlv g3, g4, hg.2.2.2⟩ hv H locs ls hP hD hS hl
    · rename_i z st1
      have hq2 := ra_gd_ok h; clear h; obtain ⟨hz2, h⟩ := hq2
      have hz := Nat.le_of_ble_eq_true hz2
      cases h
      obtain ⟨x, stv1, rfl, g2, g4⟩ := ra_a2_cons hst
      have g3 := g2
      have g5 := ra_scrV hz g2
      subst g5
      intro H locs ls hP hD hS hl
      refine lv_astore hx hb hdg hl (Nat.le_of_ble_eq_true h2) rfl (fun ls hl => ?_)
      exact hs _ (List.mem_singleton.mpr rfl) hn v _ _ ws ⟨hN, ra_s1_ok hlv g3, g4, hg.2.2.2⟩ hv H locs ls hP hD hS hl
    · cases h
  · have hq0 := ra_gd_ok h; clear h; obtain ⟨h1, h⟩ := hq0
    simp only [Bool.and_eq_true, beq_iff_eq] at h1
    obtain ⟨h1, h2⟩ := h1
    subst h1
    split at h
    · rename_i k0 d x0 q hq
      cases h
      obtain ⟨k, x, g1, g2⟩ := ra_lf_ok hq hlv
      obtain ⟨g5, y, rfl, g6⟩ := g2
      have hr := ra_add_ok (qy := (0, (Int32.ofInt d).toInt)) (y := Int32.ofInt d) hN g5 hN.1 g6 (by show _ = v 0 + _; rw [hN.2.1]; omega)
      obtain ⟨r1, v', r3, r4, r5⟩ := ra_resV (b0 := b0) hr
      have hg' := ra_g_ext hg r1 r3 r4
      intro H locs ls hP hD hS hl
      refine lv_iinc hx hb hdg hl g1 rfl (Nat.le_of_ble_eq_true h2) rfl (fun ls hl => ?_)
      exact hs _ (List.mem_singleton.mpr rfl) (Nat.le_trans hn r1) v' _ _ ws ⟨r4, ra_s1_ok hg'.2.1 (r5 _), hg'.2.2.1, hg'.2.2.2⟩ (fun i hi => by rw [r3 i (by omega)]; exact hv i hi) H locs ls hP hD hS hl
    · cases h
  · have hq0 := ra_gd_ok h; clear h; obtain ⟨h1, h⟩ := hq0
    simp only [beq_iff_eq] at h1
    subst h1
    split at h
    · have hq1 := ra_gd_ok h; clear h; obtain ⟨h2, h⟩ := hq1
      cases h
      obtain ⟨x, stv1, rfl, g2, g4⟩ := ra_a2_cons hst
      obtain ⟨x2, stv2, rfl, g5, g6⟩ := ra_a2_cons g4
      obtain ⟨k1, y, rfl, k2⟩ := g2
      obtain ⟨k3, z, rfl, k4⟩ := g5
      have hne := ra_ne0 hN k2 h2
      have hr := ra_bin_ok ra_gdiv_ok hN k3 k1 k4 k2 trivial
      have kk := ra_pushR hr hg g6 hn hv (hs _ (List.mem_singleton.mpr rfl))
      intro H locs ls hP hD hS hl
      exact lv_idiv hx hb hdg hne (kk H locs ls hP hD hS hl)
    · cases h
  · have hq0 := ra_gd_ok h; clear h; obtain ⟨h1, h⟩ := hq0
    simp only [beq_iff_eq] at h1
    subst h1
    split at h
    · have hq1 := ra_gd_ok h; clear h; obtain ⟨h2, h⟩ := hq1
      cases h
      obtain ⟨x, stv1, rfl, g2, g4⟩ := ra_a2_cons hst
      obtain ⟨x2, stv2, rfl, g5, g6⟩ := ra_a2_cons g4
      obtain ⟨k1, y, rfl, k2⟩ := g2
      obtain ⟨k3, z, rfl, k4⟩ := g5
      have hne := ra_ne0 hN k2 h2
      have hr := ra_bin_ok ra_grem_ok hN k3 k1 k4 k2 trivial
      have kk := ra_pushR hr hg g6 hn hv (hs _ (List.mem_singleton.mpr rfl))
      intro H locs ls hP hD hS hl
      exact lv_irem hx hb hdg hne (kk H locs ls hP hD hS hl)
    · cases h
  · have hq0 := ra_gd_ok h; clear h; obtain ⟨h1, h⟩ := hq0
    simp only [beq_iff_eq] at h1
    subst h1
    split at h
    · cases h
      obtain ⟨x, stv1, rfl, g2, g4⟩ := ra_a2_cons hst
      obtain ⟨x2, stv2, rfl, g5, g6⟩ := ra_a2_cons g4
      obtain ⟨k1, y, rfl, k2⟩ := g2
      obtain ⟨z, rfl⟩ := ra_longV g5
      intro H locs ls hP hD hS hl
      refine lv_lshl hx hb hdg rfl ?_
      exact hs _ (List.mem_singleton.mpr rfl) hn v _ _ ws (ra_g_st hg (ra_a2_mk (ra_cV_long _) g6)) hv H locs ls hP hD hS hl
    · cases h
  · have hq0 := ra_gd_ok h; clear h; obtain ⟨h1, h⟩ := hq0
    simp only [beq_iff_eq] at h1
    subst h1
    split at h
    · cases h
      obtain ⟨x, stv1, rfl, g2, g4⟩ := ra_a2_cons hst
      obtain ⟨x2, stv2, rfl, g5, g6⟩ := ra_a2_cons g4
      obtain ⟨y, rfl⟩ := ra_longV g2
      obtain ⟨z, rfl⟩ := ra_longV g5
      have kk := ra_pushR (ra_fr_ok hN (ra_i32 (lg_cmp z y)).1 (ra_i32 (lg_cmp z y)).2) hg g6 hn hv (hs _ (List.mem_singleton.mpr rfl))
      intro H locs ls hP hD hS hl
      exact W.lcmp hx hb hdg (kk H locs ls hP hD hS hl)
    · cases h
  · have hq0 := ra_gd_ok h; clear h; obtain ⟨h1, h⟩ := hq0
    simp only [beq_iff_eq] at h1
    subst h1
    split at h
    · cases h
      obtain ⟨x, stv1, rfl, g2, g4⟩ := ra_a2_cons hst
      obtain ⟨k1, y, rfl, k2⟩ := g2
      intro H locs ls hP hD hS hl
      refine lv_i2l hx hb hdg rfl ?_
      exact hs _ (List.mem_singleton.mpr rfl) hn v _ _ ws (ra_g_st hg (ra_a2_mk (ra_cV_long _) g4)) hv H locs ls hP hD hS hl
    · cases h
  · have hq0 := ra_gd_ok h; clear h; obtain ⟨h1, h⟩ := hq0
    simp only [beq_iff_eq] at h1
    subst h1
    split at h
    · cases h
      obtain ⟨x, stv1, rfl, g2, g4⟩ := ra_a2_cons hst
      obtain ⟨y, rfl⟩ := ra_longV g2
      have kk := ra_pushR (ra_fr_ok hN (ra_i32 y.toInt32).1 (ra_i32 y.toInt32).2) hg g4 hn hv (hs _ (List.mem_singleton.mpr rfl))
      intro H locs ls hP hD hS hl
      exact lv_l2i hx hb hdg rfl (kk H locs ls hP hD hS hl)
    · cases h
  · have hq0 := ra_gd_ok h; clear h; obtain ⟨h1, h⟩ := hq0
    simp only [beq_iff_eq] at h1
    subst h1
    split at h
    · cases h
      obtain ⟨x, stv1, rfl, g2, g4⟩ := ra_a2_cons hst
      obtain ⟨k1, y, rfl, k2⟩ := g2
      have hr := ra_bin_ok ra_gi2b_ok (qy := (0, 0)) (y := 0) hN k1 hN.1 k2 (by show _ = v 0 + _; rw [hN.2.1]; rfl) trivial
      have kk := ra_pushR hr hg g4 hn hv (hs _ (List.mem_singleton.mpr rfl))
      intro H locs ls hP hD hS hl
      exact lv_i2b hx hb hdg rfl (kk H locs ls hP hD hS hl)
    · cases h
  · have hq0 := ra_gd_ok h; clear h; obtain ⟨h1, h⟩ := hq0
    simp only [beq_iff_eq] at h1
    subst h1
    split at h
    · cases h
      obtain ⟨x, stv1, rfl, g2, g4⟩ := ra_a2_cons hst
      obtain ⟨k1, y, rfl, k2⟩ := g2
      have hr := ra_bin_ok ra_gi2c_ok (qy := (0, 0)) (y := 0) hN k1 hN.1 k2 (by show _ = v 0 + _; rw [hN.2.1]; rfl) trivial
      have kk := ra_pushR hr hg g4 hn hv (hs _ (List.mem_singleton.mpr rfl))
      intro H locs ls hP hD hS hl
      exact lv_i2c hx hb hdg rfl (kk H locs ls hP hD hS hl)
    · cases h
  · have hq0 := ra_gd_ok h; clear h; obtain ⟨h1, h⟩ := hq0
    simp only [beq_iff_eq] at h1
    subst h1
    split at h
    · have hq1 := ra_gd_ok h; clear h; obtain ⟨h2, h⟩ := hq1
      cases h
      obtain ⟨x, stv1, rfl, g2, g4⟩ := ra_a2_cons hst
      intro H locs ls hP hD hS hl
      refine lv_dup hx hb hdg (ra_cat1 g2 h2) ?_
      exact hs _ (List.mem_singleton.mpr rfl) hn v _ _ ws (ra_g_st hg (ra_a2_mk g2 (ra_a2_mk g2 g4))) hv H locs ls hP hD hS hl
    · cases h
  · have hq0 := ra_gd_ok h; clear h; obtain ⟨h1, h⟩ := hq0
    simp only [beq_iff_eq] at h1
    subst h1
    split at h
    · have hq1 := ra_gd_ok h; clear h; obtain ⟨h2, h⟩ := hq1
      cases h
      rw [Bool.and_eq_true] at h2
      obtain ⟨x, stv1, rfl, g2, g4⟩ := ra_a2_cons hst
      obtain ⟨x2, stv2, rfl, g5, g6⟩ := ra_a2_cons g4
      intro H locs ls hP hD hS hl
      refine lv_dup2_11 hx hb hdg (ra_cat1 g2 h2.1) (ra_cat1 g5 h2.2) ?_
      exact hs _ (List.mem_singleton.mpr rfl) hn v _ _ ws (ra_g_st hg (ra_a2_mk g2 (ra_a2_mk g5 (ra_a2_mk g2 (ra_a2_mk g5 g6))))) hv H locs ls hP hD hS hl
    · cases h
  · have hq0 := ra_gd_ok h; clear h; obtain ⟨h1, h⟩ := hq0
    simp only [beq_iff_eq] at h1
    subst h1
    split at h
    · have hq1 := ra_gd_ok h; clear h; obtain ⟨h2, h⟩ := hq1
      cases h
      obtain ⟨x, stv1, rfl, g2, g4⟩ := ra_a2_cons hst
      intro H locs ls hP hD hS hl
      refine lv_pop hx hb hdg (ra_cat1 g2 h2) ?_
      exact hs _ (List.mem_singleton.mpr rfl) hn v _ _ ws (ra_g_st hg g4) hv H locs ls hP hD hS hl
    · cases h
  · have hq0 := ra_gd_ok h; clear h; obtain ⟨h1, h⟩ := hq0
    cases h
    simp only [Bool.and_eq_true, beq_iff_eq] at h1
    obtain ⟨h1, h2⟩ := h1
    subst h1
    intro H locs ls hP hD hS hl
    refine lv_goto hx hb hdg (ra_tg_ok h2) ?_
    exact hs _ (List.mem_singleton.mpr rfl) hn v _ _ ws hg hv H locs ls hP hD hS hl
  · split at h
    · rename_i op hop
      have hq0 := ra_gd_ok h; clear h; obtain ⟨h1, h⟩ := hq0
      simp only [beq_iff_eq] at h1
      subst h1
      split at h
      · cases h
        obtain ⟨x, stv1, rfl, g2, g4⟩ := ra_a2_cons hst
        obtain ⟨x2, stv2, rfl, g5, g6⟩ := ra_a2_cons g4
        obtain ⟨k1, y, rfl, k2⟩ := g2
        obtain ⟨k3, z, rfl, k4⟩ := g5
        exact ra_bopW hop X hdg (ra_pushR (ra_bop_ok hop hN k3 k1 k4 k2) hg g6 hn hv (hs _ (List.mem_singleton.mpr rfl)))
      · cases h
    · have hq0 := ra_gd_ok h; clear h; obtain ⟨h1, h⟩ := hq0
      simp only [Bool.and_eq_true, beq_iff_eq] at h1
      obtain ⟨h1, h2⟩ := h1
      subst h1
      split at h
      · cases h
        obtain ⟨x, stv1, rfl, g2, g4⟩ := ra_a2_cons hst
        obtain ⟨x2, stv2, rfl, g5, g6⟩ := ra_a2_cons g4
        obtain ⟨y, rfl⟩ := ra_longV g2
        obtain ⟨z, rfl⟩ := ra_longV g5
        intro H locs ls hP hD hS hl
        have kk : ∀ w : Int64, W p l e R s m args below meth c H locs ce sl Q (F0 m (pc + 1) ls (.long w :: stv2)) := fun w => hs _ (List.mem_singleton.mpr rfl) hn v _ _ ws (ra_g_st hg (ra_a2_mk (ra_cV_long _) g6)) hv H locs ls hP hD hS hl
        unfold ra_lop at h2
        split at h2
        · exact lv_ladd hx hb hdg (kk _)
        · exact lv_lsub hx hb hdg (kk _)
        · exact lv_lmul hx hb hdg (kk _)
        · exact lv_lor hx hb hdg (kk _)
        · exact lv_land hx hb hdg (kk _)
        · exact lv_lxor hx hb hdg (kk _)
        · cases h2
      · cases h
end
end
section
/-! branches and switches -/
section
variable {p : Program} {l : Launch} {e : Env} {R : Room} {s : State} {m : MethodId} {args : Array Value} {below : List Frame} {meth : Method} {c : Code} {Q : State → Prop}
variable {cc : ByteArray} {own : String} {nL : Nat} {A : Nat → Prop} {D : va_G} {cl : List vw_C} {tys : List (ClassId × FieldType)} {Ts : List Cond} {b0 : Nat → Nat} {ad0 : List Nat} {cT : Nat → ClassId} {n0 : Nat} {v0 : Nat → Int}

def ra_bs (pc : Nat) (es : List ra_N) (lv : List (Nat × ra_V)) (st : List ra_V) (aw : List ra_C) (ce sl : Nat) : List (Nat × ra_S) := es.map (fun e => (pc, (e, lv, st, aw, ce, sl)))
theorem ra_bs_ok {pc : Nat} {es : List ra_N} {lv : List (Nat × ra_V)} {st st1 : List ra_V} {aw : List ra_C} {ce sl : Nat} {env : ra_N} {v : Nat → Int} {lvv : List (Nat × Value)} {stv stv1 : List Value} {ws : va_W} (hg : ra_g b0 ad0 cT v (env, lv, st1, aw, ce, sl) lvv stv1 ws) (hst : ra_a2 (ra_cV env.length v (ws.map Prod.fst) b0) st stv) (hn : n0 ≤ env.length) (hv : ∀ i, i < n0 → v i = v0 i) (h : ∃ e ∈ es, ra_cN v e ∧ e.length = env.length) (hs : ∀ x ∈ ra_bs pc es lv st aw ce sl, ra_ok p l e R s m args below meth c Q nL A D cl b0 ad0 cT n0 v0 x) : ra_W p l e R s m args below meth c Q nL A D cl pc lvv stv ws ce sl := by
  obtain ⟨f, h1, h2, h3⟩ := h
  have hg' := ra_g_ext (ra_g_st (st' := st) (stv' := stv) (ce' := ce) (sl' := sl) hg hst) (Nat.le_of_eq h3.symm) (fun _ _ => rfl) h2
  exact hs _ (List.mem_map.mpr ⟨f, h1, rfl⟩) (by show n0 ≤ f.length; omega) v _ _ ws hg' hv
def ra_tabs (pc : Nat) (x : Nat × Int) (lv : List (Nat × ra_V)) (st : List ra_V) (aw : List ra_C) (ce sl : Nat) (env : ra_N) : Int → List Int → Option (List (Nat × ra_S))
  | _, [] => some []
  | k, o :: os => ra_gd (ra_inr k k && ra_leb 0 ((pc : Int) + o)) (match ra_tabs pc x lv st aw ce sl env (k + 1) os with
    | some r => some (ra_bs (ra_tg pc o) (ra_cmpT 2 env x (0, k)) lv st aw ce sl ++ r)
    | none => none)
theorem ra_tabs_ok {pc : Nat} {x : Nat × Int} {lv : List (Nat × ra_V)} {st : List ra_V} {aw : List ra_C} {ce sl : Nat} {env : ra_N} : ∀ {os : List Int} {k : Int} {r : List (Nat × ra_S)}, ra_tabs pc x lv st aw ce sl env k os = some r → ∀ (j : Nat) (o : Int), os[j]? = some o → ra_inr (k + j) (k + j) = true ∧ ra_leb 0 ((pc : Int) + o) = true ∧ ∀ y ∈ ra_bs (ra_tg pc o) (ra_cmpT 2 env x (0, k + j)) lv st aw ce sl, y ∈ r
  | [], _, _, _, j, o, h => by simp at h
  | o :: os, k, r, h, j, o', ho => by
    unfold ra_tabs at h
    obtain ⟨h1, h⟩ := ra_gd_ok h
    split at h
    · rename_i r' hr
      cases h
      rw [Bool.and_eq_true] at h1
      cases j with
      | zero =>
        simp at ho
        subst ho
        refine ⟨by simpa using h1.1, h1.2, fun y hy => List.mem_append_left _ (by simpa using hy)⟩
      | succ j =>
        simp at ho
        have := ra_tabs_ok hr j o' ho
        have e : k + ((j + 1 : Nat) : Int) = k + 1 + (j : Int) := by omega
        rw [e]
        exact ⟨this.1, this.2.1, fun y hy => List.mem_append_right _ (this.2.2 y hy)⟩
    · cases h
def ra_looks (pc : Nat) (x : Nat × Int) (lv : List (Nat × ra_V)) (st : List ra_V) (aw : List ra_C) (ce sl : Nat) (env : ra_N) (all : List (Int × Int)) (d : Int) : List (Int × Int) → Option (List (Nat × ra_S))
  | [] => some []
  | q :: qs => ra_gd (ra_inr q.1 q.1 && ra_leb 0 ((pc : Int) + Op.lookupswitch.offset all d q.1)) (match ra_looks pc x lv st aw ce sl env all d qs with
    | some r => some (ra_bs (ra_tg pc (Op.lookupswitch.offset all d q.1)) (ra_cmpT 2 env x (0, q.1)) lv st aw ce sl ++ r)
    | none => none)
theorem ra_looks_ok {pc : Nat} {x : Nat × Int} {lv : List (Nat × ra_V)} {st : List ra_V} {aw : List ra_C} {ce sl : Nat} {env : ra_N} {all : List (Int × Int)} {d : Int} : ∀ {qs : List (Int × Int)} {r : List (Nat × ra_S)}, ra_looks pc x lv st aw ce sl env all d qs = some r → ∀ q ∈ qs, ra_inr q.1 q.1 = true ∧ ra_leb 0 ((pc : Int) + Op.lookupswitch.offset all d q.1) = true ∧ ∀ y ∈ ra_bs (ra_tg pc (Op.lookupswitch.offset all d q.1)) (ra_cmpT 2 env x (0, q.1)) lv st aw ce sl, y ∈ r
  | [], _, _, q, h => by simp at h
  | q0 :: qs, r, h, q, hq => by
    unfold ra_looks at h
    obtain ⟨h1, h⟩ := ra_gd_ok h
    split at h
    · rename_i r' hr
      cases h
      rw [Bool.and_eq_true] at h1
      rcases List.mem_cons.mp hq with h2 | h2
      · subst h2
        exact ⟨h1.1, h1.2, fun y hy => List.mem_append_left _ hy⟩
      · have := ra_looks_ok hr q h2
        exact ⟨this.1, this.2.1, fun y hy => List.mem_append_right _ (this.2.2 y hy)⟩
    · cases h
/-- bounds behind 'none of these' -/
def ra_nes (x : Nat × Int) : List (Int × Int) → ra_N → List ra_N
  | [], e => [e]
  | q :: qs, e => (ra_cmpT 3 e x (0, q.1)).flatMap (ra_nes x qs)
theorem ra_ofInt {k : Int} (h : ra_inr k k = true) : (Int32.ofInt k).toInt = k := by
  rw [Int32.toInt_ofInt]
  exact ra_bmod (ra_inr_ok h)
theorem ra_nes_ok {v : Nat → Int} {q : Nat × Int} {y : Int32} (ey : y.toInt = v q.1 + q.2) : ∀ {qs : List (Int × Int)} {env : ra_N}, ra_cN v env → q.1 < env.length → (∀ z ∈ qs, ra_inr z.1 z.1 = true ∧ y.toInt ≠ z.1) → ∃ e ∈ ra_nes q qs env, ra_cN v e ∧ e.length = env.length
  | [], env, hN, _, _ => ⟨env, List.mem_singleton.mpr rfl, hN, rfl⟩
  | z :: qs, env, hN, hq, h => by
    have h0 := h z List.mem_cons_self
    have e0 := ra_ofInt h0.1
    obtain ⟨f, f1, f2, f3⟩ := ra_cmpT_ok (qy := (0, z.1)) (y := Int32.ofInt z.1) hN 3 hq hN.1 ey (by show _ = v 0 + _; rw [hN.2.1, e0]; omega) (fun hc => h0.2 (by rw [hc, e0]))
    obtain ⟨g, g1, g2, g3⟩ := ra_nes_ok ey (qs := qs) f2 (by omega) (fun w hw => h w (List.mem_cons_of_mem _ hw))
    exact ⟨g, List.mem_flatMap.mpr ⟨f, f1, g1⟩, g2, by omega⟩
theorem ra_off_none {d x : Int} : ∀ {qs : List (Int × Int)}, (∀ z ∈ qs, x ≠ z.1) → Op.lookupswitch.offset qs d x = d
  | [], _ => rfl
  | z :: qs, h => by
    rw [Op.lookupswitch.offset_cons, if_neg (fun q => h z List.mem_cons_self q.symm)]
    exact ra_off_none (fun w hw => h w (List.mem_cons_of_mem _ hw))
def ra_p2 (i : Instr) (n pc : Nat) (a : ra_S) : Option (List (Nat × ra_S)) := match a with
  | (env, lv, st, aw, ce, sl) => match i with
    | .ifCond k off => ra_gd (n == 3 && ra_leb 0 ((pc : Int) + off)) (match st with
      | .inl x :: st => some (ra_bs (ra_tg pc off) (ra_cmpT (ra_ck k) env x (0, 0)) lv st aw ce sl ++ ra_bs (pc + 3) (ra_cmpT (ra_nk k) env x (0, 0)) lv st aw ce sl)
      | _ => none)
    | .if_icmp k off => ra_gd (n == 3 && ra_leb 0 ((pc : Int) + off)) (match st with
      | .inl y :: .inl x :: st => some (ra_bs (ra_tg pc off) (ra_cmpT (ra_ck k) env x y) lv st aw ce sl ++ ra_bs (pc + 3) (ra_cmpT (ra_nk k) env x y) lv st aw ce sl)
      | _ => none)
    | .tableswitch d lo hi offs => match st with
      | .inl x :: st => ra_gd (ra_leb 0 ((pc : Int) + d) && (ra_inr lo lo && (ra_inr hi hi && ra_eqb (hi - lo + 1) offs.toList.length))) (match ra_tabs pc x lv st aw ce sl env lo offs.toList with
        | some r => some (ra_bs (ra_tg pc d) (ra_le 1 env x (0, lo)) lv st aw ce sl ++ (ra_bs (ra_tg pc d) (ra_le 1 env (0, hi) x) lv st aw ce sl ++ r))
        | none => none)
      | _ => none
    | .lookupswitch d ps => match st with
      | .inl x :: st => ra_gd (ra_leb 0 ((pc : Int) + d) && (ps.toList.zip (ps.toList.drop 1)).all (fun (a, next) => a.1 < next.1)) (match ra_looks pc x lv st aw ce sl env ps.toList d ps.toList with
        | some r => some (ra_bs (ra_tg pc d) (ra_nes x ps.toList env) lv st aw ce sl ++ r)
        | none => none)
      | _ => none
    | _ => none
set_option maxHeartbeats 4000000 in
theorem ra_p2_ok {i : Instr} {n pc : Nat} {a : ra_S} {out : List (Nat × ra_S)} (h : ra_p2 i n pc a = some out) (X : ra_X p s m args c cc own nL A D cl tys Ts) (hdg : decode cc pc = .ok (i, n)) (hs : ∀ x ∈ out, ra_ok p l e R s m args below meth c Q nL A D cl b0 ad0 cT n0 v0 x) : ra_ok p l e R s m args below meth c Q nL A D cl b0 ad0 cT n0 v0 (pc, a) := by
  obtain ⟨env, lv, st, aw, ce, sl⟩ := a
  intro hn v lvv stv ws hg hv
  have hN := hg.1
  dsimp only at hn hN
  have hst := hg.2.2.1
  dsimp only at hst
  obtain ⟨hx, hb, hml, hown, hts, hKK, hA⟩ := id X
  unfold ra_p2 at h
  dsimp only at h
  split at h
  · have hq0 := ra_gd_ok h; clear h; obtain ⟨h1, h⟩ := hq0
    simp only [Bool.and_eq_true, beq_iff_eq] at h1
    obtain ⟨h1, h2⟩ := h1
    subst h1
    split at h
    · cases h
      obtain ⟨x, stv1, rfl, g2, g4⟩ := ra_a2_cons hst
      obtain ⟨k1, y, rfl, k2⟩ := g2
      have e0 : (0 : Int32).toInt = v (0, (0 : Int)).1 + (0, (0 : Int)).2 := by show _ = v 0 + 0; rw [hN.2.1]; rfl
      exact ra_ifW X hdg (ra_tg_ok h2) (fun hc => ra_bs_ok hg g4 hn hv (ra_cmpT_ok hN _ k1 hN.1 k2 e0 hc) (fun z hz => hs z (List.mem_append_left _ hz))) (fun hc => ra_bs_ok hg g4 hn hv (ra_cmpT_ok hN _ k1 hN.1 k2 e0 hc) (fun z hz => hs z (List.mem_append_right _ hz)))
    · cases h
  · have hq0 := ra_gd_ok h; clear h; obtain ⟨h1, h⟩ := hq0
    simp only [Bool.and_eq_true, beq_iff_eq] at h1
    obtain ⟨h1, h2⟩ := h1
    subst h1
    split at h
    · cases h
      obtain ⟨x, stv1, rfl, g2, g4⟩ := ra_a2_cons hst
      obtain ⟨x2, stv2, rfl, g5, g6⟩ := ra_a2_cons g4
      obtain ⟨k1, y, rfl, k2⟩ := g2
      obtain ⟨k3, z, rfl, k4⟩ := g5
      exact ra_icmpW X hdg (ra_tg_ok h2) (fun hc => ra_bs_ok hg g6 hn hv (ra_cmpT_ok hN _ k3 k1 k4 k2 hc) (fun z hz => hs z (List.mem_append_left _ hz))) (fun hc => ra_bs_ok hg g6 hn hv (ra_cmpT_ok hN _ k3 k1 k4 k2 hc) (fun z hz => hs z (List.mem_append_right _ hz)))
    · cases h
  · rename_i d lo hi offs
    split at h
    · have hq0 := ra_gd_ok h; clear h; obtain ⟨h1, h⟩ := hq0
      rw [Bool.and_eq_true, Bool.and_eq_true, Bool.and_eq_true] at h1
      obtain ⟨h1, h2, h3, h4⟩ := h1
      have h4 := ra_eqb_eq h4
      split at h
      · rename_i r hr
        cases h
        obtain ⟨x, stv1, rfl, g2, g4⟩ := ra_a2_cons hst
        obtain ⟨k1, y, rfl, k2⟩ := g2
        intro H locs ls hP hD hS hl
        have elo := ra_ofInt h2
        have ehi := ra_ofInt h3
        by_cases hlo : y.toInt < lo
        · refine lv_tableOut hx hb hdg (Or.inl hlo) (ra_tg_ok h1) ?_
          exact ra_bs_ok hg g4 hn hv (ra_le_ok (qy := (0, lo)) (y := Int32.ofInt lo) hN k1 hN.1 k2 (by show _ = v 0 + _; rw [hN.2.1, elo]; omega) (by omega)) (fun z hz => hs z (List.mem_append_left _ hz)) H locs ls hP hD hS hl
        · by_cases hhi : hi < y.toInt
          · refine lv_tableOut hx hb hdg (Or.inr hhi) (ra_tg_ok h1) ?_
            exact ra_bs_ok hg g4 hn hv (ra_le_ok (qx := (0, hi)) (x := Int32.ofInt hi) hN hN.1 k1 (by show _ = v 0 + _; rw [hN.2.1, ehi]; omega) k2 (by omega)) (fun z hz => hs z (List.mem_append_right _ (List.mem_append_left _ hz))) H locs ls hP hD hS hl
          · have hj : (y.toInt - lo).toNat < offs.toList.length := by omega
            have ho : offs.toList[(y.toInt - lo).toNat]? = some offs.toList[(y.toInt - lo).toNat] := List.getElem?_eq_getElem hj
            have ht := ra_tabs_ok hr _ _ ho
            have e1 : lo + (((y.toInt - lo).toNat : Nat) : Int) = y.toInt := by omega
            rw [e1] at ht
            refine lv_tableIn hx hb hdg hlo hhi (by rw [← Array.getElem?_toList]; exact ho) (ra_tg_ok ht.2.1) ?_
            exact ra_bs_ok hg g4 hn hv (ra_cmpT_ok (qy := (0, y.toInt)) (y := y) hN 2 k1 hN.1 k2 (by show _ = v 0 + _; rw [hN.2.1]; omega) rfl) (fun z hz => hs z (List.mem_append_right _ (List.mem_append_right _ (ht.2.2 z hz)))) H locs ls hP hD hS hl
      · cases h
    · cases h
  · rename_i d ps
    split at h
    · have hq0 := ra_gd_ok h; clear h; obtain ⟨h1, h⟩ := hq0
      rw [Bool.and_eq_true] at h1
      obtain ⟨h1, h2⟩ := h1
      split at h
      · rename_i r hr
        cases h
        obtain ⟨x, stv1, rfl, g2, g4⟩ := ra_a2_cons hst
        obtain ⟨k1, y, rfl, k2⟩ := g2
        intro H locs ls hP hD hS hl
        by_cases hk : ∃ z ∈ ps.toList, y.toInt = z.1
        · obtain ⟨z, hz, hy⟩ := hk
          have ht := ra_looks_ok hr z hz
          have e0 := ra_ofInt ht.1
          refine lv_lookup hx hb hdg h2 (by rw [hy]) (ra_tg_ok ht.2.1) ?_
          exact ra_bs_ok hg g4 hn hv (ra_cmpT_ok (qy := (0, z.1)) (y := y) hN 2 k1 hN.1 k2 (by show _ = v 0 + _; rw [hN.2.1, hy]; omega) rfl) (fun z hz => hs z (List.mem_append_right _ (ht.2.2 z hz))) H locs ls hP hD hS hl
        · have hne : ∀ z ∈ ps.toList, y.toInt ≠ z.1 := fun z hz hy => hk ⟨z, hz, hy⟩
          refine lv_lookup hx hb hdg h2 (ra_off_none hne) (ra_tg_ok h1) ?_
          exact ra_bs_ok hg g4 hn hv (ra_nes_ok k2 hN k1 (fun z hz => ⟨(ra_looks_ok hr z hz).1, hne z hz⟩)) (fun z hz => hs z (List.mem_append_left _ hz)) H locs ls hP hD hS hl
      · cases h
    · cases h
  · cases h
end
end
section
/-! fields -/
section
variable {p : Program} {l : Launch} {e : Env} {R : Room} {s : State} {m : MethodId} {args : Array Value} {below : List Frame} {meth : Method} {c : Code} {Q : State → Prop}
variable {cc : ByteArray} {own : String} {nL : Nat} {A : Nat → Prop} {D : va_G} {cl : List vw_C} {tys : List (ClassId × FieldType)} {Ts : List Cond} {b0 : Nat → Nat} {ad0 : List Nat} {cT : Nat → ClassId} {n0 : Nat} {v0 : Nat → Int}

def ra_ff (fl : List (Nat × Nat × Nat)) (j : Nat) : Option (Nat × Nat) := match fl with
  | [] => none
  | q :: fl => if q.1 = j then some q.2 else ra_ff fl j
theorem ra_ff_mem : ∀ {fl : List (Nat × Nat × Nat)} {j : Nat} {r : Nat × Nat}, ra_ff fl j = some r → (j, r) ∈ fl
  | [], _, _, h => by simp [ra_ff] at h
  | q :: fl, j, r, h => by
    unfold ra_ff at h
    split at h
    · rename_i hq
      cases h
      exact List.mem_cons.mpr (Or.inl (by rw [← hq]))
    · exact List.mem_cons_of_mem _ (ra_ff_mem h)
def ra_okF (Ts : List Cond) (own : String) (cl : List vw_C) (fl : List (Nat × Nat × Nat)) : Prop := ∀ e ∈ fl, ∃ r : vw_C, cl[e.2.1]? = some r ∧ e.2.2 < r.2.2 ∧ Cond.fieldLink own e.1 (r.2.1 e.2.2).1 (r.2.1 e.2.2).2.1 (r.2.1 e.2.2).2.2.1 ∈ Ts
def ra_okC (Ts : List Cond) (cl : List vw_C) (tyv : Nat → Nat → FieldType) : Prop := ∀ (ci : Nat) (r : vw_C), cl[ci]? = some r → (∀ w ∈ u_ws r.1 r.2.1 r.2.2, w ∈ Ts) ∧ (∀ k, k < r.2.2 → parseFieldDescriptor (r.2.1 k).2.2.1 = some (tyv ci k)) ∧ ∀ a, a < r.2.2 → ∀ b, b < r.2.2 → a ≠ b → (r.2.1 a).2.1 ≠ (r.2.1 b).2.1
def ra_fit (env : ra_N) (ty : FieldType) (a : ra_V) : Bool := match ty with
  | .int => match a with
    | .inl _ => true
    | _ => false
  | .boolean => match a with
    | .inl q => let r := ra_rg env q; ra_leb 0 r.1 && ra_leb r.2 1
    | _ => false
  | .long => match a with
    | .inr (.inr k) => k == 1
    | _ => false
  | .object _ => match a with
    | .inr (.inl _) => true
    | .inr (.inr k) => k == 0 || Nat.ble 2 k
    | _ => false
  | .array _ => match a with
    | .inr (.inl _) => true
    | .inr (.inr k) => k == 0 || Nat.ble 2 k
    | _ => false
  | _ => false
theorem ra_01 {y : Int32} (h1 : 0 ≤ y.toInt) (h2 : y.toInt ≤ 1) : y = 0 ∨ y = 1 := by
  have : y.toInt = 0 ∨ y.toInt = 1 := by omega
  rcases this with h | h
  · exact Or.inl (Int32.toInt_inj.mp (by rw [h]; rfl))
  · exact Or.inr (Int32.toInt_inj.mp (by rw [h]; rfl))
theorem ra_fit_ok {v : Nat → Int} {env : ra_N} {ads : List Nat} (hN : ra_cN v env) {ty : FieldType} {a : ra_V} {x : Value} (hc : ra_cV env.length v ads b0 a x) (h : ra_fit env ty a = true) : narrow ty x = x ∧ fits ty x = true := by
  unfold ra_fit at h
  split at h
  · split at h
    · obtain ⟨_, y, rfl, _⟩ := hc
      exact ⟨rfl, rfl⟩
    · cases h
  · split at h
    · obtain ⟨_, y, rfl, k2⟩ := hc
      have h1 := ra_rg_ok hN k2
      dsimp only at h
      rw [Bool.and_eq_true] at h
      have g1 := ra_leb_le h.1
      have g2 := ra_leb_le h.2
      rcases ra_01 (y := y) (by omega) (by omega) with rfl | rfl <;> exact ⟨by decide, by decide⟩
    · cases h
  · split at h
    · rw [beq_iff_eq] at h
      subst h
      obtain ⟨y, rfl⟩ := ra_longV hc
      exact ⟨rfl, rfl⟩
    · cases h
  · split at h
    · obtain ⟨r, _, rfl⟩ := hc
      exact ⟨rfl, rfl⟩
    · rcases hc with ⟨_, rfl⟩ | ⟨h1, _⟩ | ⟨h1, rfl⟩
      · exact ⟨rfl, rfl⟩
      · subst h1
        cases h
      · exact ⟨rfl, rfl⟩
    · cases h
  · split at h
    · obtain ⟨r, _, rfl⟩ := hc
      exact ⟨rfl, rfl⟩
    · rcases hc with ⟨_, rfl⟩ | ⟨h1, _⟩ | ⟨h1, rfl⟩
      · exact ⟨rfl, rfl⟩
      · subst h1
        cases h
      · exact ⟨rfl, rfl⟩
    · cases h
  · cases h
/-- a place's cell -/
theorem ra_cell {v : Nat → Int} {env : ra_N} {lv : List (Nat × ra_V)} {st : List ra_V} {aw : List ra_C} {ce sl : Nat} {lvv : List (Nat × Value)} {stv : List Value} {ws : va_W} (hg : ra_g b0 ad0 cT v (env, lv, st, aw, ce, sl) lvv stv ws) {i : Nat} {cel : ra_C} (h : aw[i]? = some cel) {x : Value} (hx : ra_cV env.length v (ws.map Prod.fst) b0 (.inr (.inl i)) x) : ∃ q, ws[i]? = some q ∧ x = .ref q.1 ∧ ra_cC env.length v (ws.map Prod.fst) b0 cT cel q.2 := by
  obtain ⟨q, h1, h2⟩ := ra_a2_get hg.2.2.2.1 h
  obtain ⟨r, h3, rfl⟩ := hx
  rw [List.getElem?_map, h1] at h3
  cases h3
  exact ⟨q, h1, rfl, h2⟩
theorem ra_ads_set {ws : va_W} {i : Nat} {q : Nat × va_E} (h : ws[i]? = some q) (e' : va_E) : (ws.set i (q.1, e')).map Prod.fst = ws.map Prod.fst := by
  apply List.ext_getElem?
  intro j
  rw [List.getElem?_map, List.getElem?_map, List.getElem?_set]
  split
  · rename_i hj
    subst hj
    have hl := (List.getElem?_eq_some_iff.mp h).1
    rw [if_pos hl, h]
    rfl
  · rfl
theorem ra_g_set {v : Nat → Int} {env : ra_N} {lv : List (Nat × ra_V)} {st st' : List ra_V} {aw : List ra_C} {ce sl ce' sl' : Nat} {lvv : List (Nat × Value)} {stv stv' : List Value} {ws : va_W} (hg : ra_g b0 ad0 cT v (env, lv, st, aw, ce, sl) lvv stv ws) {i : Nat} {q : Nat × va_E} (hq : ws[i]? = some q) {c' : ra_C} {e' : va_E} (hc : ra_cC env.length v (ws.map Prod.fst) b0 cT c' e') (hs : ra_a2 (ra_cV env.length v (ws.map Prod.fst) b0) st' stv') : ra_g b0 ad0 cT v (env, lv, st', aw.set i c', ce', sl') lvv stv' (ws.set i (q.1, e')) := by
  unfold ra_g ra_pf
  dsimp only
  rw [ra_ads_set hq e']
  exact ⟨hg.1, hg.2.1, hs, ra_a2_set hg.2.2.2.1 i hc, hg.2.2.2.2⟩
def ra_getf (fl : List (Nat × Nat × Nat)) (j n pc : Nat) (a : ra_S) : Option (List (Nat × ra_S)) := match a with
  | (env, lv, st, aw, ce, sl) => ra_gd (n == 3) (match st with
    | .inr (.inl i) :: st => match aw[i]? with
      | some (.inl o) => match ra_ff fl j with
        | some r => ra_gd (r.1 == o.1) (match o.2[r.2]? with
          | some x => some [(pc + 3, (env, lv, x :: st, aw, ce, sl))]
          | none => none)
        | none => none
      | _ => none
    | _ => none)
theorem ra_getf_ok {fl : List (Nat × Nat × Nat)} {tyv : Nat → Nat → FieldType} {j n pc : Nat} {a : ra_S} {out : List (Nat × ra_S)} (h : ra_getf fl j n pc a = some out) (X : ra_X p s m args c cc own nL A D cl tys Ts) (hF : ra_okF Ts own cl fl) (hC : ra_okC Ts cl tyv) (hdg : decode cc pc = .ok (.getfield j, n)) (hs : ∀ x ∈ out, ra_ok p l e R s m args below meth c Q nL A D cl b0 ad0 cT n0 v0 x) : ra_ok p l e R s m args below meth c Q nL A D cl b0 ad0 cT n0 v0 (pc, a) := by
  obtain ⟨env, lv, st, aw, ce, sl⟩ := a
  intro hn v lvv stv ws hg hv
  have hst := hg.2.2.1
  dsimp only at hn hst
  obtain ⟨hx, hb, hml, hown, hts, hKK, hA⟩ := id X
  unfold ra_getf at h
  dsimp only at h
  have hq0 := ra_gd_ok h; clear h; obtain ⟨h1, h⟩ := hq0
  rw [beq_iff_eq] at h1
  subst h1
  split at h
  · split at h
    · rename_i o ho
      split at h
      · rename_i r hr
        have hq1 := ra_gd_ok h; clear h; obtain ⟨h2, h⟩ := hq1
        rw [beq_iff_eq] at h2
        split at h
        · rename_i x hxx
          cases h
          obtain ⟨x0, stv1, rfl, g2, g4⟩ := ra_a2_cons hst
          obtain ⟨q, w1, rfl, w2⟩ := ra_cell hg ho g2
          obtain ⟨fs, e1, e2⟩ := w2
          obtain ⟨y, y1, y2⟩ := ra_a2_get e2 hxx
          obtain ⟨rc, c1, c2, c3⟩ := hF _ (ra_ff_mem hr)
          dsimp only at c1 c2 c3
          obtain ⟨k1, k2, k3⟩ := hC _ _ c1
          intro H locs ls hP hD hS hl
          refine va_get (v := y) (fs := fs) (ci := r.1) (C := rc.1) (T := rc.2.1) (N := rc.2.2) hx hb hts k1 hown hKK hP _ (by rw [w1, h2, ← e1]) c1 r.2 c2 (hts _ c3) (fun _ z => z) y1 hdg ?_
          exact hs _ (List.mem_singleton.mpr rfl) hn v _ _ ws (ra_g_st hg (ra_a2_mk y2 g4)) hv H locs ls hP hD hS hl
        · cases h
      · cases h
    · cases h
  · cases h
def ra_putf (fl : List (Nat × Nat × Nat)) (cl : List vw_C) (tyv : Nat → Nat → FieldType) (ini : Option Nat) (j n pc : Nat) (a : ra_S) : Option (List (Nat × ra_S)) := match a with
  | (env, lv, st, aw, ce, sl) => ra_gd (n == 3) (match st with
    | x :: .inr (.inl i) :: st => match aw[i]? with
      | some (.inl o) => match ra_ff fl j with
        | some r => match cl[r.1]? with
          | some rc => ra_gd (r.1 == o.1 && (Nat.blt r.2 o.2.length && (ra_fit env (tyv r.1 r.2) x && (!(rc.2.1 r.2).2.2.2 || ini == some r.1)))) (some [(pc + 3, (env, lv, st, aw.set i (.inl (o.1, o.2.set r.2 x)), ce, sl))])
          | none => none
        | none => none
      | _ => none
    | _ => none)
theorem ra_putf_ok {fl : List (Nat × Nat × Nat)} {tyv : Nat → Nat → FieldType} {ini : Option Nat} {j n pc : Nat} {a : ra_S} {out : List (Nat × ra_S)} (h : ra_putf fl cl tyv ini j n pc a = some out) (X : ra_X p s m args c cc own nL A D cl tys Ts) (hF : ra_okF Ts own cl fl) (hC : ra_okC Ts cl tyv) (hI : ∀ ci, ini = some ci → meth.name = "<init>" ∧ ∀ (rc : vw_C) (k : Nat), cl[ci]? = some rc → k < rc.2.2 → (rc.2.1 k).1 = own) (hdg : decode cc pc = .ok (.putfield j, n)) (hs : ∀ x ∈ out, ra_ok p l e R s m args below meth c Q nL A D cl b0 ad0 cT n0 v0 x) : ra_ok p l e R s m args below meth c Q nL A D cl b0 ad0 cT n0 v0 (pc, a) := by
  obtain ⟨env, lv, st, aw, ce, sl⟩ := a
  intro hn v lvv stv ws hg hv
  have hst := hg.2.2.1
  have hN := hg.1
  dsimp only at hn hst hN
  obtain ⟨hx, hb, hml, hown, hts, hKK, hA⟩ := id X
  unfold ra_putf at h
  dsimp only at h
  have hq0 := ra_gd_ok h; clear h; obtain ⟨h1, h⟩ := hq0
  rw [beq_iff_eq] at h1
  subst h1
  split at h
  · rename_i xv i st1
    split at h
    · rename_i o ho
      split at h
      · rename_i r hr
        split at h
        · rename_i rc hrc
          have hq1 := ra_gd_ok h; clear h; obtain ⟨h2, h⟩ := hq1
          rw [Bool.and_eq_true, Bool.and_eq_true, Bool.and_eq_true, beq_iff_eq] at h2
          obtain ⟨h2, h3, h4, h5⟩ := h2
          have h3 := Nat.le_of_ble_eq_true h3
          cases h
          obtain ⟨x0, stv1, rfl, g2, g4⟩ := ra_a2_cons hst
          obtain ⟨x1, stv2, rfl, g5, g6⟩ := ra_a2_cons g4
          obtain ⟨q, w1, rfl, w2⟩ := ra_cell hg ho g5
          obtain ⟨fs, e1, e2⟩ := w2
          obtain ⟨rc', c1, c2, c3⟩ := hF _ (ra_ff_mem hr)
          dsimp only at c1 c2 c3
          have : rc' = rc := Option.some.inj (c1.symm.trans hrc)
          subst this
          obtain ⟨k1, k2, k3⟩ := hC _ _ c1
          obtain ⟨f1, f2⟩ := ra_fit_ok hN g2 h4
          have hl2 : r.2 < fs.length := by rw [← ra_a2_len e2]; exact h3
          intro H locs ls hP hD hS hl
          have kk : ∀ (H1 : Heap) (locs1 : List Loc), va_P D cl (ws.set _ (q.1, .inr (r.1, fs.set r.2 x0))) H1 → va_D A (ws.set _ (q.1, .inr (r.1, fs.set r.2 x0))) → va_S A s.heap H1 locs1 → W p l e R s m args below meth c H1 locs1 ce sl Q (F0 m (pc + 3) ls stv2) := fun H1 locs1 hP1 hD1 hS1 => hs _ (List.mem_singleton.mpr rfl) hn v _ _ _ (ra_g_set hg w1 ⟨fs.set r.2 x0, by rw [h2], ra_a2_set e2 r.2 g2⟩ g6) hv H1 locs1 ls hP1 hD1 hS1 hl
          have hw : ws[i]? = some (q.1, .inr (r.1, fs)) := by rw [w1, h2, ← e1]
          cases hfin : (rc'.2.1 r.2).2.2.2 with
          | false => exact va_put (ty := tyv r.1 r.2) (v := x0) (fs := fs) (ci := r.1) (C := rc'.1) (T := rc'.2.1) (N := rc'.2.2) hx hb hts k1 (tyv r.1) k2 k3 hown hKK hP hD hS _ hw c1 r.2 c2 (hts _ c3) (fun _ z => z) hfin (k2 _ c2) f1 f2 hl2 hdg kk
          | true =>
            rw [hfin] at h5
            have h5 : ini = some r.1 := by simpa using h5
            obtain ⟨i1, i2⟩ := hI _ h5
            exact va_putF (ty := tyv r.1 r.2) (v := x0) (fs := fs) (ci := r.1) (C := rc'.1) (T := rc'.2.1) (N := rc'.2.2) hx hb hts k1 (tyv r.1) k2 k3 hown hKK hP hD hS _ hw c1 r.2 c2 (hts _ c3) (fun _ z => z) hfin i1 (i2 _ _ c1 c2) (k2 _ c2) f1 f2 hl2 hdg kk
        · cases h
      · cases h
    · cases h
  · cases h
end
end
section
/-! arrays -/
section
variable {p : Program} {l : Launch} {e : Env} {R : Room} {s : State} {m : MethodId} {args : Array Value} {below : List Frame} {meth : Method} {c : Code} {Q : State → Prop}
variable {cc : ByteArray} {own : String} {nL : Nat} {A : Nat → Prop} {D : va_G} {cl : List vw_C} {tys : List (ClassId × FieldType)} {Ts : List Cond} {b0 : Nat → Nat} {ad0 : List Nat} {cT : Nat → ClassId} {n0 : Nat} {v0 : Nat → Int}
variable {sc : String}

def ra_T (sc : String) (cT : Nat → ClassId) : List (ClassId × FieldType) := [(cT 0, .int), (cT 1, .byte), (cT 2, .boolean), (cT 3, .long), (cT 4, .object sc)]
def ra_ix (env : ra_N) (q : Nat × Int) (n : Nat) : Bool := let r := ra_rg env q; ra_leb 0 r.1 && ra_leb (r.2 + 1) n
theorem ra_clamp (y : Int32) : y.toNatClampNeg = y.toInt.toNat := rfl
theorem ra_ix_ok {v : Nat → Int} {env : ra_N} (hN : ra_cN v env) {q : Nat × Int} {y : Int32} (h : y.toInt = v q.1 + q.2) {n : Nat} (hi : ra_ix env q n = true) : vp_in y n ∧ (y.toNatClampNeg : Int) = y.toInt ∧ y.toNatClampNeg < n ∧ 0 ≤ (ra_rg env q).1 ∧ (ra_rg env q).1 ≤ y.toInt ∧ y.toInt ≤ (ra_rg env q).2 := by
  have h1 := ra_rg_ok hN h
  unfold ra_ix at hi
  dsimp only at hi
  rw [Bool.and_eq_true] at hi
  have g1 := ra_leb_le hi.1
  have g2 := ra_leb_le hi.2
  rw [ra_clamp]
  refine ⟨vp_in_iff.mpr ⟨by omega, by omega⟩, by omega, by omega, g1, h1.1, h1.2⟩
def ra_rgE (env : ra_N) (e : ra_E) : Option (Int × Int) := match e with
  | .inl (.inl q) => some (ra_rg env q)
  | .inl (.inr _) => none
  | .inr r => some r
theorem ra_rgE_ok {v : Nat → Int} {env : ra_N} {ads : List Nat} (hN : ra_cN v env) {e : ra_E} {r : Int × Int} {y : Int32} (h : ra_rgE env e = some r) (hc : ra_cE env.length v ads b0 e (.int y)) : r.1 ≤ y.toInt ∧ y.toInt ≤ r.2 := by
  rcases e with (q | a) | q
  · cases h
    obtain ⟨_, z, hz, k2⟩ := hc
    cases hz
    exact ra_rg_ok hN k2
  · cases h
  · cases h
    obtain ⟨z, hz, k1, k2⟩ := hc
    cases hz
    exact ⟨k1, k2⟩
def ra_min (a b : Int) : Int := if ra_leb a b then a else b
def ra_max (a b : Int) : Int := if ra_leb a b then b else a
theorem ra_min_le (a b : Int) : ra_min a b ≤ a ∧ ra_min a b ≤ b := by
  unfold ra_min
  split
  · rename_i h
    have := ra_leb_le h
    omega
  · rename_i h
    have := ra_leb_lt h
    omega
theorem ra_max_le (a b : Int) : a ≤ ra_max a b ∧ b ≤ ra_max a b := by
  unfold ra_max
  split
  · rename_i h
    have := ra_leb_le h
    omega
  · rename_i h
    have := ra_leb_lt h
    omega
def ra_hul (env : ra_N) : List ra_E → Option (Int × Int)
  | [] => some (1, 0)
  | e :: es => match ra_rgE env e with
    | none => none
    | some a => match ra_hul env es with
      | none => none
      | some b => some (match es with
        | [] => a
        | _ :: _ => (ra_min a.1 b.1, ra_max a.2 b.2))
theorem ra_hul_ok {env : ra_N} : ∀ {es : List ra_E} {r : Int × Int}, ra_hul env es = some r → ∀ e ∈ es, ∃ a, ra_rgE env e = some a ∧ r.1 ≤ a.1 ∧ a.2 ≤ r.2
  | [], _, _, e, h => by simp at h
  | e0 :: es, r, h, e, he => by
    unfold ra_hul at h
    split at h
    · cases h
    · rename_i a ha
      split at h
      · cases h
      · rename_i b hb
        cases h
        cases es with
        | nil =>
          rcases List.mem_cons.mp he with h1 | h1
          · subst h1
            exact ⟨a, ha, Int.le_refl _, Int.le_refl _⟩
          · simp at h1
        | cons e1 es =>
          have m1 := ra_min_le a.1 b.1
          have m2 := ra_max_le a.2 b.2
          rcases List.mem_cons.mp he with h1 | h1
          · subst h1
            exact ⟨a, ha, m1.1, m2.1⟩
          · obtain ⟨c, k1, k2, k3⟩ := ra_hul_ok hb e h1
            exact ⟨c, k1, by show ra_min a.1 b.1 ≤ _; omega, by show _ ≤ ra_max a.2 b.2; omega⟩
def ra_rde (env : ra_N) (es : List ra_E) (q : Nat × Int) : Option (ra_N × ra_V × List ra_E) :=
  ra_gd (ra_ix env q es.length) (let k := ra_nm env q
  if k.1 = 0 then (match es[k.2.toNat]? with
    | some (.inl a) => some (env, a, es)
    | some (.inr r) => some (env ++ [(r.1, r.2)], .inl (env.length, 0), es.set k.2.toNat (.inl (.inl (env.length, 0))))
    | none => none)
  else (let r := ra_rg env q; match ra_hul env ((es.drop r.1.toNat).take (r.2.toNat + 1 - r.1.toNat)) with
    | some b => some (env ++ [(b.1, b.2)], .inl (env.length, 0), es)
    | none => none))
theorem ra_fresh {v : Nat → Int} {env : ra_N} (hN : ra_cN v env) {lo hi : Int} {y : Int32} (h1 : lo ≤ y.toInt) (h2 : y.toInt ≤ hi) : ∃ v' : Nat → Int, (∀ i, i < env.length → v' i = v i) ∧ ra_cN v' (env ++ [(lo, hi)]) ∧ ∀ ads : List Nat, ra_cV (env ++ [(lo, hi)]).length v' ads b0 (.inl (env.length, 0)) (.int y) := by
  obtain ⟨k1, k2, v', k3, k4, k5⟩ := ra_fr_ok hN h1 h2
  exact ⟨v', k3, k4, fun ads => ⟨k2, y, rfl, k5⟩⟩
theorem ra_rde_ok {v : Nat → Int} {env : ra_N} {ads : List Nat} (hN : ra_cN v env) {es : List ra_E} {q : Nat × Int} {y : Int32} (hq : q.1 < env.length) (hy : y.toInt = v q.1 + q.2) {f : Nat → Int32} (hf : ∀ (j : Nat) (x : ra_E), es[j]? = some x → ra_cE env.length v ads b0 x (.int (f j))) {out : ra_N × ra_V × List ra_E} (h : ra_rde env es q = some out) :
    vp_in y es.length ∧ env.length ≤ out.1.length ∧ ∃ v' : Nat → Int, (∀ i, i < env.length → v' i = v i) ∧ ra_cN v' out.1 ∧ ra_cV out.1.length v' ads b0 out.2.1 (.int (f y.toNatClampNeg)) ∧ out.2.2.length = es.length ∧ ∀ (j : Nat) (x : ra_E), out.2.2[j]? = some x → ra_cE out.1.length v' ads b0 x (.int (f j)) := by
  unfold ra_rde at h
  obtain ⟨h1, h⟩ := ra_gd_ok h
  obtain ⟨i1, i2, i3, i4, i5, i6⟩ := ra_ix_ok hN hy h1
  refine ⟨i1, ?_⟩
  have hk := ra_nm_ok hN hq hy
  dsimp only at h
  split at h
  · rename_i hk0
    have e0 : y.toInt = (ra_nm env q).2 := by rw [hk.2, hk0, hN.2.1]; omega
    have e1 : (ra_nm env q).2.toNat = y.toNatClampNeg := by omega
    rw [e1] at h
    split at h
    · rename_i a ha
      cases h
      exact ⟨Nat.le_refl _, v, fun _ _ => rfl, hN, hf _ _ ha, rfl, hf⟩
    · rename_i r hr
      cases h
      obtain ⟨z, hz, k1, k2⟩ := hf _ _ hr
      cases hz
      obtain ⟨v', n1, n2, n3⟩ := ra_fresh (b0 := b0) hN k1 k2
      refine ⟨by simp, v', n1, n2, n3 _, by simp, fun j x hx => ?_⟩
      rw [List.getElem?_set] at hx
      split at hx
      · rename_i hj
        subst hj
        try rw [if_pos i3] at hx
        cases hx
        exact n3 ads
      · exact ra_cE_ext (by simp) n1 (fun _ _ z => z) (hf j x hx)
    · cases h
  · split at h
    · rename_i b hb
      cases h
      have hl : y.toNatClampNeg < es.length := i3
      have hg : es[y.toNatClampNeg]? = some es[y.toNatClampNeg] := List.getElem?_eq_getElem hl
      have hm : es[y.toNatClampNeg] ∈ (es.drop (ra_rg env q).1.toNat).take ((ra_rg env q).2.toNat + 1 - (ra_rg env q).1.toNat) := by
        apply List.mem_of_getElem? (i := y.toNatClampNeg - (ra_rg env q).1.toNat)
        rw [List.getElem?_take, if_pos (by omega), List.getElem?_drop, show (ra_rg env q).1.toNat + (y.toNatClampNeg - (ra_rg env q).1.toNat) = y.toNatClampNeg by omega]
        exact hg
      obtain ⟨a, a1, a2, a3⟩ := ra_hul_ok hb _ hm
      have hz := ra_rgE_ok hN a1 (hf _ _ hg)
      obtain ⟨v', n1, n2, n3⟩ := ra_fresh (b0 := b0) (lo := b.1) (hi := b.2) (y := f y.toNatClampNeg) hN (by omega) (by omega)
      exact ⟨by simp, v', n1, n2, n3 _, rfl, fun j x hx => ra_cE_ext (by simp) n1 (fun _ _ z => z) (hf j x hx)⟩
    · cases h
/-- a store at one of some places -/
def ra_wk (env : ra_N) (lo hi : Int) : Nat → Nat → List ra_E → Option (List ra_E)
  | _, _, [] => some []
  | 0, 0, es => some es
  | 0, c + 1, e :: es => match ra_rgE env e with
    | none => none
    | some r => match ra_wk env lo hi 0 c es with
      | none => none
      | some es' => some (.inr (ra_min r.1 lo, ra_max r.2 hi) :: es')
  | a + 1, c, e :: es => match ra_wk env lo hi a c es with
    | none => none
    | some es' => some (e :: es')
theorem ra_wk_ok {v : Nat → Int} {env : ra_N} {ads : List Nat} (hN : ra_cN v env) {lo hi : Int} {z : Int32} (h1 : lo ≤ z.toInt) (h2 : z.toInt ≤ hi) : ∀ {es es' : List ra_E} {a c : Nat} {f : Nat → Int32}, ra_wk env lo hi a c es = some es' → (∀ (j : Nat) (x : ra_E), es[j]? = some x → ra_cE env.length v ads b0 x (.int (f j))) → es'.length = es.length ∧ ∀ (j : Nat) (x : ra_E), es'[j]? = some x → ra_cE env.length v ads b0 x (.int (f j)) ∧ (a ≤ j → j < a + c → ra_cE env.length v ads b0 x (.int z))
  | [], es', a, c, f, h, hf => by
    simp [ra_wk] at h
    subst h
    exact ⟨rfl, fun j x hx => by simp at hx⟩
  | e :: es, es', 0, 0, f, h, hf => by
    simp [ra_wk] at h
    subst h
    exact ⟨rfl, fun j x hx => ⟨hf j x hx, fun _ q => by omega⟩⟩
  | e :: es, es', 0, c + 1, f, h, hf => by
    unfold ra_wk at h
    split at h
    · cases h
    · rename_i r hr
      split at h
      · cases h
      · rename_i es1 he
        cases h
        have ih := ra_wk_ok hN h1 h2 (f := fun j => f (j + 1)) he (fun j x hx => hf (j + 1) x (by simpa using hx))
        refine ⟨by simp [ih.1], fun j x hx => ?_⟩
        cases j with
        | zero =>
          simp at hx
          subst hx
          have h3 := ra_rgE_ok hN hr (hf 0 e (by simp))
          have m1 := ra_min_le r.1 lo
          have m2 := ra_max_le r.2 hi
          exact ⟨⟨f 0, rfl, by show ra_min r.1 lo ≤ _; omega, by show _ ≤ ra_max r.2 hi; omega⟩, fun _ _ => ⟨z, rfl, by show ra_min r.1 lo ≤ _; omega, by show _ ≤ ra_max r.2 hi; omega⟩⟩
        | succ j =>
          simp at hx
          have := ih.2 j x hx
          exact ⟨this.1, fun _ q => this.2 (by omega) (by omega)⟩
  | e :: es, es', a + 1, c, f, h, hf => by
    unfold ra_wk at h
    split at h
    · cases h
    · rename_i es1 he
      cases h
      have ih := ra_wk_ok hN h1 h2 (f := fun j => f (j + 1)) he (fun j x hx => hf (j + 1) x (by simpa using hx))
      refine ⟨by simp [ih.1], fun j x hx => ?_⟩
      cases j with
      | zero =>
        simp at hx
        subst hx
        exact ⟨hf 0 e (by simp), fun q _ => by omega⟩
      | succ j =>
        simp at hx
        have := ih.2 j x hx
        exact ⟨this.1, fun q1 q2 => this.2 (by omega) (by omega)⟩
def ra_wre (env : ra_N) (es : List ra_E) (q qx : Nat × Int) : Option (List ra_E) :=
  ra_gd (ra_ix env q es.length) (let k := ra_nm env q
  if k.1 = 0 then some (es.set k.2.toNat (.inl (.inl qx)))
  else (let r := ra_rg env q; let b := ra_rg env qx; ra_wk env b.1 b.2 r.1.toNat (r.2.toNat + 1 - r.1.toNat) es))
theorem ra_wre_ok {v : Nat → Int} {env : ra_N} {ads : List Nat} (hN : ra_cN v env) {es es' : List ra_E} {q qx : Nat × Int} {y z : Int32} (hq : q.1 < env.length) (hy : y.toInt = v q.1 + q.2) (hqx : qx.1 < env.length) (hz : z.toInt = v qx.1 + qx.2) {f : Nat → Int32} (hf : ∀ (j : Nat) (x : ra_E), es[j]? = some x → ra_cE env.length v ads b0 x (.int (f j))) (h : ra_wre env es q qx = some es') :
    vp_in y es.length ∧ es'.length = es.length ∧ ∀ (j : Nat) (x : ra_E), es'[j]? = some x → ra_cE env.length v ads b0 x (.int (upd f y.toNatClampNeg z j)) := by
  unfold ra_wre at h
  obtain ⟨h1, h⟩ := ra_gd_ok h
  obtain ⟨i1, i2, i3, i4, i5, i6⟩ := ra_ix_ok hN hy h1
  refine ⟨i1, ?_⟩
  have hk := ra_nm_ok hN hq hy
  dsimp only at h
  split at h
  · rename_i hk0
    have e0 : y.toInt = (ra_nm env q).2 := by rw [hk.2, hk0, hN.2.1]; omega
    have e1 : (ra_nm env q).2.toNat = y.toNatClampNeg := by omega
    rw [e1] at h
    cases h
    refine ⟨by simp, fun j x hx => ?_⟩
    rw [List.getElem?_set] at hx
    unfold upd
    split at hx
    · rename_i hj
      subst hj
      try rw [if_pos i3] at hx
      cases hx
      rw [if_pos rfl]
      exact ⟨hqx, z, rfl, hz⟩
    · rename_i hj
      rw [if_neg (fun q => hj q.symm)]
      exact hf j x hx
  · have hb := ra_rg_ok hN hz
    obtain ⟨w1, w2⟩ := ra_wk_ok hN hb.1 hb.2 h hf
    refine ⟨w1, fun j x hx => ?_⟩
    have := w2 j x hx
    unfold upd
    split
    · rename_i hj
      subst hj
      exact this.2 (by omega) (by omega)
    · exact this.1
end
end
section
/-! array instructions -/
section
variable {p : Program} {l : Launch} {e : Env} {R : Room} {s : State} {m : MethodId} {args : Array Value} {below : List Frame} {meth : Method} {c : Code} {Q : State → Prop}
variable {cc : ByteArray} {own : String} {nL : Nat} {A : Nat → Prop} {D : va_G} {cl : List vw_C} {tys : List (ClassId × FieldType)} {Ts : List Cond} {b0 : Nat → Nat} {ad0 : List Nat} {cT : Nat → ClassId} {n0 : Nat} {v0 : Nat → Int}
variable {sc : String}

/-- the law's own script: its length, its ints, by symbols 1, 2 .. -/
def ra_scr (s : State) (A : Nat → Prop) (b0 : Nat → Nat) (n0 : Nat) (v0 : Nat → Int) : Prop := ∃ (L : Nat) (xs : Nat → Int32), va_X (b0 2) L xs s s.heap ∧ b0 2 < s.heap.size ∧ ¬ A (b0 2) ∧ L < 2147483648 ∧ 8 ≤ n0 ∧ v0 1 = L ∧ ∀ j, j < L → j < 6 → v0 (2 + j) = (xs j).toInt
theorem ra_nI {L : Nat} (h : L < 2147483648) : (Int32.ofNat L).toInt = (L : Int) := nI_toInt (n := L) h
def ra_ty (t : Nat) : FieldType := match t with
  | 0 => .int
  | 1 => .byte
  | _ => .boolean
def ra_alen (hs : Bool) (n pc : Nat) (a : ra_S) : Option (List (Nat × ra_S)) := match a with
  | (env, lv, st, aw, ce, sl) => ra_gd (n == 1) (match st with
    | .inr (.inl i) :: st => match aw[i]? with
      | some (.inr (.inl o)) => ra_gd (Nat.blt o.2.length 2147483648) (some [(pc + 1, (env, lv, .inl (0, o.2.length) :: st, aw, ce, sl))])
      | some (.inr (.inr o)) => ra_gd (Nat.blt o.2.1 2147483648) (some [(pc + 1, (env, lv, .inl (0, o.2.1) :: st, aw, ce, sl))])
      | _ => none
    | .inr (.inr 2) :: st => ra_gd (hs && Nat.blt 1 env.length) (some [(pc + 1, (env, lv, .inl (1, 0) :: st, aw, ce, sl))])
    | _ => none)
theorem ra_tyT {t : Nat} (h : t < 3) : (ra_T sc cT)[t]? = some (cT t, ra_ty t) := by
  rcases (show t = 0 ∨ t = 1 ∨ t = 2 by omega) with rfl | rfl | rfl <;> rfl
theorem ra_alen_ok {hs0 : Bool} {n pc : Nat} {a : ra_S} {out : List (Nat × ra_S)} (h : ra_alen hs0 n pc a = some out) (X : ra_X p s m args c cc own nL A D cl (ra_T sc cT) Ts) (hsc : hs0 = true → ra_scr s A b0 n0 v0) (hdg : decode cc pc = .ok (.arraylength, n)) (hs : ∀ x ∈ out, ra_ok p l e R s m args below meth c Q nL A D cl b0 ad0 cT n0 v0 x) : ra_ok p l e R s m args below meth c Q nL A D cl b0 ad0 cT n0 v0 (pc, a) := by
  obtain ⟨env, lv, st, aw, ce, sl⟩ := a
  intro hn v lvv stv ws hg hv
  have hst := hg.2.2.1
  have hN := hg.1
  dsimp only at hn hst hN
  obtain ⟨hx, hb, hml, hown, hts, hKK, hA⟩ := id X
  unfold ra_alen at h
  dsimp only at h
  have hq0 := ra_gd_ok h; clear h; obtain ⟨h1, h⟩ := hq0
  rw [beq_iff_eq] at h1
  subst h1
  split at h
  · split at h
    · rename_i o ho
      have hq1 := ra_gd_ok h; clear h; obtain ⟨h2, h⟩ := hq1
      have h2 := Nat.le_of_ble_eq_true h2
      cases h
      obtain ⟨x0, stv1, rfl, g2, g4⟩ := ra_a2_cons hst
      obtain ⟨q, w1, rfl, w2⟩ := ra_cell hg ho g2
      have kk := hs _ (List.mem_singleton.mpr rfl) hn v _ (.int (Int32.ofNat o.2.length) :: stv1) ws (ra_g_st hg (ra_a2_mk (ra_cV_const hN (ra_nI h2)) g4)) hv
      intro H locs ls hP hD hS hl
      rcases w2 with ⟨h0, f, e1, e2⟩ | ⟨h0, f, e1, e2⟩
      · exact va_alen hx hb hKK hP _ o.1 (by rw [w1, ← e1]) (ra_tyT h0) rfl hdg (kk H locs ls hP hD hS hl)
      · exact va_alen hx hb hKK hP _ 4 (by rw [w1, ← e1]) rfl rfl hdg (kk H locs ls hP hD hS hl)
    · rename_i o ho
      have hq1 := ra_gd_ok h; clear h; obtain ⟨h2, h⟩ := hq1
      have h2 := Nat.le_of_ble_eq_true h2
      cases h
      obtain ⟨x0, stv1, rfl, g2, g4⟩ := ra_a2_cons hst
      obtain ⟨q, w1, rfl, w2⟩ := ra_cell hg ho g2
      have kk := hs _ (List.mem_singleton.mpr rfl) hn v _ (.int (Int32.ofNat o.2.1) :: stv1) ws (ra_g_st hg (ra_a2_mk (ra_cV_const hN (ra_nI h2)) g4)) hv
      intro H locs ls hP hD hS hl
      rcases w2 with ⟨h0, f, e1, e2⟩ | ⟨h0, f, e1⟩
      · exact va_alen hx hb hKK hP _ o.1 (by rw [w1, ← e1]) (ra_tyT h0) rfl hdg (kk H locs ls hP hD hS hl)
      · exact va_alen hx hb hKK hP _ 3 (by rw [w1, ← e1]) rfl rfl hdg (kk H locs ls hP hD hS hl)
    · cases h
  · have hq1 := ra_gd_ok h; clear h; obtain ⟨h2, h⟩ := hq1
    rw [Bool.and_eq_true] at h2
    cases h
    obtain ⟨x0, stv1, rfl, g2, g4⟩ := ra_a2_cons hst
    have e0 := ra_scrV (Nat.le_refl 2) g2
    subst e0
    obtain ⟨L, xs, k1, k2, k3, k4, k5, k6, -⟩ := hsc h2.1
    intro H locs ls hP hD hS hl
    refine va_slen hx hb k1 k2 k3 hS hdg ?_
    exact hs _ (List.mem_singleton.mpr rfl) hn v _ _ ws (ra_g_st hg (ra_a2_mk ⟨Nat.le_of_ble_eq_true h2.2, _, rfl, by rw [ra_nI k4, hv 1 (by omega), k6]; dsimp only; omega⟩ g4)) hv H locs ls hP hD hS hl
  · cases h
/-- 0: ints; 1: bytes, booleans -/
def ra_ald (hs : Bool) (b n pc : Nat) (a : ra_S) : Option (List (Nat × ra_S)) := match a with
  | (env, lv, st, aw, ce, sl) => ra_gd (n == 1) (match st with
    | .inl q :: .inr (.inl i) :: st => match aw[i]? with
      | some (.inr (.inl o)) => ra_gd (Nat.blt o.1 3 && (b == 0) == (o.1 == 0)) (match ra_rde env o.2 q with
        | some r => some [(pc + 1, (r.1, lv, r.2.1 :: st, aw.set i (.inr (.inl (o.1, r.2.2))), ce, sl))]
        | none => none)
      | some (.inr (.inr o)) => ra_gd (Nat.blt o.1 3 && ((b == 0) == (o.1 == 0) && ra_ix env q o.2.1)) (some [(pc + 1, (env ++ [(o.2.2.1, o.2.2.2)], lv, .inl (env.length, 0) :: st, aw, ce, sl))])
      | _ => none
    | .inl q :: .inr (.inr 2) :: st => let k := ra_nm env q; ra_gd (hs && (b == 0 && (k.1 == 0 && (ra_leb 0 k.2 && (Nat.blt k.2.toNat 6 && ra_leb (k.2 + 1) (ra_rg env (1, 0)).1))))) (some [(pc + 1, (env, lv, .inl (2 + k.2.toNat, 0) :: st, aw, ce, sl))])
    | _ => none)
theorem ra_aldW (X : ra_X p s m args c cc own nL A D cl (ra_T sc cT) Ts) {b t pc : Nat} (ht : t < 3) (hbt : ((b == 0) == (t == 0)) = true) (hdg : decode cc pc = .ok (if b = 0 then .iaload else .baload, 1)) {ws : va_W} {i : Nat} {q : Nat × va_E} {n : Nat} {f : Nat → Int32} (hw : ws[i]? = some q) (he : q.2 = .inl (cT t, n, .inl f)) {y : Int32} (hin : vp_in y n) {lv : List (Nat × Value)} {st : List Value} {ce sl : Nat} (k : ra_W p l e R s m args below meth c Q nL A D cl (pc + 1) lv (.int (f y.toNatClampNeg) :: st) ws ce sl) : ra_W p l e R s m args below meth c Q nL A D cl pc lv (.int y :: .ref q.1 :: st) ws ce sl := by
  intro H locs ls hP hD hS hl
  have k := k H locs ls hP hD hS hl
  obtain ⟨hx, hb, -, -, -, hKK, -⟩ := X
  have hw' : ws[i]? = some (q.1, .inl (cT t, n, .inl f)) := by rw [hw, ← he]
  rcases (show t = 0 ∨ t = 1 ∨ t = 2 by omega) with rfl | rfl | rfl
  · have : b = 0 := by simpa using hbt
    subst this
    exact va_iald hx hb hKK hP i 0 hw' rfl hin hdg k
  · have : b ≠ 0 := by simpa using hbt
    rw [if_neg this] at hdg
    exact va_bald hx hb hKK hP i 1 hw' rfl hin hdg k
  · have : b ≠ 0 := by simpa using hbt
    rw [if_neg this] at hdg
    exact va_zald hx hb hKK hP i 2 hw' rfl hin hdg k
theorem ra_setself {α : Type} {l : List α} {i : Nat} {a : α} (h : l[i]? = some a) : l.set i a = l := by
  apply List.ext_getElem?
  intro j
  rw [List.getElem?_set]
  split
  · rename_i hj
    subst hj
    rw [h]
    try rw [if_pos (List.getElem?_eq_some_iff.mp h).1]
  · rfl
theorem ra_ald_ok {hs0 : Bool} {b n pc : Nat} {a : ra_S} {out : List (Nat × ra_S)} (h : ra_ald hs0 b n pc a = some out) (X : ra_X p s m args c cc own nL A D cl (ra_T sc cT) Ts) (hsc : hs0 = true → ra_scr s A b0 n0 v0) (hdg : decode cc pc = .ok (if b = 0 then .iaload else .baload, n)) (hs : ∀ x ∈ out, ra_ok p l e R s m args below meth c Q nL A D cl b0 ad0 cT n0 v0 x) : ra_ok p l e R s m args below meth c Q nL A D cl b0 ad0 cT n0 v0 (pc, a) := by
  obtain ⟨env, lv, st, aw, ce, sl⟩ := a
  intro hn v lvv stv ws hg hv
  have hst := hg.2.2.1
  have hN := hg.1
  dsimp only at hn hst hN
  obtain ⟨hx, hb, hml, hown, hts, hKK, hA⟩ := id X
  unfold ra_ald at h
  dsimp only at h
  have hq0 := ra_gd_ok h; clear h; obtain ⟨h1, h⟩ := hq0
  rw [beq_iff_eq] at h1
  subst h1
  split at h
  · split at h
    · rename_i o ho
      have hq1 := ra_gd_ok h; clear h; obtain ⟨h2, h⟩ := hq1
      rw [Bool.and_eq_true] at h2
      have ht := Nat.le_of_ble_eq_true h2.1
      split at h
      · rename_i r hr
        cases h
        obtain ⟨x0, stv1, rfl, g2, g4⟩ := ra_a2_cons hst
        obtain ⟨x1, stv2, rfl, g5, g6⟩ := ra_a2_cons g4
        obtain ⟨k1, y, rfl, k2⟩ := g2
        obtain ⟨q, w1, rfl, w2⟩ := ra_cell hg ho g5
        rcases w2 with ⟨h0, f, e1, e2⟩ | ⟨h0, -⟩
        · obtain ⟨r1, r2, v', r3, r4, r5, r6, r7⟩ := ra_rde_ok hN k1 k2 e2 hr
          refine ra_aldW X ht h2.2 hdg w1 e1 r1 ?_
          have hg1 := ra_g_ext (ra_g_st (st' := _) (stv' := stv2) (ce' := ce) (sl' := sl) hg g6) r2 r3 r4
          have hg2 := ra_g_set (st' := r.2.1 :: _) (stv' := .int (f y.toNatClampNeg) :: stv2) (ce' := ce) (sl' := sl) hg1 w1 (c' := .inr (.inl (o.1, r.2.2))) (e' := q.2) (Or.inl ⟨h0, f, by rw [e1, r6], r7⟩) (ra_a2_mk r5 hg1.2.2.1)
          rw [ra_setself w1] at hg2
          exact hs _ (List.mem_singleton.mpr rfl) (by show n0 ≤ r.1.length; omega) v' _ _ ws hg2 (fun i hi => by rw [r3 i (by omega)]; exact hv i hi)
        · omega
      · cases h
    · rename_i o ho
      have hq1 := ra_gd_ok h; clear h; obtain ⟨h2, h⟩ := hq1
      rw [Bool.and_eq_true, Bool.and_eq_true] at h2
      have ht := Nat.le_of_ble_eq_true h2.1
      cases h
      obtain ⟨x0, stv1, rfl, g2, g4⟩ := ra_a2_cons hst
      obtain ⟨x1, stv2, rfl, g5, g6⟩ := ra_a2_cons g4
      obtain ⟨k1, y, rfl, k2⟩ := g2
      obtain ⟨q, w1, rfl, w2⟩ := ra_cell hg ho g5
      obtain ⟨i1, i2, i3, -⟩ := ra_ix_ok hN k2 h2.2.2
      rcases w2 with ⟨h0, f, e1, e2⟩ | ⟨h0, -⟩
      · refine ra_aldW X ht h2.2.1 hdg w1 e1 i1 ?_
        have hz := e2 _ i3
        obtain ⟨v', n1, n2, n3⟩ := ra_fresh (b0 := b0) hN hz.1 hz.2
        have hg1 := ra_g_ext (ra_g_st (st' := _) (stv' := stv2) (ce' := ce) (sl' := sl) hg g6) (env' := env ++ [(o.2.2.1, o.2.2.2)]) (by simp) n1 n2
        exact hs _ (List.mem_singleton.mpr rfl) (by show n0 ≤ (env ++ [(o.2.2.1, o.2.2.2)]).length; simp; omega) v' _ _ ws (ra_g_st hg1 (ra_a2_mk (n3 _) hg1.2.2.1)) (fun i hi => by rw [n1 i (by omega)]; exact hv i hi)
      · omega
    · cases h
  · rename_i q0 st1
    have hq1 := ra_gd_ok h; clear h; obtain ⟨h2, h⟩ := hq1
    rw [Bool.and_eq_true, Bool.and_eq_true, Bool.and_eq_true, Bool.and_eq_true, Bool.and_eq_true] at h2
    obtain ⟨h2, h3, h4, h5, h6, h7⟩ := h2
    rw [beq_iff_eq] at h3 h4
    have h5 := ra_leb_le h5
    have h6 := Nat.le_of_ble_eq_true h6
    have h7 := ra_leb_le h7
    cases h
    subst h3
    obtain ⟨x0, stv1, rfl, g2, g4⟩ := ra_a2_cons hst
    obtain ⟨x1, stv2, rfl, g5, g6⟩ := ra_a2_cons g4
    obtain ⟨k1, y, rfl, k2⟩ := g2
    have e0 := ra_scrV (Nat.le_refl 2) g5
    subst e0
    have hk := ra_nm_ok hN k1 k2
    obtain ⟨L, xs, m1, m2, m3, m4, m5, m6, m7⟩ := hsc h2
    rw [h4, hN.2.1] at hk
    have hr := ra_rg_ok (q := (1, 0)) (y := Int32.ofNat L) hN (by rw [ra_nI m4, hv 1 (by omega), m6]; dsimp only; omega)
    rw [ra_nI m4] at hr
    have hc : y.toNatClampNeg = (ra_nm env q0).2.toNat := by rw [ra_clamp]; omega
    intro H locs ls hP hD hS hl
    refine va_sld hx hb m1 m2 m3 hS (vp_in_iff.mpr ⟨by omega, by omega⟩) hdg ?_
    refine hs _ (List.mem_singleton.mpr rfl) hn v _ _ ws (ra_g_st hg (ra_a2_mk ⟨by dsimp only; omega, _, rfl, ?_⟩ g6)) hv H locs ls hP hD hS hl
    rw [hc, hv _ (by dsimp only; omega), m7 _ (by omega) (by omega)]
    dsimp only
    omega
  · cases h
end
end
section
/-! stores into arrays, arrays of longs and of cells -/
section
variable {p : Program} {l : Launch} {e : Env} {R : Room} {s : State} {m : MethodId} {args : Array Value} {below : List Frame} {meth : Method} {c : Code} {Q : State → Prop}
variable {cc : ByteArray} {own : String} {nL : Nat} {A : Nat → Prop} {D : va_G} {cl : List vw_C} {tys : List (ClassId × FieldType)} {Ts : List Cond} {b0 : Nat → Nat} {ad0 : List Nat} {cT : Nat → ClassId} {n0 : Nat} {v0 : Nat → Int}
variable {sc : String}

def ra_nar (env : ra_N) (t : Nat) (q : Nat × Int) : Bool := match t with
  | 0 => true
  | 1 => let r := ra_rg env q; ra_leb (-128) r.1 && ra_leb r.2 127
  | 2 => let r := ra_rg env q; ra_leb 0 r.1 && ra_leb r.2 1
  | _ => false
theorem ra_i8 {y : Int32} (h1 : -128 ≤ y.toInt) (h2 : y.toInt ≤ 127) : y.toInt8.toInt32 = y := by
  apply Int32.toInt_inj.mp
  rw [Int8.toInt_toInt32]
  have : y.toInt8 = Int8.ofInt y.toInt := by
    rw [← Int8.toInt_inj, Int8.toInt_ofInt, Int32.toInt_toInt8]
  rw [this, Int8.toInt_ofInt, Int.bmod_def]
  have e8 : ((Int8.size : Nat) : Int) = 256 := rfl
  rw [e8]
  split <;> omega
theorem ra_nar_ok {v : Nat → Int} {env : ra_N} (hN : ra_cN v env) {t : Nat} {q : Nat × Int} {y : Int32} (h : y.toInt = v q.1 + q.2) (hn : ra_nar env t q = true) : vp_nar (ra_ty t) y = y := by
  have h1 := ra_rg_ok hN h
  unfold ra_nar at hn
  split at hn
  · rfl
  · dsimp only at hn
    rw [Bool.and_eq_true] at hn
    have g1 := ra_leb_le hn.1
    have g2 := ra_leb_le hn.2
    show vp_nar .byte y = y
    rw [vp_nar_byte]
    exact ra_i8 (by omega) (by omega)
  · dsimp only at hn
    rw [Bool.and_eq_true] at hn
    have g1 := ra_leb_le hn.1
    have g2 := ra_leb_le hn.2
    rcases ra_01 (y := y) (by omega) (by omega) with rfl | rfl <;> decide
  · cases hn
theorem ra_astW (X : ra_X p s m args c cc own nL A D cl (ra_T sc cT) Ts) {b t pc : Nat} (ht : t < 3) (hbt : ((b == 0) == (t == 0)) = true) (hdg : decode cc pc = .ok (if b = 0 then .iastore else .bastore, 1)) {ws : va_W} {i : Nat} {q : Nat × va_E} {n : Nat} {f : Nat → Int32} (hw : ws[i]? = some q) (he : q.2 = .inl (cT t, n, .inl f)) {y z : Int32} (hz : vp_nar (ra_ty t) z = z) (hin : vp_in y n) {lv : List (Nat × Value)} {st : List Value} {ce sl : Nat} (k : ra_W p l e R s m args below meth c Q nL A D cl (pc + 1) lv st (ws.set i (q.1, .inl (cT t, n, .inl (upd f y.toNatClampNeg z)))) ce sl) : ra_W p l e R s m args below meth c Q nL A D cl pc lv (.int z :: .int y :: .ref q.1 :: st) ws ce sl := by
  intro H locs ls hP hD hS hl
  have k := fun H1 locs1 hP1 hD1 hS1 => k H1 locs1 ls hP1 hD1 hS1 hl
  obtain ⟨hx, hb, -, -, -, hKK, -⟩ := X
  have hw' : ws[i]? = some (q.1, .inl (cT t, n, .inl f)) := by rw [hw, ← he]
  rcases (show t = 0 ∨ t = 1 ∨ t = 2 by omega) with rfl | rfl | rfl
  · have : b = 0 := by simpa using hbt
    subst this
    exact va_iast hx hb hKK hP hD hS i 0 hw' rfl hin hdg k
  · have : b ≠ 0 := by simpa using hbt
    rw [if_neg this] at hdg
    exact va_bast hx hb hKK hP hD hS i 1 hw' rfl hin hdg (by rw [show vp_nar .byte z = z from hz]; exact k)
  · have : b ≠ 0 := by simpa using hbt
    rw [if_neg this] at hdg
    exact va_zast hx hb hKK hP hD hS i 2 hw' rfl hin hdg (by rw [show vp_nar .boolean z = z from hz]; exact k)
def ra_ast (b n pc : Nat) (a : ra_S) : Option (List (Nat × ra_S)) := match a with
  | (env, lv, st, aw, ce, sl) => ra_gd (n == 1) (match st with
    | .inl x :: .inl q :: .inr (.inl i) :: st => match aw[i]? with
      | some (.inr (.inl o)) => ra_gd (Nat.blt o.1 3 && ((b == 0) == (o.1 == 0) && ra_nar env o.1 x)) (match ra_wre env o.2 q x with
        | some es => some [(pc + 1, (env, lv, st, aw.set i (.inr (.inl (o.1, es))), ce, sl))]
        | none => none)
      | some (.inr (.inr o)) => ra_gd (Nat.blt o.1 3 && ((b == 0) == (o.1 == 0) && (ra_nar env o.1 x && ra_ix env q o.2.1))) (let r := ra_rg env x; some [(pc + 1, (env, lv, st, aw.set i (.inr (.inr (o.1, o.2.1, ra_min o.2.2.1 r.1, ra_max o.2.2.2 r.2))), ce, sl))])
      | _ => none
    | _ => none)
theorem ra_ast_ok {b n pc : Nat} {a : ra_S} {out : List (Nat × ra_S)} (h : ra_ast b n pc a = some out) (X : ra_X p s m args c cc own nL A D cl (ra_T sc cT) Ts) (hdg : decode cc pc = .ok (if b = 0 then .iastore else .bastore, n)) (hs : ∀ x ∈ out, ra_ok p l e R s m args below meth c Q nL A D cl b0 ad0 cT n0 v0 x) : ra_ok p l e R s m args below meth c Q nL A D cl b0 ad0 cT n0 v0 (pc, a) := by
  obtain ⟨env, lv, st, aw, ce, sl⟩ := a
  intro hn v lvv stv ws hg hv
  have hst := hg.2.2.1
  have hN := hg.1
  dsimp only at hn hst hN
  obtain ⟨hx, hb, hml, hown, hts, hKK, hA⟩ := id X
  unfold ra_ast at h
  dsimp only at h
  have hq0 := ra_gd_ok h; clear h; obtain ⟨h1, h⟩ := hq0
  rw [beq_iff_eq] at h1
  subst h1
  split at h
  · split at h
    · rename_i o ho
      have hq1 := ra_gd_ok h; clear h; obtain ⟨h2, h⟩ := hq1
      rw [Bool.and_eq_true, Bool.and_eq_true] at h2
      have ht := Nat.le_of_ble_eq_true h2.1
      split at h
      · rename_i es hes
        cases h
        obtain ⟨x0, stv1, rfl, g2, g4⟩ := ra_a2_cons hst
        obtain ⟨x1, stv2, rfl, g5, g6⟩ := ra_a2_cons g4
        obtain ⟨x2, stv3, rfl, g7, g8⟩ := ra_a2_cons g6
        obtain ⟨k1, z, rfl, k2⟩ := g2
        obtain ⟨k3, y, rfl, k4⟩ := g5
        obtain ⟨q, w1, rfl, w2⟩ := ra_cell hg ho g7
        rcases w2 with ⟨h0, f, e1, e2⟩ | ⟨h0, -⟩
        · obtain ⟨r1, r2, r3⟩ := ra_wre_ok hN k3 k4 k1 k2 e2 hes
          refine ra_astW X ht h2.2.1 hdg w1 e1 (ra_nar_ok hN k2 h2.2.2) r1 ?_
          exact hs _ (List.mem_singleton.mpr rfl) hn v _ _ _ (ra_g_set hg w1 (Or.inl ⟨h0, _, by rw [r2], r3⟩) g8) hv
        · omega
      · cases h
    · rename_i o ho
      have hq1 := ra_gd_ok h; clear h; obtain ⟨h2, h⟩ := hq1
      rw [Bool.and_eq_true, Bool.and_eq_true, Bool.and_eq_true] at h2
      have ht := Nat.le_of_ble_eq_true h2.1
      cases h
      obtain ⟨x0, stv1, rfl, g2, g4⟩ := ra_a2_cons hst
      obtain ⟨x1, stv2, rfl, g5, g6⟩ := ra_a2_cons g4
      obtain ⟨x2, stv3, rfl, g7, g8⟩ := ra_a2_cons g6
      obtain ⟨k1, z, rfl, k2⟩ := g2
      obtain ⟨k3, y, rfl, k4⟩ := g5
      obtain ⟨q, w1, rfl, w2⟩ := ra_cell hg ho g7
      obtain ⟨i1, i2, i3, -⟩ := ra_ix_ok hN k4 h2.2.2.2
      have hz := ra_rg_ok hN k2
      rcases w2 with ⟨h0, f, e1, e2⟩ | ⟨h0, -⟩
      · refine ra_astW X ht h2.2.1 hdg w1 e1 (ra_nar_ok hN k2 h2.2.2.1) i1 ?_
        refine hs _ (List.mem_singleton.mpr rfl) hn v _ _ _ (ra_g_set hg w1 (Or.inl ⟨h0, _, rfl, fun j hj => ?_⟩) g8) hv
        dsimp only
        have m1 := fun a b => ra_min_le a b
        have m2 := fun a b => ra_max_le a b
        have m3 := m1 o.2.2.1
        have m4 := m2 o.2.2.2
        unfold upd
        split
        · exact ⟨Int.le_trans (m3 _).2 hz.1, Int.le_trans hz.2 (m4 _).2⟩
        · have := e2 j hj
          exact ⟨Int.le_trans (m3 _).1 this.1, Int.le_trans this.2 (m4 _).1⟩
      · omega
    · cases h
  · cases h
def ra_lald (n pc : Nat) (a : ra_S) : Option (List (Nat × ra_S)) := match a with
  | (env, lv, st, aw, ce, sl) => ra_gd (n == 1) (match st with
    | .inl q :: .inr (.inl i) :: st => match aw[i]? with
      | some (.inr (.inr o)) => ra_gd (o.1 == 3 && ra_ix env q o.2.1) (some [(pc + 1, (env, lv, .inr (.inr 1) :: st, aw, ce, sl))])
      | _ => none
    | _ => none)
theorem ra_lald_ok {n pc : Nat} {a : ra_S} {out : List (Nat × ra_S)} (h : ra_lald n pc a = some out) (X : ra_X p s m args c cc own nL A D cl (ra_T sc cT) Ts) (hdg : decode cc pc = .ok (.laload, n)) (hs : ∀ x ∈ out, ra_ok p l e R s m args below meth c Q nL A D cl b0 ad0 cT n0 v0 x) : ra_ok p l e R s m args below meth c Q nL A D cl b0 ad0 cT n0 v0 (pc, a) := by
  obtain ⟨env, lv, st, aw, ce, sl⟩ := a
  intro hn v lvv stv ws hg hv
  have hst := hg.2.2.1
  have hN := hg.1
  dsimp only at hn hst hN
  obtain ⟨hx, hb, hml, hown, hts, hKK, hA⟩ := id X
  unfold ra_lald at h
  dsimp only at h
  have hq0 := ra_gd_ok h; clear h; obtain ⟨h1, h⟩ := hq0
  rw [beq_iff_eq] at h1
  subst h1
  split at h
  · split at h
    · rename_i o ho
      have hq1 := ra_gd_ok h; clear h; obtain ⟨h2, h⟩ := hq1
      rw [Bool.and_eq_true, beq_iff_eq] at h2
      cases h
      obtain ⟨x0, stv1, rfl, g2, g4⟩ := ra_a2_cons hst
      obtain ⟨x1, stv2, rfl, g5, g6⟩ := ra_a2_cons g4
      obtain ⟨k1, y, rfl, k2⟩ := g2
      obtain ⟨q, w1, rfl, w2⟩ := ra_cell hg ho g5
      obtain ⟨i1, i2, i3, -⟩ := ra_ix_ok hN k2 h2.2
      rcases w2 with ⟨h0, -⟩ | ⟨h0, f, e1⟩
      · omega
      · intro H locs ls hP hD hS hl
        refine va_lald hx hb hKK hP _ 3 (by rw [w1, ← e1]) rfl i1 hdg ?_
        exact hs _ (List.mem_singleton.mpr rfl) hn v _ _ ws (ra_g_st hg (ra_a2_mk (ra_cV_long _) g6)) hv H locs ls hP hD hS hl
    · cases h
  · cases h
def ra_last (n pc : Nat) (a : ra_S) : Option (List (Nat × ra_S)) := match a with
  | (env, lv, st, aw, ce, sl) => ra_gd (n == 1) (match st with
    | .inr (.inr 1) :: .inl q :: .inr (.inl i) :: st => match aw[i]? with
      | some (.inr (.inr o)) => ra_gd (o.1 == 3 && ra_ix env q o.2.1) (some [(pc + 1, (env, lv, st, aw, ce, sl))])
      | _ => none
    | _ => none)
theorem ra_last_ok {n pc : Nat} {a : ra_S} {out : List (Nat × ra_S)} (h : ra_last n pc a = some out) (X : ra_X p s m args c cc own nL A D cl (ra_T sc cT) Ts) (hdg : decode cc pc = .ok (.lastore, n)) (hs : ∀ x ∈ out, ra_ok p l e R s m args below meth c Q nL A D cl b0 ad0 cT n0 v0 x) : ra_ok p l e R s m args below meth c Q nL A D cl b0 ad0 cT n0 v0 (pc, a) := by
  obtain ⟨env, lv, st, aw, ce, sl⟩ := a
  intro hn v lvv stv ws hg hv
  have hst := hg.2.2.1
  have hN := hg.1
  dsimp only at hn hst hN
  obtain ⟨hx, hb, hml, hown, hts, hKK, hA⟩ := id X
  unfold ra_last at h
  dsimp only at h
  have hq0 := ra_gd_ok h; clear h; obtain ⟨h1, h⟩ := hq0
  rw [beq_iff_eq] at h1
  subst h1
  split at h
  · split at h
    · rename_i o ho
      have hq1 := ra_gd_ok h; clear h; obtain ⟨h2, h⟩ := hq1
      rw [Bool.and_eq_true, beq_iff_eq] at h2
      cases h
      obtain ⟨x0, stv1, rfl, g2, g4⟩ := ra_a2_cons hst
      obtain ⟨x1, stv2, rfl, g5, g6⟩ := ra_a2_cons g4
      obtain ⟨x2, stv3, rfl, g7, g8⟩ := ra_a2_cons g6
      obtain ⟨z, rfl⟩ := ra_longV g2
      obtain ⟨k1, y, rfl, k2⟩ := g5
      obtain ⟨q, w1, rfl, w2⟩ := ra_cell hg ho g7
      obtain ⟨i1, i2, i3, -⟩ := ra_ix_ok hN k2 h2.2
      rcases w2 with ⟨h0, -⟩ | ⟨h0, f, e1⟩
      · omega
      · intro H locs ls hP hD hS hl
        refine va_last hx hb hKK hP hD hS _ 3 (by rw [w1, ← e1]) rfl i1 hdg (fun H1 locs1 hP1 hD1 hS1 => ?_)
        have hg2 := ra_g_set (st' := _) (stv' := stv3) (ce' := ce) (sl' := sl) hg w1 (c' := .inr (.inr o)) (e' := .inl (cT 3, o.2.1, .inr (.inl (vp_updL f y.toNatClampNeg z)))) (Or.inr ⟨h0, _, rfl⟩) g8
        rw [ra_setself ho] at hg2
        exact hs _ (List.mem_singleton.mpr rfl) hn v _ _ _ hg2 hv H1 locs1 ls hP1 hD1 hS1 hl
    · cases h
  · cases h
/-- one of some cells -/
def ra_alds (pc : Nat) (q : Nat × Int) (lv : List (Nat × ra_V)) (st : List ra_V) (aw : List ra_C) (ce sl : Nat) (env : ra_N) : Nat → List ra_E → Option (List (Nat × ra_S))
  | _, [] => some []
  | k, e :: es => match ra_alds pc q lv st aw ce sl env (k + 1) es with
    | none => none
    | some r => match ra_cmpT 2 env q (0, (k : Int)) with
      | [] => some r
      | x :: xs => match e with
        | .inl (.inr (.inl j)) => some (ra_bs (pc + 1) (x :: xs) lv (.inr (.inl j) :: st) aw ce sl ++ r)
        | _ => none
theorem ra_alds_ok {pc : Nat} {q : Nat × Int} {lv : List (Nat × ra_V)} {st : List ra_V} {aw : List ra_C} {ce sl : Nat} {env : ra_N} : ∀ {es : List ra_E} {k : Nat} {r : List (Nat × ra_S)}, ra_alds pc q lv st aw ce sl env k es = some r → ∀ (j : Nat) (x : ra_E), es[j]? = some x → ra_cmpT 2 env q (0, ((k + j : Nat) : Int)) ≠ [] → ∃ i, x = .inl (.inr (.inl i)) ∧ ∀ y ∈ ra_bs (pc + 1) (ra_cmpT 2 env q (0, ((k + j : Nat) : Int))) lv (.inr (.inl i) :: st) aw ce sl, y ∈ r
  | [], _, _, _, j, x, h, _ => by simp at h
  | e :: es, k, r, h, j, x, hx, hne => by
    unfold ra_alds at h
    split at h
    · cases h
    · rename_i r' hr
      split at h
      · rename_i hc
        cases h
        cases j with
        | zero => exact absurd hc hne
        | succ j =>
          have := ra_alds_ok hr j x (by simpa using hx) (by rw [show k + 1 + j = k + (j + 1) by omega]; exact hne)
          rw [show k + 1 + j = k + (j + 1) by omega] at this
          exact this
      · rename_i c cs hc
        split at h
        · rename_i i
          cases h
          cases j with
          | zero =>
            simp at hx
            subst hx
            refine ⟨i, rfl, fun y hy => List.mem_append_left _ ?_⟩
            rw [← hc]
            exact hy
          | succ j =>
            obtain ⟨i2, h2, h3⟩ := ra_alds_ok hr j x (by simpa using hx) (by rw [show k + 1 + j = k + (j + 1) by omega]; exact hne)
            rw [show k + 1 + j = k + (j + 1) by omega] at h3
            exact ⟨i2, h2, fun y hy => List.mem_append_right _ (h3 y hy)⟩
        · cases h
def ra_aald (n pc : Nat) (a : ra_S) : Option (List (Nat × ra_S)) := match a with
  | (env, lv, st, aw, ce, sl) => ra_gd (n == 1) (match st with
    | .inl q :: .inr (.inl i) :: st => match aw[i]? with
      | some (.inr (.inl o)) => ra_gd (o.1 == 4 && (ra_ix env q o.2.length && Nat.blt o.2.length 2147483648)) (ra_alds pc q lv st aw ce sl env 0 o.2)
      | _ => none
    | _ => none)
theorem ra_aald_ok {n pc : Nat} {a : ra_S} {out : List (Nat × ra_S)} (h : ra_aald n pc a = some out) (X : ra_X p s m args c cc own nL A D cl (ra_T sc cT) Ts) (hdg : decode cc pc = .ok (.aaload, n)) (hs : ∀ x ∈ out, ra_ok p l e R s m args below meth c Q nL A D cl b0 ad0 cT n0 v0 x) : ra_ok p l e R s m args below meth c Q nL A D cl b0 ad0 cT n0 v0 (pc, a) := by
  obtain ⟨env, lv, st, aw, ce, sl⟩ := a
  intro hn v lvv stv ws hg hv
  have hst := hg.2.2.1
  have hN := hg.1
  dsimp only at hn hst hN
  obtain ⟨hx, hb, hml, hown, hts, hKK, hA⟩ := id X
  unfold ra_aald at h
  dsimp only at h
  have hq0 := ra_gd_ok h; clear h; obtain ⟨h1, h⟩ := hq0
  rw [beq_iff_eq] at h1
  subst h1
  split at h
  · split at h
    · rename_i o ho
      have hq1 := ra_gd_ok h; clear h; obtain ⟨h2, h⟩ := hq1
      rw [Bool.and_eq_true, Bool.and_eq_true, beq_iff_eq] at h2
      obtain ⟨x0, stv1, rfl, g2, g4⟩ := ra_a2_cons hst
      obtain ⟨x1, stv2, rfl, g5, g6⟩ := ra_a2_cons g4
      obtain ⟨k1, y, rfl, k2⟩ := g2
      obtain ⟨q, w1, rfl, w2⟩ := ra_cell hg ho g5
      obtain ⟨i1, i2, i3, -⟩ := ra_ix_ok hN k2 h2.2.1
      rcases w2 with ⟨h0, -⟩ | ⟨h0, f, e1, e2⟩
      · omega
      · have hex : o.2[y.toNatClampNeg]? = some o.2[y.toNatClampNeg] := List.getElem?_eq_getElem i3
        have hc := ra_cmpT_ok (qy := (0, ((y.toNatClampNeg : Nat) : Int))) (y := y) hN 2 k1 hN.1 k2 (by show _ = v 0 + _; rw [hN.2.1]; omega) rfl
        have hall := ra_alds_ok h y.toNatClampNeg _ hex
        rw [Nat.zero_add] at hall
        obtain ⟨e, c1, c2⟩ := hc
        obtain ⟨j, hj1, hj2⟩ := hall (fun hq => by rw [hq] at c1; cases c1)
        have he := e2 _ _ hex
        rw [hj1] at he
        obtain ⟨r, r1, r2⟩ := he
        intro H locs ls hP hD hS hl
        refine va_aldq hx hb hKK hP _ 4 (by rw [w1, ← e1]) rfl i1 hdg ?_
        rw [r2]
        have hrv : ra_cV env.length v (ws.map Prod.fst) b0 (.inr (.inl j)) (.ref r) := ⟨r, r1, rfl⟩
        exact ra_bs_ok hg (ra_a2_mk hrv g6) hn hv ⟨e, c1, c2⟩ (fun z hz => hs z (hj2 z hz)) H locs ls hP hD hS hl
    · cases h
  · cases h
end
end
section
/-! new cells -/
section
variable {p : Program} {l : Launch} {e : Env} {R : Room} {s : State} {m : MethodId} {args : Array Value} {below : List Frame} {meth : Method} {c : Code} {Q : State → Prop}
variable {cc : ByteArray} {own : String} {nL : Nat} {A : Nat → Prop} {D : va_G} {cl : List vw_C} {tys : List (ClassId × FieldType)} {Ts : List Cond} {b0 : Nat → Nat} {ad0 : List Nat} {cT : Nat → ClassId} {n0 : Nat} {v0 : Nat → Int}
variable {sc : String}

theorem ra_app_ext {ads : List Nat} {q : Nat} (i r : Nat) (h : ads[i]? = some r) : (ads ++ [q])[i]? = some r := by
  rw [List.getElem?_append_left (List.getElem?_eq_some_iff.mp h).1]
  exact h
theorem ra_g_push {v : Nat → Int} {env : ra_N} {lv : List (Nat × ra_V)} {st st' : List ra_V} {aw : List ra_C} {ce sl ce' sl' : Nat} {lvv : List (Nat × Value)} {stv stv' : List Value} {ws : va_W} (hg : ra_g b0 ad0 cT v (env, lv, st, aw, ce, sl) lvv stv ws) {q : Nat} {c' : ra_C} {e' : va_E} (hc : ∀ ads : List Nat, ra_cC env.length v ads b0 cT c' e') (hs : ra_a2 (ra_cV env.length v (ws.map Prod.fst) b0) st' stv') : ra_g b0 ad0 cT v (env, lv, .inr (.inl aw.length) :: st', aw ++ [c'], ce', sl') lvv (.ref q :: stv') (ws ++ [(q, e')]) := by
  unfold ra_g ra_pf
  dsimp only
  have ea : (ws ++ [(q, e')]).map Prod.fst = ws.map Prod.fst ++ [q] := by simp
  have hl : aw.length = (ws.map Prod.fst).length := by rw [List.length_map]; exact ra_a2_len hg.2.2.2.1
  rw [ea]
  refine ⟨hg.1, ra_a2_mono (fun a b z => ⟨z.1, ra_cV_ext (Nat.le_refl _) (fun _ _ => rfl) ra_app_ext z.2⟩) hg.2.1, ra_a2_mk ?_ (ra_a2_mono (fun a b z => ra_cV_ext (Nat.le_refl _) (fun _ _ => rfl) ra_app_ext z) hs), ra_a2_app (ra_a2_mono (fun a b z => ra_cC_ext (Nat.le_refl _) (fun _ _ => rfl) ra_app_ext z) hg.2.2.2.1) ⟨hc _, trivial⟩, fun k r hk => ra_app_ext k r (hg.2.2.2.2 k r hk)⟩
  exact ⟨q, by rw [hl]; simp, rfl⟩
def ra_okN (Ts : List Cond) (own : String) (cl : List vw_C) (nl : List (Nat × Nat)) : Prop := ∀ e ∈ nl, ∃ r : vw_C, cl[e.2]? = some r ∧ Cond.classLink own e.1 r.1 ∈ Ts ∧ Cond.instantiable r.1 r.2.2 ∈ Ts ∧ Cond.initialized r.1 ∈ Ts
def ra_nf (nl : List (Nat × Nat)) (j : Nat) : Option Nat := match nl with
  | [] => none
  | q :: nl => if q.1 = j then some q.2 else ra_nf nl j
theorem ra_nf_mem : ∀ {nl : List (Nat × Nat)} {j : Nat} {r : Nat}, ra_nf nl j = some r → (j, r) ∈ nl
  | [], _, _, h => by simp [ra_nf] at h
  | q :: nl, j, r, h => by
    unfold ra_nf at h
    split at h
    · rename_i hq
      cases h
      exact List.mem_cons.mpr (Or.inl (by rw [← hq]))
    · exact List.mem_cons_of_mem _ (ra_nf_mem h)
def ra_dv (ty : FieldType) : Option ra_V := match ty with
  | .int => some (.inl (0, 0))
  | .boolean => some (.inl (0, 0))
  | .long => some (.inr (.inr 1))
  | .object _ => some (.inr (.inr 0))
  | .array _ => some (.inr (.inr 0))
  | _ => none
theorem ra_dv_ok {v : Nat → Int} {env : ra_N} {ads : List Nat} (hN : ra_cN v env) {ty : FieldType} {a : ra_V} (h : ra_dv ty = some a) : ra_cV env.length v ads b0 a (defaultValue ty) := by
  unfold ra_dv at h
  split at h <;> first | (cases h; done) | skip
  · cases h
    exact ra_cV_const hN rfl
  · cases h
    exact ra_cV_const hN rfl
  · cases h
    exact ra_cV_long _
  · cases h
    exact Or.inl ⟨rfl, rfl⟩
  · cases h
    exact Or.inl ⟨rfl, rfl⟩
def ra_dvs (tyv : Nat → FieldType) : Nat → Nat → Option (List ra_V)
  | _, 0 => some []
  | k, n + 1 => match ra_dv (tyv k) with
    | none => none
    | some a => match ra_dvs tyv (k + 1) n with
      | none => none
      | some as => some (a :: as)
def ra_dfs (tyv : Nat → FieldType) : Nat → Nat → List Value
  | _, 0 => []
  | k, n + 1 => defaultValue (tyv k) :: ra_dfs tyv (k + 1) n
theorem ra_dvs_ok {v : Nat → Int} {env : ra_N} {ads : List Nat} (hN : ra_cN v env) {tyv : Nat → FieldType} : ∀ {n k : Nat} {as : List ra_V}, ra_dvs tyv k n = some as → ra_a2 (ra_cV env.length v ads b0) as (ra_dfs tyv k n)
  | 0, k, as, h => by
    simp [ra_dvs] at h
    subst h
    trivial
  | n + 1, k, as, h => by
    unfold ra_dvs at h
    split at h
    · cases h
    · rename_i a ha
      split at h
      · cases h
      · rename_i as' has
        cases h
        exact ⟨ra_dv_ok hN ha, ra_dvs_ok hN has⟩
theorem ra_dfs_get {tyv : Nat → FieldType} : ∀ {n k j : Nat}, j < n → (ra_dfs tyv k n)[j]? = some (defaultValue (tyv (k + j)))
  | 0, _, _, h => by omega
  | n + 1, k, 0, _ => by simp [ra_dfs]
  | n + 1, k, j + 1, h => by
    have := ra_dfs_get (tyv := tyv) (n := n) (k := k + 1) (j := j) (by omega)
    simp only [ra_dfs, List.getElem?_cons_succ]
    rw [this, show k + 1 + j = k + (j + 1) by omega]
def ra_newo (RC RS : Nat) (nl : List (Nat × Nat)) (cl : List vw_C) (tyv : Nat → Nat → FieldType) (j n pc : Nat) (a : ra_S) : Option (List (Nat × ra_S)) := match a with
  | (env, lv, st, aw, ce, sl) => ra_gd (n == 3) (match ra_nf nl j with
    | some ci => match cl[ci]? with
      | some rc => match ra_dvs (tyv ci) 0 rc.2.2 with
        | some as => ra_gd (Nat.ble (ce + 1) RC && Nat.ble (sl + rc.2.2) RS) (some [(pc + 3, (env, lv, .inr (.inl aw.length) :: st, aw ++ [.inl (ci, as)], ce + 1, sl + rc.2.2))])
        | none => none
      | none => none
    | none => none)
theorem ra_newo_ok {RC RS : Nat} {nl : List (Nat × Nat)} {tyv : Nat → Nat → FieldType} {j n pc : Nat} {a : ra_S} {out : List (Nat × ra_S)} (h : ra_newo RC RS nl cl tyv j n pc a = some out) (X : ra_X p s m args c cc own nL A D cl (ra_T sc cT) Ts) (hRC : RC ≤ R.cells) (hRS : RS ≤ R.slots) (hNl : ra_okN Ts own cl nl) (hC : ra_okC Ts cl tyv) (hdg : decode cc pc = .ok (.new j, n)) (hs : ∀ x ∈ out, ra_ok p l e R s m args below meth c Q nL A D cl b0 ad0 cT n0 v0 x) : ra_ok p l e R s m args below meth c Q nL A D cl b0 ad0 cT n0 v0 (pc, a) := by
  obtain ⟨env, lv, st, aw, ce, sl⟩ := a
  intro hn v lvv stv ws hg hv
  have hst := hg.2.2.1
  have hN := hg.1
  dsimp only at hn hst hN
  obtain ⟨hx, hb, hml, hown, hts, hKK, hA⟩ := id X
  unfold ra_newo at h
  dsimp only at h
  have hq0 := ra_gd_ok h; clear h; obtain ⟨h1, h⟩ := hq0
  rw [beq_iff_eq] at h1
  subst h1
  split at h
  · rename_i ci hci
    split at h
    · rename_i rc hrc
      split at h
      · rename_i as has
        have hq1 := ra_gd_ok h; clear h; obtain ⟨h2, h⟩ := hq1
        rw [Bool.and_eq_true] at h2
        have h3 := Nat.le_of_ble_eq_true h2.1
        have h4 := Nat.le_of_ble_eq_true h2.2
        cases h
        obtain ⟨rc', c1, c2, c3, c4⟩ := hNl _ (ra_nf_mem hci)
        have : rc' = rc := Option.some.inj (c1.symm.trans hrc)
        subst this
        obtain ⟨k1, k2, k3⟩ := hC _ _ hrc
        intro H locs ls hP hD hS hl
        refine va_new (ci := ci) (fs := ra_dfs (tyv ci) 0 rc'.2.2) (C := rc'.1) (T := rc'.2.1) (N := rc'.2.2) hx hb hts k1 (tyv ci) k2 hown (hts _ c2) (hts _ c3) (hts _ c4) hKK hP hD hS hA hrc (fun j hj => ?_) (Nat.le_trans h3 hRC) (Nat.le_trans h4 hRS) hdg (fun q H1 hP1 hD1 hS1 => ?_)
        · have := ra_dfs_get (tyv := tyv ci) (k := 0) hj
          rw [Nat.zero_add] at this
          simp [vp_V, this]
        · exact hs _ (List.mem_singleton.mpr rfl) hn v _ _ _ (ra_g_push hg (fun ads => ⟨_, rfl, ra_dvs_ok hN has⟩) hst) hv H1 locs ls hP1 hD1 hS1 hl
      · cases h
    · cases h
  · cases h
def ra_atc (ty : ArrayType) : Option Nat := match ty with
  | .int => some 0
  | .byte => some 1
  | .boolean => some 2
  | .long => some 3
  | _ => none
/-- the contents of a new array: each place by itself up to 100 -/
def ra_na (t k : Nat) : ra_C := if t = 3 then .inr (.inr (3, k, 0, 0)) else if k ≤ 100 ∨ k = 1601 then .inr (.inl (t, List.replicate k (.inl (.inl (0, 0))))) else .inr (.inr (t, k, 0, 0))
def ra_newa (RC RS : Nat) (ty : ArrayType) (n pc : Nat) (a : ra_S) : Option (List (Nat × ra_S)) := match a with
  | (env, lv, st, aw, ce, sl) => ra_gd (n == 2) (match st with
    | .inl q :: st => match ra_atc ty with
      | some t => let k := ra_nm env q; ra_gd (k.1 == 0 && (ra_leb 0 k.2 && (Nat.ble k.2.toNat 60000000 && (Nat.ble (ce + 1) RC && Nat.ble (sl + k.2.toNat) RS)))) (some [(pc + 2, (env, lv, .inr (.inl aw.length) :: st, aw ++ [ra_na t k.2.toNat], ce + 1, sl + k.2.toNat))])
      | none => none
    | _ => none)
theorem ra_RA_eq {t : Nat} {ty : FieldType} {cA : ClassId} (hK : va_K D cl (ra_T sc cT ++ [(cA, ty)]) s) (ht : (ra_T sc cT)[t]? = some (cT t, ty)) : cA = cT t := by
  have hl : t < (ra_T sc cT).length := (List.getElem?_eq_some_iff.mp ht).1
  have h1 := (hK.2 t (cT t, ty) (by rw [List.getElem?_append_left hl]; exact ht)).2
  have h2 := (hK.2 (ra_T sc cT).length (cA, ty) (by simp)).2
  have key : ∀ (ty : FieldType) (c1 c2 : ClassId), va_RA s c1 ty → va_RA s c2 ty → c1 = c2 := by
    intro ty c1 c2 a b
    cases ty with
    | object C =>
      obtain ⟨_, _, _, _, _, a4⟩ := a
      obtain ⟨_, _, _, _, _, b4⟩ := b
      exact Option.some.inj (a4.symm.trans b4)
    | _ => exact Option.some.inj (a.symm.trans b)
  exact key ty _ _ h2 h1
def ra_okA (Ts : List Cond) : Prop := Cond.arrayClass .int ∈ Ts ∧ Cond.arrayClass .byte ∈ Ts ∧ Cond.arrayClass .boolean ∈ Ts ∧ Cond.arrayClass .long ∈ Ts
theorem ra_na_i {v : Nat → Int} {env : ra_N} (hN : ra_cN v env) {t k : Nat} (ht : t < 3) (ads : List Nat) : ra_cC env.length v ads b0 cT (ra_na t k) (.inl (cT t, k, .inl (fun _ => 0))) := by
  unfold ra_na
  rw [if_neg (by omega)]
  split
  · refine Or.inl ⟨ht, _, by simp; rfl, fun j x hx => ?_⟩
    rw [List.getElem?_replicate] at hx
    split at hx
    · cases hx
      exact ra_cV_const (b0 := b0) (ads := ads) hN rfl
    · cases hx
  · exact Or.inl ⟨ht, _, rfl, fun j hj => ⟨by show (0 : Int) ≤ (0 : Int32).toInt; decide, by show (0 : Int32).toInt ≤ (0 : Int); decide⟩⟩
theorem ra_newa_ok {RC RS : Nat} {ty : ArrayType} {n pc : Nat} {a : ra_S} {out : List (Nat × ra_S)} (h : ra_newa RC RS ty n pc a = some out) (X : ra_X p s m args c cc own nL A D cl (ra_T sc cT) Ts) (hRC : RC ≤ R.cells) (hRS : RS ≤ R.slots) (hAr : ra_okA Ts) (hdg : decode cc pc = .ok (.newarray ty, n)) (hs : ∀ x ∈ out, ra_ok p l e R s m args below meth c Q nL A D cl b0 ad0 cT n0 v0 x) : ra_ok p l e R s m args below meth c Q nL A D cl b0 ad0 cT n0 v0 (pc, a) := by
  obtain ⟨env, lv, st, aw, ce, sl⟩ := a
  intro hn v lvv stv ws hg hv
  have hst := hg.2.2.1
  have hN := hg.1
  dsimp only at hn hst hN
  obtain ⟨hx, hb, hml, hown, hts, hKK, hA⟩ := id X
  unfold ra_newa at h
  dsimp only at h
  have hq0 := ra_gd_ok h; clear h; obtain ⟨h1, h⟩ := hq0
  rw [beq_iff_eq] at h1
  subst h1
  split at h
  · rename_i q st1
    split at h
    · rename_i t ht
      have hq1 := ra_gd_ok h; clear h; obtain ⟨h2, h⟩ := hq1
      rw [Bool.and_eq_true, Bool.and_eq_true, Bool.and_eq_true, Bool.and_eq_true, beq_iff_eq] at h2
      obtain ⟨h2, h3, h4, h5, h6⟩ := h2
      have h3 := ra_leb_le h3
      have h4 := Nat.le_of_ble_eq_true h4
      have h5 := Nat.le_of_ble_eq_true h5
      have h6 := Nat.le_of_ble_eq_true h6
      cases h
      obtain ⟨x0, stv1, rfl, g2, g4⟩ := ra_a2_cons hst
      obtain ⟨k1, y, rfl, k2⟩ := g2
      have hk := ra_nm_ok hN k1 k2
      rw [h2, hN.2.1] at hk
      have hn0 : ¬ y < 0 := fun q => by
        have := Int32.lt_iff_toInt_lt.mp q
        have e0 : (0 : Int32).toInt = 0 := rfl
        omega
      have hc : y.toNatClampNeg = (ra_nm env q).2.toNat := by rw [ra_clamp]; omega
      have kk := fun (q1 : Nat) (e' : va_E) (he : ∀ ads : List Nat, ra_cC env.length v ads b0 cT (ra_na t (ra_nm env q).2.toNat) e') (H1 : Heap) (locs1 : List Loc) (ls : Array Slot) hP1 hD1 hS1 hl => hs _ (List.mem_singleton.mpr rfl) hn v lvv (.ref q1 :: stv1) (ws ++ [(q1, e')]) (ra_g_push hg he g4) hv H1 locs1 ls hP1 hD1 hS1 hl
      have hcells : ce + 1 ≤ R.cells := Nat.le_trans h5 hRC
      have hslots : sl + (ra_nm env q).2.toNat ≤ R.slots := Nat.le_trans h6 hRS
      intro H locs ls hP hD hS hl
      cases ty <;> first | (cases ht; done) | skip
      · cases ht
        refine va_newa (atype := .boolean) (ty := .boolean) (N' := (ra_nm env q).2.toNat) (a0 := ((ra_nm env q).2.toNat, .inl (fun _ => 0))) hx hb (hts _ hAr.2.2.1) rfl hKK hP hD hS hA (fun _ => rfl) hn0 hc (by show _ * 1 ≤ _; omega) hcells hslots hdg (fun q1 cA H1 hK1 hP1 hD1 hS1 => ?_)
        have e0 := ra_RA_eq (t := 2) hK1 rfl
        subst e0
        exact kk q1 _ (fun ads => ra_na_i hN (by omega) ads) H1 locs ls hP1 hD1 hS1 hl
      · cases ht
        refine va_newa (atype := .byte) (ty := .byte) (N' := (ra_nm env q).2.toNat) (a0 := ((ra_nm env q).2.toNat, .inl (fun _ => 0))) hx hb (hts _ hAr.2.1) rfl hKK hP hD hS hA (fun _ => rfl) hn0 hc (by show _ * 1 ≤ _; omega) hcells hslots hdg (fun q1 cA H1 hK1 hP1 hD1 hS1 => ?_)
        have e0 := ra_RA_eq (t := 1) hK1 rfl
        subst e0
        exact kk q1 _ (fun ads => ra_na_i hN (by omega) ads) H1 locs ls hP1 hD1 hS1 hl
      · cases ht
        refine va_newa (atype := .int) (ty := .int) (N' := (ra_nm env q).2.toNat) (a0 := ((ra_nm env q).2.toNat, .inl (fun _ => 0))) hx hb (hts _ hAr.1) rfl hKK hP hD hS hA (fun _ => rfl) hn0 hc (by show _ * 4 ≤ _; omega) hcells hslots hdg (fun q1 cA H1 hK1 hP1 hD1 hS1 => ?_)
        have e0 := ra_RA_eq (t := 0) hK1 rfl
        subst e0
        exact kk q1 _ (fun ads => ra_na_i hN (by omega) ads) H1 locs ls hP1 hD1 hS1 hl
      · cases ht
        refine va_newa (atype := .long) (ty := .long) (N' := (ra_nm env q).2.toNat) (a0 := ((ra_nm env q).2.toNat, .inr (.inl (fun _ => 0)))) hx hb (hts _ hAr.2.2.2) rfl hKK hP hD hS hA (fun _ => rfl) hn0 hc (by show _ * 8 ≤ _; omega) hcells hslots hdg (fun q1 cA H1 hK1 hP1 hD1 hS1 => ?_)
        have e0 := ra_RA_eq (t := 3) hK1 rfl
        subst e0
        exact kk q1 _ (fun ads => Or.inr ⟨rfl, _, rfl⟩) H1 locs ls hP1 hD1 hS1 hl
    · cases h
  · cases h
def ra_newq (RC RS : Nat) (ql : List Nat) (j n pc : Nat) (a : ra_S) : Option (List (Nat × ra_S)) := match a with
  | (env, lv, st, aw, ce, sl) => ra_gd (n == 3 && ql.contains j) (match st with
    | .inl q :: st => let k := ra_nm env q; ra_gd (k.1 == 0 && (ra_leb 0 k.2 && (Nat.ble k.2.toNat 60000000 && (Nat.ble (ce + 1) RC && Nat.ble (sl + k.2.toNat) RS)))) (some [(pc + 3, (env, lv, .inr (.inl aw.length) :: st, aw ++ [.inr (.inl (4, List.replicate k.2.toNat (.inl (.inr (.inr 0)))))], ce + 1, sl + k.2.toNat))])
    | _ => none)
theorem ra_newq_ok {RC RS : Nat} {ql : List Nat} {j n pc : Nat} {a : ra_S} {out : List (Nat × ra_S)} (h : ra_newq RC RS ql j n pc a = some out) (X : ra_X p s m args c cc own nL A D cl (ra_T sc cT) Ts) (hRC : RC ≤ R.cells) (hRS : RS ≤ R.slots) (hQl : ∀ j ∈ ql, Cond.classLink own j sc ∈ Ts) (hAO : va_AO sc s) (hdg : decode cc pc = .ok (.anewarray j, n)) (hs : ∀ x ∈ out, ra_ok p l e R s m args below meth c Q nL A D cl b0 ad0 cT n0 v0 x) : ra_ok p l e R s m args below meth c Q nL A D cl b0 ad0 cT n0 v0 (pc, a) := by
  obtain ⟨env, lv, st, aw, ce, sl⟩ := a
  intro hn v lvv stv ws hg hv
  have hst := hg.2.2.1
  have hN := hg.1
  dsimp only at hn hst hN
  obtain ⟨hx, hb, hml, hown, hts, hKK, hA⟩ := id X
  unfold ra_newq at h
  dsimp only at h
  have hq0 := ra_gd_ok h; clear h; obtain ⟨h1, h⟩ := hq0
  rw [Bool.and_eq_true, beq_iff_eq, List.contains_iff_mem] at h1
  obtain ⟨h1, hj⟩ := h1
  subst h1
  split at h
  · rename_i q st1
    have hq1 := ra_gd_ok h; clear h; obtain ⟨h2, h⟩ := hq1
    rw [Bool.and_eq_true, Bool.and_eq_true, Bool.and_eq_true, Bool.and_eq_true, beq_iff_eq] at h2
    obtain ⟨h2, h3, h4, h5, h6⟩ := h2
    have h3 := ra_leb_le h3
    have h4 := Nat.le_of_ble_eq_true h4
    have h5 := Nat.le_of_ble_eq_true h5
    have h6 := Nat.le_of_ble_eq_true h6
    cases h
    obtain ⟨x0, stv1, rfl, g2, g4⟩ := ra_a2_cons hst
    obtain ⟨k1, y, rfl, k2⟩ := g2
    have hk := ra_nm_ok hN k1 k2
    rw [h2, hN.2.1] at hk
    have hn0 : ¬ y < 0 := fun q => by
      have := Int32.lt_iff_toInt_lt.mp q
      have e0 : (0 : Int32).toInt = 0 := rfl
      omega
    have hc : y.toNatClampNeg = (ra_nm env q).2.toNat := by rw [ra_clamp]; omega
    intro H locs ls hP hD hS hl
    refine va_newq (N' := (ra_nm env q).2.toNat) hx hb hown (hts _ (hQl _ hj)) hAO hKK hP hD hS hA hn0 hc (by omega) (Nat.le_trans h5 hRC) (Nat.le_trans h6 hRS) hdg (fun q1 cA H1 hK1 hP1 hD1 hS1 => ?_)
    have e0 := ra_RA_eq (t := 4) hK1 rfl
    subst e0
    refine hs _ (List.mem_singleton.mpr rfl) hn v _ _ _ (ra_g_push hg (fun ads => Or.inr ⟨rfl, (fun _ => none), by simp, fun j x hx => ?_⟩) g4) hv H1 locs ls hP1 hD1 hS1 hl
    rw [List.getElem?_replicate] at hx
    split at hx
    · cases hx
      exact Or.inl ⟨rfl, rfl⟩
    · cases hx
  · cases h
def ra_aast (sci n pc : Nat) (a : ra_S) : Option (List (Nat × ra_S)) := match a with
  | (env, lv, st, aw, ce, sl) => ra_gd (n == 1) (match st with
    | .inr (.inl j) :: .inl q :: .inr (.inl i) :: st => match aw[i]? with
      | some (.inr (.inl o)) => match aw[j]? with
        | some (.inl w) => let k := ra_nm env q; ra_gd (o.1 == 4 && (w.1 == sci && (k.1 == 0 && ra_ix env q o.2.length))) (some [(pc + 1, (env, lv, st, aw.set i (.inr (.inl (4, o.2.set k.2.toNat (.inl (.inr (.inl j)))))), ce, sl))])
        | _ => none
      | _ => none
    | _ => none)
theorem ra_aast_ok {sci n pc : Nat} {a : ra_S} {out : List (Nat × ra_S)} (h : ra_aast sci n pc a = some out) (X : ra_X p s m args c cc own nL A D cl (ra_T sc cT) Ts) {rsc : vw_C} (hsci : cl[sci]? = some rsc) (hsn : rsc.1 = sc) (hdg : decode cc pc = .ok (.aastore, n)) (hs : ∀ x ∈ out, ra_ok p l e R s m args below meth c Q nL A D cl b0 ad0 cT n0 v0 x) : ra_ok p l e R s m args below meth c Q nL A D cl b0 ad0 cT n0 v0 (pc, a) := by
  obtain ⟨env, lv, st, aw, ce, sl⟩ := a
  intro hn v lvv stv ws hg hv
  have hst := hg.2.2.1
  have hN := hg.1
  dsimp only at hn hst hN
  obtain ⟨hx, hb, hml, hown, hts, hKK, hA⟩ := id X
  unfold ra_aast at h
  dsimp only at h
  have hq0 := ra_gd_ok h; clear h; obtain ⟨h1, h⟩ := hq0
  rw [beq_iff_eq] at h1
  subst h1
  split at h
  · rename_i j q i st1
    split at h
    · rename_i o ho
      split at h
      · rename_i w hw
        have hq1 := ra_gd_ok h; clear h; obtain ⟨h2, h⟩ := hq1
        rw [Bool.and_eq_true, Bool.and_eq_true, Bool.and_eq_true, beq_iff_eq, beq_iff_eq, beq_iff_eq] at h2
        obtain ⟨h2, h3, h4, h5⟩ := h2
        cases h
        obtain ⟨x0, stv1, rfl, g2, g4⟩ := ra_a2_cons hst
        obtain ⟨x1, stv2, rfl, g5, g6⟩ := ra_a2_cons g4
        obtain ⟨x2, stv3, rfl, g7, g8⟩ := ra_a2_cons g6
        obtain ⟨k1, y, rfl, k2⟩ := g5
        have g2' := g2
        obtain ⟨qj, u1, rfl, u2⟩ := ra_cell hg hw g2
        obtain ⟨qi, w1, rfl, w2⟩ := ra_cell hg ho g7
        obtain ⟨vs, f1, -⟩ := u2
        obtain ⟨i1, i2, i3, -⟩ := ra_ix_ok hN k2 h5
        have hk := ra_nm_ok hN k1 k2
        rw [h4, hN.2.1] at hk
        have hc : (ra_nm env q).2.toNat = y.toNatClampNeg := by omega
        rcases w2 with ⟨h0, -⟩ | ⟨h0, f, e1, e2⟩
        · omega
        · intro H locs ls hP hD hS hl
          refine va_astq hx hb hKK hP hD hS i 4 j sci (vs := vs) (v := qj.1) (r := rsc) (by rw [w1, ← e1]) (by rw [hsn]; rfl) (by rw [u1, ← h3, ← f1]) hsci i1 hdg (fun H1 locs1 hP1 hD1 hS1 => ?_)
          refine hs _ (List.mem_singleton.mpr rfl) hn v _ _ _ (ra_g_set hg w1 (Or.inr ⟨rfl, _, by rw [List.length_set], fun j2 x hx => ?_⟩) g8) hv H1 locs1 ls hP1 hD1 hS1 hl
          rw [List.getElem?_set] at hx
          unfold va_up
          split at hx
          · rename_i hj
            rw [hc] at hj
            subst hj
            try rw [if_pos (by rw [hc]; exact i3)] at hx
            cases hx
            rw [if_pos rfl]
            exact g2'
          · rename_i hj
            rw [if_neg (fun z => hj (by rw [hc]; exact z.symm))]
            exact e2 j2 x hx
      · cases h
    · cases h
  · cases h
end
end
section
/-! rows copied by the library -/
section
variable {p : Program} {l : Launch} {e : Env} {R : Room} {s : State} {m : MethodId} {args : Array Value} {below : List Frame} {meth : Method} {c : Code} {Q : State → Prop}
variable {cc : ByteArray} {own : String} {nL : Nat} {A : Nat → Prop} {D : va_G} {cl : List vw_C} {tys : List (ClassId × FieldType)} {Ts : List Cond} {b0 : Nat → Nat} {ad0 : List Nat} {cT : Nat → ClassId} {n0 : Nat} {v0 : Nat → Int}
variable {sc : String}

def ra_cats (st : List ra_V) : Nat := (st.map (fun a => if ra_two a then 2 else 1)).sum
theorem ra_cats_ok {n : Nat} {v : Nat → Int} {ads : List Nat} : ∀ {st : List ra_V} {stv : List Value}, ra_a2 (ra_cV n v ads b0) st stv → (stv.map fun v => v.category).sum = ra_cats st
  | [], [], _ => rfl
  | a :: st, x :: stv, h => by
    have ih := ra_cats_ok h.2
    have h1 := ra_two_ok h.1
    unfold ra_cats at ih ⊢
    simp only [List.map_cons, List.sum_cons]
    rw [ih]
    congr 1
    rcases lv_cat x with h2 | h2
    · rw [h2] at h1 ⊢
      rw [← h1]
      rfl
    · rw [h2] at h1 ⊢
      rw [← h1]
      rfl
  | [], _ :: _, h => h.elim
  | _ :: _, [], h => h.elim
theorem ra_wk_any {v : Nat → Int} {env : ra_N} {ads : List Nat} (hN : ra_cN v env) {lo hi : Int} : ∀ {es es' : List ra_E} {a c : Nat} {f : Nat → Int32}, ra_wk env lo hi a c es = some es' → (∀ (j : Nat) (x : ra_E), es[j]? = some x → ra_cE env.length v ads b0 x (.int (f j))) → es'.length = es.length ∧ ∀ (j : Nat) (x : ra_E), es'[j]? = some x → ra_cE env.length v ads b0 x (.int (f j))
  | [], es', a, c, f, h, hf => by
    simp [ra_wk] at h
    subst h
    exact ⟨rfl, fun j x hx => by simp at hx⟩
  | e :: es, es', 0, 0, f, h, hf => by
    simp [ra_wk] at h
    subst h
    exact ⟨rfl, hf⟩
  | e :: es, es', 0, c + 1, f, h, hf => by
    unfold ra_wk at h
    split at h
    · cases h
    · rename_i r hr
      split at h
      · cases h
      · rename_i es1 he
        cases h
        have ih := ra_wk_any hN (f := fun j => f (j + 1)) he (fun j x hx => hf (j + 1) x (by simpa using hx))
        refine ⟨by simp [ih.1], fun j x hx => ?_⟩
        cases j with
        | zero =>
          simp at hx
          subst hx
          have h3 := ra_rgE_ok hN hr (hf 0 e (by simp))
          have m1 := ra_min_le r.1 lo
          have m2 := ra_max_le r.2 hi
          exact ⟨f 0, rfl, by show ra_min r.1 lo ≤ _; omega, by show _ ≤ ra_max r.2 hi; omega⟩
        | succ j =>
          simp at hx
          exact ih.2 j x hx
  | e :: es, es', a + 1, c, f, h, hf => by
    unfold ra_wk at h
    split at h
    · cases h
    · rename_i es1 he
      cases h
      have ih := ra_wk_any hN (f := fun j => f (j + 1)) he (fun j x hx => hf (j + 1) x (by simpa using hx))
      refine ⟨by simp [ih.1], fun j x hx => ?_⟩
      cases j with
      | zero =>
        simp at hx
        subst hx
        exact hf 0 e (by simp)
      | succ j =>
        simp at hx
        exact ih.2 j x hx
def ra_hulC (env : ra_N) (c : ra_C) : Option (Nat × Int × Int) := match c with
  | .inr (.inl o) => if o.1 = 0 then (match ra_hul env o.2 with
    | some b => some (o.2.length, b)
    | none => none) else none
  | .inr (.inr o) => if o.1 = 0 then some (o.2.1, o.2.2.1, o.2.2.2) else none
  | _ => none
theorem ra_hulC_ok {v : Nat → Int} {env : ra_N} {ads : List Nat} (hN : ra_cN v env) {c : ra_C} {r : Nat × Int × Int} (h : ra_hulC env c = some r) {x : va_E} (hc : ra_cC env.length v ads b0 cT c x) : ∃ f : Nat → Int32, x = .inl (cT 0, r.1, .inl f) ∧ ∀ j, j < r.1 → r.2.1 ≤ (f j).toInt ∧ (f j).toInt ≤ r.2.2 := by
  unfold ra_hulC at h
  split at h
  · split at h
    · rename_i o h0
      split at h
      · rename_i b hb
        cases h
        rcases hc with ⟨-, f, e1, e2⟩ | ⟨h1, -⟩
        · refine ⟨f, by rw [e1, h0], fun j hj => ?_⟩
          have hg : o.2[j]? = some o.2[j] := List.getElem?_eq_getElem hj
          obtain ⟨a, a1, a2, a3⟩ := ra_hul_ok hb _ (List.getElem_mem hj)
          have := ra_rgE_ok hN a1 (e2 _ _ hg)
          dsimp only
          omega
        · omega
      · cases h
    · cases h
  · split at h
    · rename_i o h0
      cases h
      rcases hc with ⟨-, f, e1, e2⟩ | ⟨h1, -⟩
      · exact ⟨f, by rw [e1, h0], e2⟩
      · omega
    · cases h
  · cases h
/-- what the copied row is behind it -/
def ra_cpd (env : ra_N) (src dst : ra_C) (sp dp n : Nat × Int) : Option ra_C := match ra_hulC env src with
  | none => none
  | some b => match dst with
    | .inr (.inl o) => ra_gd (o.1 == 0 && (ra_leb 0 (ra_rg env sp).1 && (ra_leb 0 (ra_rg env dp).1 && (ra_leb 0 (ra_rg env n).1 && (ra_leb ((ra_rg env sp).2 + (ra_rg env n).2) b.1 && ra_leb ((ra_rg env dp).2 + (ra_rg env n).2) o.2.length))))) (match (ra_nm env sp).1 + (ra_nm env dp).1 + (ra_nm env n).1, src with
      | 0, .inr (.inl q) => some (.inr (.inl (0, o.2.take (ra_nm env dp).2.toNat ++ ((q.2.drop (ra_nm env sp).2.toNat).take (ra_nm env n).2.toNat ++ o.2.drop ((ra_nm env dp).2.toNat + (ra_nm env n).2.toNat)))))
      | _, _ => match ra_wk env b.2.1 b.2.2 0 o.2.length o.2 with
        | some es => some (.inr (.inl (0, es)))
        | none => none)
    | .inr (.inr o) => ra_gd (o.1 == 0 && (ra_leb 0 (ra_rg env sp).1 && (ra_leb 0 (ra_rg env dp).1 && (ra_leb 0 (ra_rg env n).1 && (ra_leb ((ra_rg env sp).2 + (ra_rg env n).2) b.1 && ra_leb ((ra_rg env dp).2 + (ra_rg env n).2) o.2.1))))) (some (.inr (.inr (0, o.2.1, ra_min o.2.2.1 b.2.1, ra_max o.2.2.2 b.2.2))))
    | _ => none
theorem ra_cpd_ok {v : Nat → Int} {env : ra_N} {ads : List Nat} (hN : ra_cN v env) {src dst out : ra_C} {qs qd qn : Nat × Int} {sp dp n : Int32} (s1 : qs.1 < env.length) (s2 : sp.toInt = v qs.1 + qs.2) (d1 : qd.1 < env.length) (d2 : dp.toInt = v qd.1 + qd.2) (n1 : qn.1 < env.length) (n2 : n.toInt = v qn.1 + qn.2) (h : ra_cpd env src dst qs qd qn = some out) {x y : va_E} (hs : ra_cC env.length v ads b0 cT src x) (hd : ra_cC env.length v ads b0 cT dst y) :
    ∃ (f g : Nat → Int32) (k1 k2 : Nat), x = .inl (cT 0, k1, .inl f) ∧ y = .inl (cT 0, k2, .inl g) ∧ ¬ sp < 0 ∧ ¬ dp < 0 ∧ ¬ n < 0 ∧ sp.toNatClampNeg + n.toNatClampNeg ≤ k1 ∧ dp.toNatClampNeg + n.toNatClampNeg ≤ k2 ∧ ra_cC env.length v ads b0 cT out (.inl (cT 0, k2, .inl (va_cpy f g sp.toNatClampNeg dp.toNatClampNeg n.toNatClampNeg))) := by
  have rs := ra_rg_ok hN s2
  have rd := ra_rg_ok hN d2
  have rn := ra_rg_ok hN n2
  have ms := ra_nm_ok hN s1 s2
  have md := ra_nm_ok hN d1 d2
  have mn := ra_nm_ok hN n1 n2
  have neg : ∀ z : Int32, 0 ≤ z.toInt → ¬ z < 0 := fun z hz q => by
    have := Int32.lt_iff_toInt_lt.mp q
    have e0 : (0 : Int32).toInt = 0 := rfl
    omega
  have cs := ra_clamp sp
  have cd := ra_clamp dp
  have cn := ra_clamp n
  unfold ra_cpd at h
  split at h
  · cases h
  · rename_i b hb
    obtain ⟨f, f1, f2⟩ := ra_hulC_ok hN hb hs
    split at h
    · rename_i o
      have hq0 := ra_gd_ok h; clear h; obtain ⟨h1, h⟩ := hq0
      rw [Bool.and_eq_true, Bool.and_eq_true, Bool.and_eq_true, Bool.and_eq_true, Bool.and_eq_true, beq_iff_eq] at h1
      obtain ⟨h1, h2, h3, h4, h5, h6⟩ := h1
      have h2 := ra_leb_le h2
      have h3 := ra_leb_le h3
      have h4 := ra_leb_le h4
      have h5 := ra_leb_le h5
      have h6 := ra_leb_le h6
      rcases hd with ⟨-, g, g1, g2⟩ | ⟨h7, -⟩
      · refine ⟨f, g, b.1, o.2.length, f1, by rw [g1, h1], neg _ (by omega), neg _ (by omega), neg _ (by omega), by omega, by omega, ?_⟩
        split at h
        · rename_i q hz
          cases h
          have z1 : (ra_nm env qs).1 = 0 := by omega
          have z2 : (ra_nm env qd).1 = 0 := by omega
          have z3 : (ra_nm env qn).1 = 0 := by omega
          rw [z1, hN.2.1] at ms
          rw [z2, hN.2.1] at md
          rw [z3, hN.2.1] at mn
          have es : (ra_nm env qs).2.toNat = sp.toNatClampNeg := by omega
          have ed : (ra_nm env qd).2.toNat = dp.toNatClampNeg := by omega
          have en : (ra_nm env qn).2.toNat = n.toNatClampNeg := by omega
          rw [es, ed, en]
          rcases hs with ⟨-, f', e1, e2⟩ | ⟨_, h8⟩
          · rw [f1] at e1
            have hlen : b.1 = q.2.length := by
              injection e1 with e1
              injection e1 with _ e1
              injection e1
            have hff : f = f' := by
              injection e1 with e1
              injection e1 with _ e1
              injection e1 with _ e1
              injection e1
            subst hff
            have l1 : dp.toNatClampNeg ≤ o.2.length := by omega
            have l2 : sp.toNatClampNeg + n.toNatClampNeg ≤ q.2.length := by omega
            refine Or.inl ⟨(by decide : (0 : Nat) < 3), va_cpy f g sp.toNatClampNeg dp.toNatClampNeg n.toNatClampNeg, ?_, fun j w hw => ?_⟩
            · dsimp only
              rw [List.length_append, List.length_append, List.length_take, List.length_take, List.length_drop, List.length_drop]
              have : min dp.toNatClampNeg o.2.length + (min n.toNatClampNeg (q.2.length - sp.toNatClampNeg) + (o.2.length - (dp.toNatClampNeg + n.toNatClampNeg))) = o.2.length := by omega
              rw [this]
            · dsimp only at hw
              unfold va_cpy
              by_cases j1 : j < dp.toNatClampNeg
              · rw [List.getElem?_append_left (by rw [List.length_take]; omega), List.getElem?_take, if_pos j1] at hw
                rw [if_neg (by omega)]
                exact g2 j w hw
              · rw [List.getElem?_append_right (by rw [List.length_take]; omega)] at hw
                rw [List.length_take, Nat.min_eq_left l1] at hw
                by_cases j2 : j < dp.toNatClampNeg + n.toNatClampNeg
                · rw [List.getElem?_append_left (by rw [List.length_take, List.length_drop]; omega), List.getElem?_take, if_pos (by omega), List.getElem?_drop] at hw
                  rw [if_pos ⟨by omega, j2⟩]
                  exact e2 _ w hw
                · rw [List.getElem?_append_right (by rw [List.length_take, List.length_drop]; omega), List.length_take, List.length_drop, List.getElem?_drop] at hw
                  rw [if_neg (by omega)]
                  have : dp.toNatClampNeg + n.toNatClampNeg + (j - dp.toNatClampNeg - min n.toNatClampNeg (q.2.length - sp.toNatClampNeg)) = j := by omega
                  rw [this] at hw
                  exact g2 j w hw
          · obtain ⟨g', h9, -⟩ := h8
            rw [f1] at h9
            injection h9 with h9
            injection h9 with _ h9
            injection h9 with _ h9
            cases h9
        · split at h
          · rename_i es hes
            cases h
            by_cases hb0 : 0 < b.1
            · have hl := fun (z : Int32) (q1 : b.2.1 ≤ z.toInt) (q2 : z.toInt ≤ b.2.2) => ra_wk_ok (ads := ads) (b0 := b0) hN q1 q2 hes g2
              have l0 := (hl (f 0) (f2 0 hb0).1 (f2 0 hb0).2).1
              refine Or.inl ⟨(by decide : (0 : Nat) < 3), _, by rw [l0], fun j w hw => ?_⟩
              dsimp only at hw
              unfold va_cpy
              split
              · rename_i hj
                have hf := f2 (sp.toNatClampNeg + (j - dp.toNatClampNeg)) (by omega)
                exact ((hl _ hf.1 hf.2).2 j w hw).2 (Nat.zero_le _) (by omega)
              · exact ((hl (f 0) (f2 0 hb0).1 (f2 0 hb0).2).2 j w hw).1
            · have hn0 : n.toNatClampNeg = 0 := by omega
              have hz := ra_wk_any hN hes g2
              refine Or.inl ⟨(by decide : (0 : Nat) < 3), _, by rw [hz.1], fun j w hw => ?_⟩
              unfold va_cpy
              rw [if_neg (by omega)]
              exact hz.2 j w hw
          · cases h
      · omega
    · rename_i o
      have hq0 := ra_gd_ok h; clear h; obtain ⟨h1, h⟩ := hq0
      rw [Bool.and_eq_true, Bool.and_eq_true, Bool.and_eq_true, Bool.and_eq_true, Bool.and_eq_true, beq_iff_eq] at h1
      obtain ⟨h1, h2, h3, h4, h5, h6⟩ := h1
      have h2 := ra_leb_le h2
      have h3 := ra_leb_le h3
      have h4 := ra_leb_le h4
      have h5 := ra_leb_le h5
      have h6 := ra_leb_le h6
      cases h
      rcases hd with ⟨-, g, g1, g2⟩ | ⟨h7, -⟩
      · refine ⟨f, g, b.1, o.2.1, f1, by rw [g1, h1], neg _ (by omega), neg _ (by omega), neg _ (by omega), by omega, by omega, Or.inl ⟨(by decide : (0 : Nat) < 3), _, rfl, fun j hj => ?_⟩⟩
        have m1 := ra_min_le o.2.2.1 b.2.1
        have m2 := ra_max_le o.2.2.2 b.2.2
        dsimp only
        unfold va_cpy
        split
        · rename_i hj2
          have hf := f2 (sp.toNatClampNeg + (j - dp.toNatClampNeg)) (by omega)
          omega
        · have hf := g2 j hj
          omega
      · omega
    · cases h
end
end
section
/-! worlds behind a call -/
section
variable {p : Program} {l : Launch} {e : Env} {R : Room} {s : State} {m : MethodId} {args : Array Value} {below : List Frame} {meth : Method} {c : Code} {Q : State → Prop}
variable {cc : ByteArray} {own : String} {nL : Nat} {A : Nat → Prop} {D : va_G} {cl : List vw_C} {tys : List (ClassId × FieldType)} {Ts : List Cond} {b0 : Nat → Nat} {ad0 : List Nat} {cT : Nat → ClassId} {n0 : Nat} {v0 : Nat → Int}
variable {sc : String}

def ra_put {α : Type} : List α → List Nat → List α → List α
  | ws, i :: π, x :: w1 => ra_put (ws.set i x) π w1
  | ws, [], _ => ws
  | ws, _ :: _, [] => ws
theorem ra_put_len {α : Type} : ∀ {π : List Nat} {ws w1 : List α}, (ra_put ws π w1).length = ws.length
  | [], _, _ => by simp [ra_put]
  | _ :: _, _, [] => by simp [ra_put]
  | i :: π, ws, x :: w1 => by
    unfold ra_put
    rw [ra_put_len]
    simp
theorem ra_put_get {α : Type} : ∀ {π : List Nat} {ws w1 : List α}, π.length ≤ w1.length → ∀ {j : Nat} {x : α}, (ra_put ws π w1)[j]? = some x → (∃ k : Nat, π[k]? = some j ∧ w1[k]? = some x) ∨ (j ∉ π ∧ ws[j]? = some x)
  | [], ws, w1, _, j, x, h => Or.inr ⟨by simp, by simpa [ra_put] using h⟩
  | _ :: _, _, [], hl, _, _, _ => by simp at hl
  | i :: π, ws, y :: w1, hl, j, x, h => by
    unfold ra_put at h
    rcases ra_put_get (by simpa using hl) h with ⟨k, h1, h2⟩ | ⟨h1, h2⟩
    · exact Or.inl ⟨k + 1, by simpa using h1, by simpa using h2⟩
    · rw [List.getElem?_set] at h2
      split at h2
      · rename_i hij
        subst hij
        split at h2
        · cases h2
          exact Or.inl ⟨0, by simp, by simp⟩
        · cases h2
      · rename_i hij
        exact Or.inr ⟨fun hm => by rcases List.mem_cons.mp hm with q | q; exact hij q.symm; exact h1 q, h2⟩
theorem ra_put_fst {α : Type} : ∀ {π : List Nat} {ws w1 : List (Nat × α)}, (∀ (k j : Nat) (x : Nat × α), π[k]? = some j → w1[k]? = some x → ∃ q, ws[j]? = some q ∧ x.1 = q.1) → (ra_put ws π w1).map Prod.fst = ws.map Prod.fst
  | [], ws, w1, _ => by simp [ra_put]
  | _ :: _, _, [], _ => by simp [ra_put]
  | i :: π, ws, y :: w1, h => by
    unfold ra_put
    obtain ⟨q, h1, h2⟩ := h 0 i y (by simp) (by simp)
    have e : (ws.set i y).map Prod.fst = ws.map Prod.fst := by
      apply List.ext_getElem?
      intro j
      rw [List.getElem?_map, List.getElem?_map, List.getElem?_set]
      split
      · rename_i hj
        subst hj
        rw [if_pos (List.getElem?_eq_some_iff.mp h1).1, h1]
        simp [h2]
      · rfl
    rw [ra_put_fst (fun k j x hk hx => ?_), e]
    obtain ⟨q', g1, g2⟩ := h (k + 1) j x (by simpa using hk) (by simpa using hx)
    have e2 : ((ws.set i y).map Prod.fst)[j]? = (ws.map Prod.fst)[j]? := by rw [e]
    rw [List.getElem?_map, List.getElem?_map, g1] at e2
    cases hw : (ws.set i y)[j]? with
    | none => rw [hw] at e2; cases e2
    | some q2 =>
      rw [hw] at e2
      have e3 : q2.1 = q'.1 := by simpa using e2
      exact ⟨q2, rfl, by rw [e3]; exact g2⟩
def ra_nd : List Nat → Bool
  | [] => true
  | i :: is => !is.contains i && ra_nd is
theorem ra_nd_ok : ∀ {π : List Nat}, ra_nd π = true → ∀ {i j k : Nat}, π[i]? = some k → π[j]? = some k → i = j
  | [], _, i, j, k, h, _ => by simp at h
  | a :: π, h, i, j, k, hi, hj => by
    simp only [ra_nd, Bool.and_eq_true] at h
    have hna : a ∉ π := by
      intro hm
      have : π.contains a = true := List.contains_iff_mem.mpr hm
      rw [this] at h
      exact absurd h.1 (by decide)
    cases i with
    | zero =>
      cases j with
      | zero => rfl
      | succ j =>
        simp at hi hj
        subst hi
        exact absurd (List.mem_of_getElem? hj) hna
    | succ i =>
      cases j with
      | zero =>
        simp at hi hj
        subst hj
        exact absurd (List.mem_of_getElem? hi) hna
      | succ j =>
        simp at hi hj
        rw [ra_nd_ok h.2 hi hj]
/-- the caller's world behind a call, in its own order, what was made behind it -/
theorem ra_join {ws wc w1 : va_W} {H H1 : Heap} {π : List Nat} (hP : va_P D cl ws H) (hD : va_D A ws) (hnd : ra_nd π = true) (hl : π.length = wc.length) (hc : ∀ (k j : Nat), π[k]? = some j → ∃ q, ws[j]? = some q ∧ wc[k]? = some q)
    (had : ∀ (k : Nat) (q : Nat × va_E), wc[k]? = some q → ∃ q', w1[k]? = some q' ∧ q'.1 = q.1) (hk : ∀ q : Nat, q < H.size → ¬ va_A wc H.size q → H1[q]? = H[q]?) (hF : ∀ q, va_A wc H.size q → A q) (hP1 : va_P D cl w1 H1) (hD1 : va_D (va_A wc H.size) w1) :
    va_P D cl (ra_put ws π w1 ++ w1.drop π.length) H1 ∧ va_D A (ra_put ws π w1 ++ w1.drop π.length) ∧ (ra_put ws π w1).map Prod.fst = ws.map Prod.fst := by
  have hle : π.length ≤ w1.length := by
    rcases Nat.lt_or_ge w1.length π.length with q | q
    · have h1 : w1.length < wc.length := by omega
      obtain ⟨q', h2, -⟩ := had w1.length wc[w1.length] (List.getElem?_eq_getElem h1)
      simp at h2
    · exact q
  have hfst : (ra_put ws π w1).map Prod.fst = ws.map Prod.fst := by
    refine ra_put_fst (fun k j x h1 h2 => ?_)
    obtain ⟨q, g1, g2⟩ := hc k j h1
    obtain ⟨q', g3, g4⟩ := had k q g2
    rw [h2] at g3
    cases g3
    exact ⟨q, g1, g4⟩
  have hfst' : ∀ (j : Nat) (x : Nat × va_E), (ra_put ws π w1)[j]? = some x → ∃ q, ws[j]? = some q ∧ q.1 = x.1 := by
    intro j x hx
    have : ((ra_put ws π w1).map Prod.fst)[j]? = (ws.map Prod.fst)[j]? := by rw [hfst]
    rw [List.getElem?_map, List.getElem?_map, hx] at this
    cases hw : ws[j]? with
    | none => rw [hw] at this; cases this
    | some q => rw [hw] at this; exact ⟨q, rfl, by simpa using this.symm⟩
  have split2 : ∀ (j : Nat) (x : Nat × va_E), (ra_put ws π w1 ++ w1.drop π.length)[j]? = some x → (j < ws.length ∧ (ra_put ws π w1)[j]? = some x) ∨ (ws.length ≤ j ∧ w1[π.length + (j - ws.length)]? = some x) := by
    intro j x hx
    rcases Nat.lt_or_ge j ws.length with q | q
    · rw [List.getElem?_append_left (by rw [ra_put_len]; exact q)] at hx
      exact Or.inl ⟨q, hx⟩
    · rw [List.getElem?_append_right (by rw [ra_put_len]; exact q), ra_put_len, List.getElem?_drop] at hx
      exact Or.inr ⟨q, hx⟩
  have newA : ∀ (k : Nat) (x : Nat × va_E), π.length ≤ k → w1[k]? = some x → H.size ≤ x.1 := by
    intro k x hk1 hx
    rcases hD1.2 k x hx with ⟨k2, e2, h2⟩ | h2
    · obtain ⟨q', h3, h4⟩ := had k2 _ h2
      have := hD1.1 k k2 x q' hx h3 h4.symm
      have hl2 := (List.getElem?_eq_some_iff.mp h2).1
      omega
    · exact h2
  refine ⟨fun j x hx => ?_, ⟨fun i j x y hx hy hxy => ?_, fun j x hx => ?_⟩, hfst⟩
  · rcases split2 j x hx with ⟨h1, h2⟩ | ⟨h1, h2⟩
    · rcases ra_put_get hle h2 with ⟨k, g1, g2⟩ | ⟨g1, g2⟩
      · exact hP1 k x g2
      · have hat := hP j x g2
        refine hat.kept (hk x.1 hat.lt (fun hA => ?_))
        rcases hA with ⟨k2, e2, h3⟩ | h3
        · have hl2 := (List.getElem?_eq_some_iff.mp h3).1
          have hp : π[k2]? = some π[k2] := List.getElem?_eq_getElem (by omega)
          obtain ⟨q, q1, q2⟩ := hc k2 _ hp
          rw [h3] at q2
          cases q2
          have := hD.1 j _ x _ g2 q1 rfl
          rw [this] at g1
          exact g1 (List.mem_of_getElem? hp)
        · have := hat.lt
          omega
    · exact hP1 _ x h2
  · rcases split2 i x hx with ⟨h1, h2⟩ | ⟨h1, h2⟩
    · obtain ⟨q, q1, q2⟩ := hfst' i x h2
      have hlt := (hP i q q1).lt
      rcases split2 j y hy with ⟨h3, h4⟩ | ⟨h3, h4⟩
      · obtain ⟨q', q3, q4⟩ := hfst' j y h4
        exact hD.1 i j q q' q1 q3 (by rw [q2, q4, hxy])
      · have := newA _ y (by omega) h4
        omega
    · have n1 := newA _ x (by omega) h2
      rcases split2 j y hy with ⟨h3, h4⟩ | ⟨h3, h4⟩
      · obtain ⟨q', q3, q4⟩ := hfst' j y h4
        have hlt := (hP j q' q3).lt
        omega
      · have := hD1.1 _ _ x y h2 h4 hxy
        omega
  · rcases split2 j x hx with ⟨h1, h2⟩ | ⟨h1, h2⟩
    · obtain ⟨q, q1, q2⟩ := hfst' j x h2
      rw [← q2]
      exact hD.2 j q q1
    · exact hF _ (hD1.2 _ x h2)
/-- what a method gives back: its answer and its world are those of one of some states -/
abbrev ra_P : Type := ra_N × List ra_V × List ra_C
def ra_pv (b0 : Nat → Nat) (cT : Nat → ClassId) (v : Nat → Int) (np : Nat) (posts : List ra_P) (ws : va_W) (r : Option Value) (w1 : va_W) : Prop :=
  (∃ q ∈ posts, ∃ v' : Nat → Int, (∀ i, i < np → v' i = v i) ∧ ra_cN v' q.1 ∧ ra_a2 (ra_cV q.1.length v' (w1.map Prod.fst) b0) q.2.1 r.toList ∧ ra_a2 (fun (c : ra_C) (x : Nat × va_E) => ra_cC q.1.length v' (w1.map Prod.fst) b0 cT c x.2) q.2.2 w1) ∧ ∀ (k : Nat) (x : Nat × va_E), ws[k]? = some x → ∃ x', w1[k]? = some x' ∧ x'.1 = x.1
def ra_Qc (D : va_G) (cl : List vw_C) (tys : List (ClassId × FieldType)) (pv : Option Value → va_W → Prop) (ws : va_W) (sz : Nat) : Array Value → State → Outcome → State → Prop := fun _ st oc t =>
  (∃ (r : Option Value) (w1 : va_W), oc = .returned r ∧ pv r w1 ∧ va_P D cl w1 t.heap ∧ va_K D cl tys t ∧ va_D (va_A ws sz) w1) ∧ va_F (va_A ws sz) st t
def ra_Ex (sc : String) (nw : List (String × Nat × MethodName × String)) (U : State) : Prop := va_AO sc U ∧ ∀ q ∈ nw, va_Nw (.methodLinkNest q.1 q.2.1 q.2.2.1 q.2.2.2) U
theorem ra_Ex_warm {nw : List (String × Nat × MethodName × String)} {U : State} (h : ra_Ex sc nw s) (hW : s.WarmedH U.vm) : ra_Ex sc nw U := ⟨va_AO.moved hW.alike h.1, fun q hq => va_Nw.warmM hW (h.2 q hq)⟩
def ra_Pc (sc : String) (nw : List (String × Nat × MethodName × String)) (D : va_G) (cl : List vw_C) (tys : List (ClassId × FieldType)) (av : List Value) (ws : va_W) (sz : Nat) : Array Value → State → Prop := va_Pc av (fun U => U.heap.size = sz ∧ va_P D cl ws U.heap ∧ va_K D cl tys U ∧ va_D (fun _ => True) ws ∧ ra_Ex sc nw U)
theorem ra_blind {nw : List (String × Nat × MethodName × String)} {av : List Value} {ws : va_W} {sz : Nat} : FrameBlind (ra_Pc sc nw D cl tys av ws sz) := fun a U g mk q => by
  obtain ⟨q0, q1, qP, qK, qD, qE⟩ := q
  exact ⟨q0, q1, qP, va_K.moved (u := U) (U := U.calling g mk a) (Vm.Alike.refl U.vm) qK, qD, va_AO.moved (u := U) (U := U.calling g mk a) (Vm.Alike.refl U.vm) qE.1, fun z hz => va_Nw.same (u := U) (U := U.calling g mk a) rfl rfl (qE.2 z hz)⟩
theorem ra_callG {pv : Option Value → va_W → Prop} {wc : va_W} {H : Heap} {locs : List Loc} {ce sl mc ms pc : Nat} {ls : Array Slot} {st0 rest : List Value} {a : Array Value} {free : Addr → Prop} (hr : va_Run p l e R s m args below meth c H locs ce sl mc ms (F0 m pc ls st0) rest (ra_Qc D cl tys pv wc H.size a) free) (hS : va_S A s.heap H locs) (hA : ∀ q, va_A wc H.size q → A q) (hf : ∀ q, free q → A q)
    (kk : ∀ (r : Option Value) (w1 : va_W) (H1 : Heap) (locs1 : List Loc), pv r w1 → va_P D cl w1 H1 → va_D (va_A wc H.size) w1 → (∀ q : Nat, q < H.size → ¬ va_A wc H.size q → H1[q]? = H[q]?) → va_S A s.heap H1 locs1 → W p l e R s m args below meth c H1 locs1 (ce + mc) (sl + ms) Q (F0 m (pc + 3) ls (r.toList ++ rest))) : W p l e R s m args below meth c H locs ce sl Q (F0 m pc ls st0) := by
  intro T hT X
  obtain ⟨v, st₀, t, T', L, h0, X', hL, e1, e2, ⟨⟨r, w1, hv, hp, hb, hK, hD⟩, hz, hk⟩, st⟩ := hr T hT X
  cases hv
  rw [h0] at hz hk
  obtain ⟨t2, a1, b1⟩ := kk v w1 T'.heap (locs ++ L) hp (by rw [e1]; exact hb) hD (fun q h1 h2 => by rw [e1]; exact hk q h1 h2)
    ⟨Nat.le_trans hS.1 (by rw [e1]; exact hz), fun q h1 h2 => by rw [e1, hk q (Nat.lt_of_lt_of_le h1 hS.1) (fun z => h2 (hA q z))]; exact hS.2.1 q h1 h2, fun q hq => by
      rcases List.mem_append.mp hq with h | h
      · exact hS.2.2 q h
      · exact hf _ (hL q h)⟩ T' rfl X'
  exact ⟨t2, st t2 a1, b1⟩
end
end
section
/-! calls by contract -/
section
variable {p : Program} {l : Launch} {e : Env} {R : Room} {s : State} {m : MethodId} {args : Array Value} {below : List Frame} {meth : Method} {c : Code} {Q : State → Prop}
variable {cc : ByteArray} {own : String} {nL : Nat} {A : Nat → Prop} {D : va_G} {cl : List vw_C} {tys : List (ClassId × FieldType)} {Ts : List Cond} {b0 : Nat → Nat} {ad0 : List Nat} {cT : Nat → ClassId} {n0 : Nat} {v0 : Nat → Int}
variable {sc : String}
variable {nw : List (String × Nat × MethodName × String)}
/-- a method: name, bytes, room of its frame, what it answers, how many it takes, its receiver's number -/
abbrev ra_M : Type := MethodName × ByteArray × Nat × Option FieldType × Nat × Nat
/-- a contract: method, bounds, arguments, world, what comes back, cells, slots, frames, room of frames -/
abbrev ra_K : Type := Nat × ra_N × List ra_V × List ra_C × List ra_P × Nat × Nat × Nat × Nat
def ra_rm (k : ra_K) : Room := { frames := k.2.2.2.2.2.2.2.1, cells := k.2.2.2.2.2.1, slots := k.2.2.2.2.2.2.1, locals := k.2.2.2.2.2.2.2.2 }
def ra_Hk (l : Launch) (sc : String) (nw : List (String × Nat × MethodName × String)) (Ts : List Cond) (MT : List ra_M) (D : va_G) (cl : List vw_C) (cT : Nat → ClassId) (k : ra_K) : Prop :=
  ∀ mm : ra_M, MT[k.1]? = some mm → ∀ (b0 : Nat → Nat) (v : Nat → Int) (av : List Value) (ws : va_W) (sz : Nat), ra_cN v k.2.1 → ra_a2 (ra_cV k.2.1.length v (ws.map Prod.fst) b0) k.2.2.1 av → ra_a2 (fun (c : ra_C) (x : Nat × va_E) => ra_cC k.2.1.length v (ws.map Prod.fst) b0 cT c x.2) k.2.2.2.1 ws →
    Met l mm.1 (Cond.code mm.1 mm.2.1 mm.2.2.1 mm.2.2.2.1 :: Ts) (ra_rm k) (ra_Pc sc nw D cl (ra_T sc cT) av ws sz) (ra_Qc D cl (ra_T sc cT) (ra_pv b0 cT v k.2.1.length k.2.2.2.2.1 ws) ws sz) k.2.2.2.2.2.1 k.2.2.2.2.2.2.1 (va_A ws sz)
def ra_okM (Ts : List Cond) (own : String) (cl : List vw_C) (nw : List (String × Nat × MethodName × String)) (MT : List ra_M) (ml : List (Nat × Nat × Nat)) : Prop := ∀ e ∈ ml, ∃ mm : ra_M, MT[e.2.1]? = some mm ∧ Cond.code mm.1 mm.2.1 mm.2.2.1 mm.2.2.2.1 ∈ Ts ∧ Cond.initialized mm.1.cls ∈ Ts ∧ (mm.1.cls ≠ "java/lang/invoke/MethodHandle" ∧ mm.1.cls ≠ "java/lang/invoke/VarHandle" ∧ (parseMethodDescriptor mm.1.desc).map (fun d => d.parameters.length) = some mm.2.2.2.2.1) ∧
  ((e.2.2 = 0 ∧ Cond.methodLink own e.1 mm.1 ∈ Ts ∧ Cond.instanceMethod mm.1 ∈ Ts ∧ Cond.selects mm.1.cls mm.1 mm.1 ∈ Ts ∧ ∃ r : vw_C, cl[mm.2.2.2.2.2]? = some r ∧ r.1 = mm.1.cls) ∨
   (e.2.2 = 1 ∧ Cond.methodLink own e.1 mm.1 ∈ Ts ∧ Cond.static mm.1 ∈ Ts) ∨
   (e.2.2 = 2 ∧ Cond.methodLink own e.1 mm.1 ∈ Ts ∧ Cond.instanceMethod mm.1 ∈ Ts ∧ mm.1.name = "<init>" ∧ mm.2.2.2.1 = none) ∨
   (e.2.2 = 3 ∧ (∃ host, (own, e.1, mm.1, host) ∈ nw) ∧ Cond.instanceMethod mm.1 ∈ Ts ∧ mm.1.name = "<init>" ∧ mm.2.2.2.1 = none))
def ra_up (n : Nat) : Nat → List (Nat × Int)
  | 0 => []
  | k + 1 => (n, 0) :: ra_up (n + 1) k
theorem ra_up_len : ∀ {k n : Nat}, (ra_up n k).length = k
  | 0, _ => rfl
  | k + 1, n => by simp [ra_up, ra_up_len]
theorem ra_up_get : ∀ {k n i : Nat}, i < k → (ra_up n k)[i]? = some (n + i, 0)
  | 0, _, _, h => by omega
  | k + 1, n, 0, _ => by simp [ra_up]
  | k + 1, n, i + 1, h => by
    have := ra_up_get (k := k) (n := n + 1) (i := i) (by omega)
    simp only [ra_up, List.getElem?_cons_succ]
    rw [this, show n + 1 + i = n + (i + 1) by omega]
def ra_upn (n : Nat) : Nat → List Nat
  | 0 => []
  | k + 1 => n :: ra_upn (n + 1) k
theorem ra_upn_get : ∀ {k n i : Nat}, i < k → (ra_upn n k)[i]? = some (n + i)
  | 0, _, _, h => by omega
  | k + 1, n, 0, _ => by simp [ra_upn]
  | k + 1, n, i + 1, h => by
    have := ra_upn_get (k := k) (n := n + 1) (i := i) (by omega)
    simp only [ra_upn, List.getElem?_cons_succ]
    rw [this, show n + 1 + i = n + (i + 1) by omega]
theorem ra_a2_put {α β : Type} {R : α → β → Prop} : ∀ {π : List Nat} {as xs : List α} {bs ys : List β}, ra_a2 R as bs → ra_a2 R xs ys → ra_a2 R (ra_put as π xs) (ra_put bs π ys)
  | [], _, _, _, _, h, _ => by simpa [ra_put] using h
  | _ :: _, _, [], _, [], h, _ => by simpa [ra_put] using h
  | i :: π, as, x :: xs, bs, y :: ys, h, h2 => by
    unfold ra_put
    exact ra_a2_put (ra_a2_set h i h2.1) h2.2
  | _ :: _, _, [], _, _ :: _, _, h2 => h2.elim
  | _ :: _, _, _ :: _, _, [], _, h2 => h2.elim
theorem ra_a2_drop {α β : Type} {R : α → β → Prop} : ∀ (n : Nat) {as : List α} {bs : List β}, ra_a2 R as bs → ra_a2 R (as.drop n) (bs.drop n)
  | 0, _, _, h => by simpa using h
  | n + 1, [], [], _ => trivial
  | n + 1, _ :: _, _ :: _, h => by simpa using ra_a2_drop n h.2
  | _ + 1, [], _ :: _, h => h.elim
  | _ + 1, _ :: _, [], h => h.elim
theorem ra_a2_take {α β : Type} {R : α → β → Prop} : ∀ (n : Nat) {as : List α} {bs : List β}, ra_a2 R as bs → ra_a2 R (as.take n) (bs.take n)
  | 0, _, _, _ => by simp; trivial
  | n + 1, [], [], _ => trivial
  | n + 1, _ :: _, _ :: _, h => ⟨h.1, ra_a2_take n h.2⟩
  | _ + 1, [], _ :: _, h => h.elim
  | _ + 1, _ :: _, [], h => h.elim
theorem ra_a2_rev {α β : Type} {R : α → β → Prop} : ∀ {as : List α} {bs : List β}, ra_a2 R as bs → ra_a2 R as.reverse bs.reverse
  | [], [], _ => trivial
  | a :: as, b :: bs, h => by
    rw [List.reverse_cons, List.reverse_cons]
    exact ra_a2_app (ra_a2_rev h.2) ⟨h.1, trivial⟩
  | [], _ :: _, h => h.elim
  | _ :: _, [], h => h.elim
/-- the state behind a call that gives back such an end -/
def ra_aft (env : ra_N) (lv : List (Nat × ra_V)) (rest : List ra_V) (aw : List ra_C) (ce sl pc : Nat) (μ : List (Nat × Int)) (π : List Nat) (om : List ra_V) (q : ra_P) : List (Nat × ra_S) := match ra_meets env μ q.1 with
  | none => []
  | some e1 =>
    let μ2 := μ ++ ra_up env.length (q.1.length - μ.length)
    let π2 := π ++ ra_upn aw.length (q.2.2.length - π.length)
    let w := q.2.2.map (ra_trC μ2 (π2, om))
    [(pc + 3, (e1 ++ q.1.drop μ.length, lv, q.2.1.map (ra_tr μ2 (π2, om)) ++ rest, ra_put aw π w ++ w.drop π.length, ce, sl))]
theorem ra_om_ok {n n' : Nat} {v : Nat → Int} {ads ads' : List Nat} {om : List ra_V} {μ : List (Nat × Int)} {π : List Nat} (h : ra_wok ads.length om = true) (hext : ∀ (i r : Nat), ads[i]? = some r → ads'[i]? = some r) (k : Nat) (hk : 2 ≤ k) : ra_cV n' v ads' b0 (ra_tr μ (π, om) (.inr (.inr k))) (.ref (ra_bI b0 ads om k)) := by
  obtain ⟨k, rfl⟩ : ∃ z, k = z + 2 := ⟨k - 2, by omega⟩
  cases hw : om[k + 2]? with
  | none =>
    simp only [ra_tr, ra_bI, hw]
    exact Or.inr (Or.inr ⟨by omega, rfl⟩)
  | some w =>
    have hm := List.all_eq_true.mp h w (List.mem_of_getElem? hw)
    rcases w with q | i | j
    · simp only [ra_tr, ra_bI, hw]
      exact Or.inr (Or.inr ⟨by omega, rfl⟩)
    · have hi : i < ads.length := Nat.le_of_ble_eq_true hm
      have hr : ads[i]? = some ads[i] := List.getElem?_eq_getElem hi
      simp only [ra_tr, ra_bI, hw, hr]
      exact ⟨_, hext _ _ hr, rfl⟩
    · simp only [ra_tr, ra_bI, hw]
      exact Or.inr (Or.inr ⟨Nat.le_of_ble_eq_true hm, rfl⟩)
theorem ra_aft_ok {v vc : Nat → Int} {env : ra_N} {lv : List (Nat × ra_V)} {st rest : List ra_V} {aw : List ra_C} {ce0 sl0 ce sl pc : Nat} {μ : List (Nat × Int)} {π : List Nat} {om : List ra_V} {q : ra_P} {lvv : List (Nat × Value)} {stv restv : List Value} {ws w1 : va_W} {rv : List Value}
    (hg : ra_g b0 ad0 cT v (env, lv, st, aw, ce0, sl0) lvv stv ws) (hr : ra_a2 (ra_cV env.length v (ws.map Prod.fst) b0) rest restv) (hμ : ∀ (i : Nat) (r : Nat × Int), μ[i]? = some r → r.1 < env.length) (hn : μ.length ≤ q.1.length)
    (hv : ∀ i, i < μ.length → vc i = ra_vI v μ i) (hN : ra_cN vc q.1) (hom : ra_wok aw.length om = true) (hrv : ra_a2 (ra_cV q.1.length vc (w1.map Prod.fst) (ra_bI b0 (ws.map Prod.fst) om)) q.2.1 rv) (hw : ra_a2 (fun (c : ra_C) (x : Nat × va_E) => ra_cC q.1.length vc (w1.map Prod.fst) (ra_bI b0 (ws.map Prod.fst) om) cT c x.2) q.2.2 w1)
    (hπ : ∀ (k : Nat) (x : Nat × va_E), k < π.length → w1[k]? = some x → ∃ (j : Nat) (y : Nat × va_E), π[k]? = some j ∧ ws[j]? = some y ∧ y.1 = x.1) (hfst : (ra_put ws π w1).map Prod.fst = ws.map Prod.fst) (hpl : π.length ≤ w1.length) :
    ∃ x ∈ ra_aft env lv rest aw ce sl pc μ π om q, x.1 = pc + 3 ∧ x.2.2.2.2.2.1 = ce ∧ x.2.2.2.2.2.2 = sl ∧ env.length ≤ x.2.1.length ∧ ∃ v' : Nat → Int, (∀ i, i < env.length → v' i = v i) ∧ ra_g b0 ad0 cT v' x.2 lvv (rv ++ restv) (ra_put ws π w1 ++ w1.drop π.length) := by
  have hN0 := hg.1
  dsimp only at hN0
  obtain ⟨e1, m1, m2, m3⟩ := ra_meets_ok (v := v) (μ := μ) (es := q.1) hN0 (fun i r z hr hz => by
    have hi : i < μ.length := (List.getElem?_eq_some_iff.mp hr).1
    have h1 := hN.2.2 i z hz
    have h2 : ra_vI v μ i = v r.1 + r.2 := by simp [ra_vI, hr]
    rw [hv i hi, h2] at h1
    exact ⟨hμ i r hr, h1⟩)
  have hwl : q.2.2.length = w1.length := ra_a2_len hw
  obtain ⟨μ2, eμ⟩ : ∃ z, z = μ ++ ra_up env.length (q.1.length - μ.length) := ⟨_, rfl⟩
  obtain ⟨π2, eπ⟩ : ∃ z, z = π ++ ra_upn aw.length (q.2.2.length - π.length) := ⟨_, rfl⟩
  let v' : Nat → Int := fun i => if i < env.length then v i else vc (i - env.length + μ.length)
  have hv' : ∀ i, i < env.length → v' i = v i := fun i hi => if_pos hi
  have hl2 : (e1 ++ q.1.drop μ.length).length = env.length + (q.1.length - μ.length) := by rw [List.length_append, List.length_drop, m3]
  have hN2 : ra_cN v' (e1 ++ q.1.drop μ.length) := by
    refine ⟨by rw [hl2]; have := hN0.1; omega, by rw [hv' 0 hN0.1]; exact hN0.2.1, fun i z hz => ?_⟩
    rcases Nat.lt_or_ge i env.length with h | h
    · rw [List.getElem?_append_left (by omega)] at hz
      rw [hv' i h]
      exact m2.2.2 i z hz
    · rw [List.getElem?_append_right (by omega), List.getElem?_drop, m3] at hz
      have := hN.2.2 _ z hz
      have e : v' i = vc (i - env.length + μ.length) := if_neg (by omega)
      rw [e, show i - env.length + μ.length = μ.length + (i - env.length) by omega]
      exact this
  have hlμ : μ2.length = q.1.length := by rw [eμ, List.length_append, ra_up_len]; omega
  have hμ2 : ∀ (i : Nat) (r : Nat × Int), μ2[i]? = some r → r.1 < (e1 ++ q.1.drop μ.length).length ∧ vc i = v' r.1 + r.2 := by
    intro i r hr
    have hi : i < μ2.length := (List.getElem?_eq_some_iff.mp hr).1
    rw [eμ] at hr
    rw [hl2]
    rcases Nat.lt_or_ge i μ.length with h | h
    · rw [List.getElem?_append_left h] at hr
      have h1 := hμ i r hr
      refine ⟨by omega, ?_⟩
      rw [hv i h, hv' _ h1]
      simp [ra_vI, hr]
    · rw [List.getElem?_append_right h, ra_up_get (by omega)] at hr
      cases hr
      refine ⟨by dsimp only; omega, ?_⟩
      have e : v' (env.length + (i - μ.length)) = vc (env.length + (i - μ.length) - env.length + μ.length) := if_neg (by omega)
      dsimp only
      rw [e, show env.length + (i - μ.length) - env.length + μ.length = i by omega]
      omega
  have hads : (ra_put ws π w1 ++ w1.drop π.length).map Prod.fst = ws.map Prod.fst ++ (w1.drop π.length).map Prod.fst := by rw [List.map_append, hfst]
  have hawl : aw.length = ws.length := ra_a2_len hg.2.2.2.1
  have hπ2 : ∀ (i r : Nat), (w1.map Prod.fst)[i]? = some r → ∃ j, π2[i]? = some j ∧ ((ra_put ws π w1 ++ w1.drop π.length).map Prod.fst)[j]? = some r := by
    intro i r hr
    rw [List.getElem?_map] at hr
    cases hx : w1[i]? with
    | none => rw [hx] at hr; cases hr
    | some x =>
      rw [hx] at hr
      have hr : x.1 = r := by simpa using hr
      have hil : i < w1.length := (List.getElem?_eq_some_iff.mp hx).1
      rw [hads, eπ]
      rcases Nat.lt_or_ge i π.length with h | h
      · obtain ⟨j, y, h1, h2, h3⟩ := hπ i x h hx
        refine ⟨j, by rw [List.getElem?_append_left h]; exact h1, ?_⟩
        rw [List.getElem?_append_left (by rw [List.length_map]; exact (List.getElem?_eq_some_iff.mp h2).1), List.getElem?_map, h2]
        simp [h3, hr]
      · refine ⟨aw.length + (i - π.length), by rw [List.getElem?_append_right h, ra_upn_get (by omega)], ?_⟩
        rw [List.getElem?_append_right (by rw [List.length_map]; omega), List.length_map, List.getElem?_map, List.getElem?_drop, show π.length + (aw.length + (i - π.length) - ws.length) = i by omega, hx]
        simp [hr]
  have hext : ∀ (i r : Nat), (ws.map Prod.fst)[i]? = some r → ((ra_put ws π w1 ++ w1.drop π.length).map Prod.fst)[i]? = some r := by
    intro i r hr
    rw [hads, List.getElem?_append_left (List.getElem?_eq_some_iff.mp hr).1]
    exact hr
  have hω := fun k (hk : 2 ≤ k) => ra_om_ok (n := 0) (n' := (e1 ++ q.1.drop μ.length).length) (v := v') (μ := μ2) (π := π2) (b0 := b0) (ads := ws.map Prod.fst) (by rw [List.length_map, ← hawl]; exact hom) hext k hk
  have hnn : env.length ≤ (e1 ++ q.1.drop μ.length).length := by omega
  refine ⟨_, by unfold ra_aft; rw [m1]; exact List.mem_singleton.mpr rfl, rfl, rfl, rfl, hnn, v', hv', hN2, ?_, ?_, ?_, fun k r hk => hext k r (hg.2.2.2.2 k r hk)⟩
  · exact ra_a2_mono (fun a b z => ⟨z.1, ra_cV_ext hnn hv' hext z.2⟩) hg.2.1
  · dsimp only
    rw [← eμ, ← eπ]
    refine ra_a2_app (ra_a2_map (R := ra_cV q.1.length vc (w1.map Prod.fst) (ra_bI b0 (ws.map Prod.fst) om)) (fun a b z => ?_) hrv) (ra_a2_mono (fun a b z => ra_cV_ext hnn hv' hext z) hr)
    rw [← hlμ] at z
    exact ra_tr_ok (π := (π2, om)) hμ2 hπ2 hω z
  · dsimp only
    rw [← eμ, ← eπ]
    have hmap : ra_a2 (fun (c : ra_C) (x : Nat × va_E) => ra_cC (e1 ++ q.1.drop μ.length).length v' ((ra_put ws π w1 ++ w1.drop π.length).map Prod.fst) b0 cT c x.2) (q.2.2.map (ra_trC μ2 (π2, om))) w1 := by
      refine ra_a2_map (R := fun (c : ra_C) (x : Nat × va_E) => ra_cC q.1.length vc (w1.map Prod.fst) (ra_bI b0 (ws.map Prod.fst) om) cT c x.2) (fun a b z => ?_) hw
      rw [← hlμ] at z
      exact ra_trC_ok (π := (π2, om)) hμ2 hπ2 hω z
    exact ra_a2_app (ra_a2_put (ra_a2_mono (fun a b z => ra_cC_ext hnn hv' hext z) hg.2.2.2.1) hmap) (ra_a2_drop _ hmap)
end
end
section
/-! the call itself -/
section
variable {p : Program} {l : Launch} {e : Env} {R : Room} {s : State} {m : MethodId} {args : Array Value} {below : List Frame} {meth : Method} {c : Code} {Q : State → Prop}
variable {cc : ByteArray} {own : String} {nL : Nat} {A : Nat → Prop} {D : va_G} {cl : List vw_C} {tys : List (ClassId × FieldType)} {Ts : List Cond} {b0 : Nat → Nat} {ad0 : List Nat} {cT : Nat → ClassId} {n0 : Nat} {v0 : Nat → Int}
variable {sc : String}
variable {nw : List (String × Nat × MethodName × String)}
def ra_pick {α : Type} (aw : List α) : List Nat → Option (List α)
  | [] => some []
  | i :: π => match aw[i]? with
    | none => none
    | some c => match ra_pick aw π with
      | none => none
      | some cs => some (c :: cs)
theorem ra_pick_a2 {α β : Type} {R : α → β → Prop} {aw : List α} {ws : List β} (h : ra_a2 R aw ws) : ∀ {π : List Nat} {cs : List α}, ra_pick aw π = some cs → ∃ wc, ra_pick ws π = some wc ∧ ra_a2 R cs wc
  | [], cs, h1 => by
    simp [ra_pick] at h1
    subst h1
    exact ⟨[], rfl, trivial⟩
  | i :: π, cs, h1 => by
    unfold ra_pick at h1
    split at h1
    · cases h1
    · rename_i c hc
      split at h1
      · cases h1
      · rename_i cs' hcs
        cases h1
        obtain ⟨b, g1, g2⟩ := ra_a2_get h hc
        obtain ⟨wc, g3, g4⟩ := ra_pick_a2 h hcs
        exact ⟨b :: wc, by simp [ra_pick, g1, g3], g2, g4⟩
theorem ra_pick_get {α : Type} {aw : List α} : ∀ {π : List Nat} {cs : List α}, ra_pick aw π = some cs → π.length = cs.length ∧ ∀ (k j : Nat), π[k]? = some j → ∃ c, aw[j]? = some c ∧ cs[k]? = some c
  | [], cs, h1 => by
    simp [ra_pick] at h1
    subst h1
    exact ⟨rfl, fun k j h => by simp at h⟩
  | i :: π, cs, h1 => by
    unfold ra_pick at h1
    split at h1
    · cases h1
    · rename_i c hc
      split at h1
      · cases h1
      · rename_i cs' hcs
        cases h1
        have ih := ra_pick_get hcs
        refine ⟨by simp [ih.1], fun k j hk => ?_⟩
        cases k with
        | zero =>
          simp at hk
          subst hk
          exact ⟨c, hc, by simp⟩
        | succ k =>
          simp at hk
          obtain ⟨c', g1, g2⟩ := ih.2 k j hk
          exact ⟨c', g1, by simpa using g2⟩
def ra_rcv (ci kd : Nat) (aw : List ra_C) (as : List ra_V) : Bool := match kd with
  | 1 => true
  | 0 => match as with
    | .inr (.inl i) :: _ => match aw[i]? with
      | some (.inl o) => o.1 == ci
      | _ => false
    | _ => false
  | _ => match as with
    | .inr (.inl _) :: _ => true
    | _ => false
theorem ra_rcv0 {ci : Nat} {aw : List ra_C} {as : List ra_V} (h : ra_rcv ci 0 aw as = true) : ∃ (i : Nat) (as' : List ra_V) (o : Nat × List ra_V), as = .inr (.inl i) :: as' ∧ aw[i]? = some (.inl o) ∧ o.1 = ci := by
  rcases as with _ | ⟨q | i | k, as'⟩
  · cases h
  · cases h
  · cases ho : aw[i]? with
    | none => simp [ra_rcv, ho] at h
    | some o =>
      rcases o with o | o
      · simp [ra_rcv, ho] at h
        exact ⟨i, as', o, rfl, ho, h⟩
      · simp [ra_rcv, ho] at h
  · cases h
theorem ra_rcv2 {ci kd : Nat} {aw : List ra_C} {as : List ra_V} (hk : 2 ≤ kd) (h : ra_rcv ci kd aw as = true) : ∃ (i : Nat) (as' : List ra_V), as = .inr (.inl i) :: as' := by
  obtain ⟨k, rfl⟩ : ∃ k, kd = k + 2 := ⟨kd - 2, by omega⟩
  rcases as with _ | ⟨q | i | k, as'⟩
  · cases h
  · cases h
  · exact ⟨i, as', rfl⟩
  · cases h
def ra_inv (MT : List ra_M) (ml : List (Nat × Nat × Nat)) (K : List ra_K) (RC RS RF RL kd j n pc ki : Nat) (μ : List (Nat × Int)) (π : List Nat) (om : List ra_V) (a : ra_S) : Option (List (Nat × ra_S)) := match a with
  | (env, lv, st, aw, ce, sl) => match K[ki]? with
    | none => none
    | some k => match MT[k.1]? with
      | none => none
      | some mm => match ra_ff ml j with
        | none => none
        | some r => match ra_pick aw π with
          | none => none
          | some cs =>
            let na := if kd = 1 then mm.2.2.2.2.1 else mm.2.2.2.2.1 + 1
            ra_gd (n == 3 && (r.1 == k.1 && (r.2 == kd && (Nat.ble na st.length && (Nat.ble (ra_cats (st.drop na)) 8 && (ra_m0 μ && (ra_mok env μ k.2.1 && (ra_b2 (ra_en env μ (π, om)) (st.take na).reverse k.2.2.1 && (ra_nd π && (ra_b2 (ra_enC env μ (π, om)) cs k.2.2.2.1 && (Nat.ble (k.2.2.2.2.2.2.2.1 + 1) RF && (Nat.ble (8 + (mm.2.2.1 + 11) + k.2.2.2.2.2.2.2.2) RL && (Nat.ble (ce + k.2.2.2.2.2.1) RC && (Nat.ble (sl + k.2.2.2.2.2.2.1) RS && (k.2.2.2.2.1.all (fun q => Nat.ble k.2.1.length q.1.length) && (ra_wok aw.length om && ra_rcv mm.2.2.2.2.2 kd aw (st.take na).reverse))))))))))))))))
              (some (k.2.2.2.2.1.flatMap (ra_aft env lv (st.drop na) aw (ce + k.2.2.2.2.2.1) (sl + k.2.2.2.2.2.2.1) pc μ π om)))
def ra_ik (kd j : Nat) : Instr := match kd with
  | 0 => .invokevirtual j
  | 1 => .invokestatic j
  | _ => .invokespecial j
set_option maxHeartbeats 4000000 in
theorem ra_inv_ok {MT : List ra_M} {ml : List (Nat × Nat × Nat)} {K : List ra_K} {RC RS RF RL kd j n pc ki : Nat} {μ : List (Nat × Int)} {π : List Nat} {om : List ra_V} {a : ra_S} {out : List (Nat × ra_S)} (h : ra_inv MT ml K RC RS RF RL kd j n pc ki μ π om a = some out) (X : ra_X p s m args c cc own nL A D cl (ra_T sc cT) Ts) (hE : ra_Ex sc nw s) (hG : ∀ w ∈ Ts, goodWord w = true) (hM : ra_okM Ts own cl nw MT ml) (hK : ∀ k ∈ K, ra_Hk l sc nw Ts MT D cl cT k) (hRC : RC ≤ R.cells) (hRS : RS ≤ R.slots) (hRF : RF ≤ R.frames) (hRL : RL ≤ R.locals)
    (hdg : decode cc pc = .ok (ra_ik kd j, n)) (hs : ∀ x ∈ out, ra_ok p l e R s m args below meth c Q nL A D cl b0 ad0 cT n0 v0 x) : ra_ok p l e R s m args below meth c Q nL A D cl b0 ad0 cT n0 v0 (pc, a) := by
  obtain ⟨env, lv, st, aw, ce, sl⟩ := a
  intro hn v lvv stv ws hg hv
  have hst := hg.2.2.1
  have hN := hg.1
  dsimp only at hn hst hN
  obtain ⟨hx, hb, hml, hown, hts, hKK, hA⟩ := id X
  unfold ra_inv at h
  dsimp only at h
  split at h
  · cases h
  · rename_i k hk
    split at h
    · cases h
    · rename_i mm hmm
      split at h
      · cases h
      · rename_i r hr
        split at h
        · cases h
        · rename_i cs hcs
          have hq1 := ra_gd_ok h; clear h; obtain ⟨h2, h⟩ := hq1
          obtain ⟨na, ena⟩ : ∃ z, z = (if kd = 1 then mm.2.2.2.2.1 else mm.2.2.2.2.1 + 1) := ⟨_, rfl⟩
          rw [← ena] at h h2
          simp only [Bool.and_eq_true, beq_iff_eq] at h2
          obtain ⟨c1, c2, c3, c4, c5, c6, c7, c8, c9, c10, c11, c12, c13, c14, c15, c17, c16⟩ := h2
          have c4 := Nat.le_of_ble_eq_true c4
          have c5 := Nat.le_of_ble_eq_true c5
          have c11 := Nat.le_of_ble_eq_true c11
          have c12 := Nat.le_of_ble_eq_true c12
          have c13 := Nat.le_of_ble_eq_true c13
          have c14 := Nat.le_of_ble_eq_true c14
          cases h
          subst c1
          obtain ⟨mm', M1, M2, M3, M4, M5⟩ := hM _ (ra_ff_mem hr)
          dsimp only at M1 M5
          have : mm' = mm := by
            rw [c2, hmm] at M1
            exact (Option.some.inj M1).symm
          subst this
          have hμl := ra_mok_len c7
          have hμ : ∀ (i : Nat) (r : Nat × Int), μ[i]? = some r → r.1 < env.length := fun i r hr => (ra_mok_get hN c7 hr).1
          obtain ⟨wc, w1, w2⟩ := ra_pick_a2 hg.2.2.2.1 hcs
          obtain ⟨p1, p2⟩ := ra_pick_get w1
          have hads : ∀ (i j r : Nat), π[i]? = some j → (ws.map Prod.fst)[j]? = some r → (wc.map Prod.fst)[i]? = some r := by
            intro i j r h1 h2
            obtain ⟨q, q1, q2⟩ := p2 i j h1
            rw [List.getElem?_map, q1] at h2
            rw [List.getElem?_map, q2]
            exact h2
          have hst1 := ra_a2_rev (ra_a2_take na hst)
          have hst2 := ra_a2_drop na hst
          have hargs : ra_a2 (ra_cV k.2.1.length (ra_vI v μ) (wc.map Prod.fst) (ra_bI b0 (ws.map Prod.fst) om)) k.2.2.1 (stv.take na).reverse := by
            rw [← hμl]
            exact ra_b2_ok (R := ra_cV env.length v (ws.map Prod.fst) b0) (R' := ra_cV μ.length (ra_vI v μ) (wc.map Prod.fst) (ra_bI b0 (ws.map Prod.fst) om)) (fun a b c q1 q2 => ra_en_ok (π := (π, om)) hN hads q1 q2) c8 hst1
          have hwor : ra_a2 (fun (c : ra_C) (x : Nat × va_E) => ra_cC k.2.1.length (ra_vI v μ) (wc.map Prod.fst) (ra_bI b0 (ws.map Prod.fst) om) cT c x.2) k.2.2.2.1 wc := by
            rw [← hμl]
            exact ra_b2_ok (R := fun (c : ra_C) (x : Nat × va_E) => ra_cC env.length v (ws.map Prod.fst) b0 cT c x.2) (R' := fun (c : ra_C) (x : Nat × va_E) => ra_cC μ.length (ra_vI v μ) (wc.map Prod.fst) (ra_bI b0 (ws.map Prod.fst) om) cT c x.2) (fun a b c q1 q2 => ra_enC_ok (π := (π, om)) hN hads q1 q2) c10 w2
          have hNI := ra_cN_map hN c6 c7
          intro H locs ls hP hD hS hl
          have hMet := hK k (List.mem_of_getElem? hk) mm' hmm (ra_bI b0 (ws.map Prod.fst) om) (ra_vI v μ) (stv.take na).reverse wc H.size hNI hargs hwor
          have hfree : ∀ q, va_A wc H.size q → A q := va_free hD hS hA π (by
            apply List.ext_getElem?
            intro i
            rw [List.getElem?_map, List.getElem?_map]
            cases hi : π[i]? with
            | none =>
              have : wc[i]? = none := by
                rw [List.getElem?_eq_none_iff] at hi ⊢
                omega
              rw [this]
              rfl
            | some j =>
              obtain ⟨q, q1, q2⟩ := p2 i j hi
              rw [q2]
              simp [q1])
          have hPwc : va_P D cl wc H := fun i q hq => by
            have hi : i < π.length := by rw [p1]; exact (List.getElem?_eq_some_iff.mp hq).1
            obtain ⟨q', q1, q2⟩ := p2 i _ (List.getElem?_eq_getElem hi)
            rw [hq] at q2
            cases q2
            exact hP _ _ q1
          have hDwc : va_D (fun _ => True) wc := by
            refine ⟨fun i j x y hx hy hxy => ?_, fun _ _ _ => trivial⟩
            have hi : i < π.length := by rw [p1]; exact (List.getElem?_eq_some_iff.mp hx).1
            have hj : j < π.length := by rw [p1]; exact (List.getElem?_eq_some_iff.mp hy).1
            obtain ⟨q, q1, q2⟩ := p2 i _ (List.getElem?_eq_getElem hi)
            obtain ⟨q', q3, q4⟩ := p2 j _ (List.getElem?_eq_getElem hj)
            rw [hx] at q2
            rw [hy] at q4
            cases q2
            cases q4
            have e0 := hD.1 _ _ x y q1 q3 hxy
            exact ra_nd_ok c9 (List.getElem?_eq_getElem hi) (by rw [e0]; exact List.getElem?_eq_getElem hj)
          have hPre : ∀ U : State, U.heap = H → s.WarmedH U.vm → ra_Pc sc nw D cl (ra_T sc cT) (stv.take na).reverse wc H.size (stv.take na).reverse.toArray U := fun U hU hW => ⟨rfl, by rw [hU], by rw [hU]; exact hPwc, va_K.moved hW.alike hKK, hDwc, ra_Ex_warm hE hW⟩
          have hlen : stv.length = st.length := (ra_a2_len hst).symm
          have htl : (stv.take na).length = na := by rw [List.length_take]; omega
          have hsplit : stv = (stv.take na).reverse.reverse ++ stv.drop na := by rw [List.reverse_reverse, List.take_append_drop]
          have hrest : 2 * (F0 m pc ls stv).monitorRoom + ((stv.drop na).map fun v => v.category).sum ≤ 8 := lv_room (by rw [ra_cats_ok hst2]; exact c5)
          have hGood : GoodIn Ts (Cond.code mm'.1 mm'.2.1 mm'.2.2.1 mm'.2.2.2.1 :: Ts) := fun w hw => by
            have hm : w ∈ Ts := by
              rcases List.mem_cons.mp hw with q | q
              · rw [q]; exact M2
              · exact q
            exact ⟨hm, good_of_word (hG w hm)⟩
          have hroom : (ra_rm k).frames + 1 ≤ R.frames ∧ 8 + (mm'.2.2.1 + 11) + (ra_rm k).locals ≤ R.locals := ⟨Nat.le_trans c11 hRF, Nat.le_trans c12 hRL⟩
          have hcel : ce + k.2.2.2.2.2.1 ≤ R.cells ∧ sl + k.2.2.2.2.2.2.1 ≤ R.slots := ⟨Nat.le_trans c13 hRC, Nat.le_trans c14 hRS⟩
          have hrun : va_Run p l e R s m args below meth c H locs ce sl k.2.2.2.2.2.1 k.2.2.2.2.2.2.1 (F0 m pc ls stv) (stv.drop na) (ra_Qc D cl (ra_T sc cT) (ra_pv (ra_bI b0 (ws.map Prod.fst) om) cT (ra_vI v μ) k.2.1.length k.2.2.2.2.1 wc) wc H.size (stv.take na).reverse.toArray) (va_A wc H.size) := by
            rcases M5 with ⟨d0, d1, d2, d3, rc, d4, d5⟩ | ⟨d0, d1, d2⟩ | ⟨d0, d1, d2, d3, d4⟩ | ⟨d0, ⟨host, d1⟩, d2, d3, d4⟩
            · rw [c3] at d0
              subst d0
              have ena : na = mm'.2.2.2.2.1 + 1 := ena
              have hcb := callB_of (R := R) (rm := ra_rm k) (own := own) (index := j) mm'.2.2.2.2.1 hts hGood rfl rfl rfl (hts _ M3) (hts _ d1) M4 hroom
              obtain ⟨as, eas⟩ : ∃ z, z = (stv.take na).reverse := ⟨_, rfl⟩
              rw [← eas] at hMet hPre hsplit hst1 ⊢
              have has : as.length = na := by rw [eas, List.length_reverse, htl]
              obtain ⟨i, as', o, e1, ho, c16⟩ := ra_rcv0 c16
              rw [e1] at hst1
              obtain ⟨x0, As, rfl, g2, g4⟩ := ra_a2_cons hst1
              obtain ⟨qr, u1, rfl, u2⟩ := ra_cell hg ho g2
              obtain ⟨fs, f1, -⟩ := u2
              have hrc := va_recv (a := qr.1) (q0 := i) (ci := mm'.2.2.2.2.2) (fs := fs) hKK hP d4 (by rw [u1, ← c16, ← f1])
              rw [d5] at hrc
              exact va_runV (As := As) (C := mm'.1.cls) ⟨hx, hb, hml, hown, hts⟩ hMet ⟨hcb, hts _ d2, hts _ d3⟩ ⟨ra_blind, hrc, hPre⟩ rfl (by simp at has; omega) hl.1 (by rw [List.reverse_cons, List.append_assoc] at hsplit; exact hsplit) hrest hdg hcel
            · rw [c3] at d0
              subst d0
              have ena : na = mm'.2.2.2.2.1 := ena
              have hcb := callB_of (R := R) (rm := ra_rm k) (own := own) (index := j) mm'.2.2.2.2.1 hts hGood rfl rfl rfl (hts _ M3) (hts _ d1) M4 hroom
              exact va_runS (As := (stv.take na).reverse) ⟨hx, hb, hml, hown, hts⟩ hMet ⟨hcb, hts _ d2⟩ ⟨ra_blind, hPre⟩ rfl (by rw [List.length_reverse, htl, ena]) hl.1 hsplit hrest hdg hcel
            · rw [c3] at d0
              subst d0
              have ena : na = mm'.2.2.2.2.1 + 1 := ena
              have hcb := callB_of (R := R) (rm := ra_rm k) (own := own) (index := j) mm'.2.2.2.2.1 hts hGood rfl rfl rfl (hts _ M3) (hts _ d1) M4 hroom
              obtain ⟨as, eas⟩ : ∃ z, z = (stv.take na).reverse := ⟨_, rfl⟩
              rw [← eas] at hMet hPre hsplit hst1 ⊢
              have has : as.length = na := by rw [eas, List.length_reverse, htl]
              obtain ⟨i, as', e1⟩ := ra_rcv2 (by decide) c16
              rw [e1] at hst1
              obtain ⟨x0, As, rfl, g2, g4⟩ := ra_a2_cons hst1
              obtain ⟨qr, u1, rfl⟩ := g2
              rw [d4] at hcb hMet
              exact va_runI (As := As) ⟨hx, hb, hml, hown, hts⟩ hMet ⟨hcb, d3, hts _ d2⟩ ⟨ra_blind, hPre⟩ rfl (by simp at has; omega) hl.1 (by rw [List.reverse_cons, List.append_assoc] at hsplit; exact hsplit) hrest hdg hcel
            · rw [c3] at d0
              subst d0
              have ena : na = mm'.2.2.2.2.1 + 1 := ena
              have hcb := va_cnB (R := R) (rm := ra_rm k) (own := own) (index := j) (host := host) mm'.2.2.2.2.1 hts hGood rfl rfl rfl (hE.2 _ d1) (hts _ M3) M4 hroom
              obtain ⟨as, eas⟩ : ∃ z, z = (stv.take na).reverse := ⟨_, rfl⟩
              rw [← eas] at hMet hPre hsplit hst1 ⊢
              have has : as.length = na := by rw [eas, List.length_reverse, htl]
              obtain ⟨i, as', e1⟩ := ra_rcv2 (by decide) c16
              rw [e1] at hst1
              obtain ⟨x0, As, rfl, g2, g4⟩ := ra_a2_cons hst1
              obtain ⟨qr, u1, rfl⟩ := g2
              rw [d4] at hcb hMet
              exact va_runIN (As := As) ⟨hx, hb, hml, hown, hts⟩ hMet ⟨hcb, d3, hts _ d2⟩ ⟨ra_blind, hPre⟩ rfl (by simp at has; omega) hl.1 (by rw [List.reverse_cons, List.append_assoc] at hsplit; exact hsplit) hrest hdg hcel
          refine ra_callG hrun hS hfree hfree (fun rv wn H1 locs1 hpv hP1 hD1 hk1 hS1 => ?_)
          obtain ⟨⟨q, hq, vc, vc1, vc2, vc3, vc4⟩, hadr⟩ := hpv
          obtain ⟨j1, j2, j3⟩ := ra_join hP hD c9 p1 p2 hadr hk1 hfree hP1 hD1
          have hql : μ.length ≤ q.1.length := by
            rw [hμl]
            exact Nat.le_of_ble_eq_true (List.all_eq_true.mp c15 q hq)
          have hpl : π.length ≤ wn.length := by
            rcases Nat.lt_or_ge wn.length π.length with z | z
            · have h1 : wn.length < wc.length := by omega
              obtain ⟨q', h2, -⟩ := hadr wn.length wc[wn.length] (List.getElem?_eq_getElem h1)
              simp at h2
            · exact z
          obtain ⟨x, hx1, hx2, hx3, hx4, hx5, v', hx6, hx7⟩ := ra_aft_ok (ce := ce + k.2.2.2.2.2.1) (sl := sl + k.2.2.2.2.2.2.1) (pc := pc) hg hst2 hμ hql (fun i hi => vc1 i (by rw [← hμl]; exact hi)) vc2 c17 vc3 vc4 (fun kk x hkk hxk => by
            obtain ⟨y, y1, y2⟩ := p2 kk _ (List.getElem?_eq_getElem hkk)
            obtain ⟨x', x1, x2⟩ := hadr kk y y2
            rw [hxk] at x1
            cases x1
            exact ⟨_, y, List.getElem?_eq_getElem hkk, y1, x2.symm⟩) j3 hpl
          have hfin := hs x (List.mem_flatMap.mpr ⟨q, hq, hx1⟩) (by omega) v' _ _ _ hx7 (fun i hi => by rw [hx6 i (by omega)]; exact hv i hi) H1 locs1 ls j1 j2 hS1 hl
          rw [hx2, hx3, hx4] at hfin
          exact hfin
end
end
section
/-! the other calls; ends; arrivals -/
section
variable {p : Program} {l : Launch} {e : Env} {R : Room} {s : State} {m : MethodId} {args : Array Value} {below : List Frame} {meth : Method} {c : Code} {Q : State → Prop}
variable {cc : ByteArray} {own : String} {nL : Nat} {A : Nat → Prop} {D : va_G} {cl : List vw_C} {tys : List (ClassId × FieldType)} {Ts : List Cond} {b0 : Nat → Nat} {ad0 : List Nat} {cT : Nat → ClassId} {n0 : Nat} {v0 : Nat → Int}
variable {sc : String}
variable {nw : List (String × Nat × MethodName × String)}
def ra_obj (ol : List Nat) (RF RL j n pc : Nat) (a : ra_S) : Option (List (Nat × ra_S)) := match a with
  | (env, lv, st, aw, ce, sl) => ra_gd (n == 3 && ol.contains j) (match st with
    | .inr (.inl _) :: st => ra_gd (Nat.ble 1 RF && (Nat.ble 20 RL && Nat.ble (ra_cats st) 8)) (some [(pc + 3, (env, lv, st, aw, ce, sl))])
    | _ => none)
def ra_okO (Ts : List Cond) (own : String) (ol : List Nat) : Prop := ∀ j ∈ ol, Cond.methodLink own j Lib.objectInit ∈ Ts ∧ Cond.instanceMethod Lib.objectInit ∈ Ts ∧ Cond.code Lib.objectInit ⟨#[0xb1]⟩ 1 none ∈ Ts
theorem ra_obj_ok {ol : List Nat} {RF RL j n pc : Nat} {a : ra_S} {out : List (Nat × ra_S)} (h : ra_obj ol RF RL j n pc a = some out) (X : ra_X p s m args c cc own nL A D cl (ra_T sc cT) Ts) (hO : ra_okO Ts own ol) (hRF : RF ≤ R.frames) (hRL : RL ≤ R.locals) (hdg : decode cc pc = .ok (.invokespecial j, n)) (hs : ∀ x ∈ out, ra_ok p l e R s m args below meth c Q nL A D cl b0 ad0 cT n0 v0 x) : ra_ok p l e R s m args below meth c Q nL A D cl b0 ad0 cT n0 v0 (pc, a) := by
  obtain ⟨env, lv, st, aw, ce, sl⟩ := a
  intro hn v lvv stv ws hg hv
  have hst := hg.2.2.1
  have hN := hg.1
  dsimp only at hn hst hN
  obtain ⟨hx, hb, hml, hown, hts, hKK, hA⟩ := id X
  unfold ra_obj at h
  dsimp only at h
  have hq0 := ra_gd_ok h; clear h; obtain ⟨h1, h⟩ := hq0
  rw [Bool.and_eq_true, beq_iff_eq, List.contains_iff_mem] at h1
  obtain ⟨h1, hj⟩ := h1
  subst h1
  split at h
  · have hq1 := ra_gd_ok h; clear h; obtain ⟨h2, h⟩ := hq1
    rw [Bool.and_eq_true, Bool.and_eq_true] at h2
    have h3 := Nat.le_of_ble_eq_true h2.1
    have h4 := Nat.le_of_ble_eq_true h2.2.1
    have h5 := Nat.le_of_ble_eq_true h2.2.2
    cases h
    obtain ⟨x0, stv1, rfl, g2, g4⟩ := ra_a2_cons hst
    obtain ⟨r, _, rfl⟩ := g2
    obtain ⟨o1, o2, o3⟩ := hO _ hj
    intro H locs ls hP hD hS hl
    have hcat := ra_cats_ok g4
    have hroom := lv_room (m := m) (pc := pc) (ls := ls) (rest := .ref r :: stv1) (st := stv1) (by rw [hcat]; exact h5)
    refine W.objInit hx hb hown (hts _ o1) (hts _ o2) (hts _ o3) rfl (by rw [hml]; exact hl.1) rfl hdg (Nat.le_trans h3 hRF) (by show 2 * (F0 m pc ls (.ref r :: stv1)).monitorRoom + _ + 12 ≤ _; omega) ?_
    exact hs _ (List.mem_singleton.mpr rfl) hn v _ _ ws (ra_g_st hg g4) hv H locs ls hP hD hS hl
  · cases h
def ra_cpy (al : List Nat) (RF RL j n pc : Nat) (a : ra_S) : Option (List (Nat × ra_S)) := match a with
  | (env, lv, st, aw, ce, sl) => ra_gd (n == 3 && al.contains j) (match st with
    | .inl qn :: .inl qd :: .inr (.inl d) :: .inl qs :: .inr (.inl sr) :: st => match aw[sr]? with
      | none => none
      | some src => match aw[d]? with
        | none => none
        | some dst => match ra_cpd env src dst qs qd qn with
          | none => none
          | some out => ra_gd (Nat.ble 1 RF && Nat.ble (ra_cats st + (nativeFrameWords "java/lang/System" "arraycopy" 5 + 11)) RL) (some [(pc + 3, (env, lv, st, aw.set d out, ce, sl))])
    | _ => none)
def ra_okY (Ts : List Cond) (own : String) (al : List Nat) : Prop := ∀ j ∈ al, Cond.methodLink own j arraycopyName ∈ Ts ∧ Cond.native arraycopyName ∈ Ts ∧ Cond.static arraycopyName ∈ Ts ∧ Cond.initialized "java/lang/System" ∈ Ts
theorem ra_cpy_ok {al : List Nat} {RF RL j n pc : Nat} {a : ra_S} {out : List (Nat × ra_S)} (h : ra_cpy al RF RL j n pc a = some out) (X : ra_X p s m args c cc own nL A D cl (ra_T sc cT) Ts) (hY : ra_okY Ts own al) (hRF : RF ≤ R.frames) (hRL : RL ≤ R.locals) (hdg : decode cc pc = .ok (.invokestatic j, n)) (hs : ∀ x ∈ out, ra_ok p l e R s m args below meth c Q nL A D cl b0 ad0 cT n0 v0 x) : ra_ok p l e R s m args below meth c Q nL A D cl b0 ad0 cT n0 v0 (pc, a) := by
  obtain ⟨env, lv, st, aw, ce, sl⟩ := a
  intro hn v lvv stv ws hg hv
  have hst := hg.2.2.1
  have hN := hg.1
  dsimp only at hn hst hN
  obtain ⟨hx, hb, hml, hown, hts, hKK, hA⟩ := id X
  unfold ra_cpy at h
  dsimp only at h
  have hq0 := ra_gd_ok h; clear h; obtain ⟨h1, h⟩ := hq0
  rw [Bool.and_eq_true, beq_iff_eq, List.contains_iff_mem] at h1
  obtain ⟨h1, hj⟩ := h1
  subst h1
  split at h
  · rename_i qn qd d qs sr st1
    split at h
    · cases h
    · rename_i src hsrc
      split at h
      · cases h
      · rename_i dst hdst
        split at h
        · cases h
        · rename_i outc hout
          have hq1 := ra_gd_ok h; clear h; obtain ⟨h2, h⟩ := hq1
          rw [Bool.and_eq_true] at h2
          have h3 := Nat.le_of_ble_eq_true h2.1
          have h4 := Nat.le_of_ble_eq_true h2.2
          cases h
          obtain ⟨x0, stv1, rfl, g2, g4⟩ := ra_a2_cons hst
          obtain ⟨x1, stv2, rfl, g5, g6⟩ := ra_a2_cons g4
          obtain ⟨x2, stv3, rfl, g7, g8⟩ := ra_a2_cons g6
          obtain ⟨x3, stv4, rfl, g9, g10⟩ := ra_a2_cons g8
          obtain ⟨x4, stv5, rfl, g11, g12⟩ := ra_a2_cons g10
          obtain ⟨k1, n, rfl, k2⟩ := g2
          obtain ⟨k3, dp, rfl, k4⟩ := g5
          obtain ⟨k5, sp, rfl, k6⟩ := g9
          obtain ⟨qd1, u1, rfl, u2⟩ := ra_cell hg hdst g7
          obtain ⟨qs1, w1, rfl, w2⟩ := ra_cell hg hsrc g11
          obtain ⟨f, g, m1, m2, e1, e2, n1, n2, n3, l1, l2, hc⟩ := ra_cpd_ok hN k5 k6 k3 k4 k1 k2 hout w2 u2
          obtain ⟨y1, y2, y3, y4⟩ := hY _ hj
          intro H locs ls hP hD hS hl
          refine va_copyi hx hb (by rw [hml, hl.1]) hown (hts _ y1) (hts _ y2) (hts _ y3) (hts _ y4) hKK hP hD hS sr d 0 0 (f := f) (g := g) (ty := .int) (by rw [w1, ← e1]) (by rw [u1, ← e2]) rfl rfl rfl n1 n2 n3 l1 l2 (fun _ _ => rfl) (Nat.le_trans h3 hRF) (by rw [ra_cats_ok g12]; exact Nat.le_trans h4 hRL) hdg (fun H1 locs1 hP1 hD1 hS1 => ?_)
          exact hs _ (List.mem_singleton.mpr rfl) hn v _ _ _ (ra_g_set hg u1 hc g12) hv H1 locs1 ls hP1 hD1 hS1 hl
  · cases h
/-- greater, less, value without sign -/
def ra_mx (RL pc : Nat) (env : ra_N) (lv : List (Nat × ra_V)) (st : List ra_V) (aw : List ra_C) (ce sl : Nat) : Option (List (Nat × ra_S)) := match st with
  | .inl y :: .inl x :: st => ra_gd (Nat.ble (ra_cats st + 13) RL) (some (ra_bs (pc + 3) (ra_le 1 env x y) lv (.inl y :: st) aw ce sl ++ ra_bs (pc + 3) (ra_le 0 env y x) lv (.inl x :: st) aw ce sl))
  | _ => none
def ra_mn (RL pc : Nat) (env : ra_N) (lv : List (Nat × ra_V)) (st : List ra_V) (aw : List ra_C) (ce sl : Nat) : Option (List (Nat × ra_S)) := match st with
  | .inl y :: .inl x :: st => ra_gd (Nat.ble (ra_cats st + 13) RL) (some (ra_bs (pc + 3) (ra_le 1 env y x) lv (.inl y :: st) aw ce sl ++ ra_bs (pc + 3) (ra_le 0 env x y) lv (.inl x :: st) aw ce sl))
  | _ => none
def ra_ab (RL pc : Nat) (env : ra_N) (lv : List (Nat × ra_V)) (st : List ra_V) (aw : List ra_C) (ce sl : Nat) : Option (List (Nat × ra_S)) := match st with
  | .inl x :: st => ra_gd (Nat.ble (ra_cats st + 13) RL) (let r := ra_sub env (0, 0) x; some (ra_bs (pc + 3) (ra_le 0 env (0, 0) x) lv (.inl x :: st) aw ce sl ++ ra_bs (pc + 3) (ra_le 1 r.1 x (0, 0)) lv (.inl r.2 :: st) aw ce sl))
  | _ => none
def ra_mm (mml : List (Nat × Nat)) (RC RS RF RL j n pc : Nat) (a : ra_S) : Option (List (Nat × ra_S)) := match a with
  | (env, lv, st, aw, ce, sl) => match ra_nf mml j with
    | none => none
    | some k => ra_gd (n == 3 && (Nat.ble 1 RF && (Nat.ble ce RC && Nat.ble sl RS))) (match k with
      | 0 => ra_mx RL pc env lv st aw ce sl
      | 1 => ra_mn RL pc env lv st aw ce sl
      | _ => ra_ab RL pc env lv st aw ce sl)
def ra_okMm (Ts : List Cond) (own : String) (mml : List (Nat × Nat)) : Prop := ∀ e ∈ mml, Cond.initialized "java/lang/Math" ∈ Ts ∧
  ((e.2 = 0 ∧ Cond.methodLink own e.1 Lib.Math.max.name ∈ Ts ∧ Cond.static Lib.Math.max.name ∈ Ts ∧ Cond.code Lib.Math.max.name Lib.Math.max.code 2 (some .int) ∈ Ts) ∨
   (e.2 = 1 ∧ Cond.methodLink own e.1 Lib.Math.min.name ∈ Ts ∧ Cond.static Lib.Math.min.name ∈ Ts ∧ Cond.code Lib.Math.min.name Lib.Math.min.code 2 (some .int) ∈ Ts) ∨
   (e.2 = 2 ∧ Cond.methodLink own e.1 Lib.Math.abs.name ∈ Ts ∧ Cond.static Lib.Math.abs.name ∈ Ts ∧ Cond.code Lib.Math.abs.name Lib.Math.abs.code 1 (some .int) ∈ Ts))
theorem ra_mm_ok {mml : List (Nat × Nat)} {RC RS RF RL j n pc : Nat} {a : ra_S} {out : List (Nat × ra_S)} (h : ra_mm mml RC RS RF RL j n pc a = some out) (X : ra_X p s m args c cc own nL A D cl (ra_T sc cT) Ts) (hM : ra_okMm Ts own mml) (hRC : RC ≤ R.cells) (hRS : RS ≤ R.slots) (hRF : RF ≤ R.frames) (hRL : RL ≤ R.locals) (hdg : decode cc pc = .ok (.invokestatic j, n)) (hs : ∀ x ∈ out, ra_ok p l e R s m args below meth c Q nL A D cl b0 ad0 cT n0 v0 x) : ra_ok p l e R s m args below meth c Q nL A D cl b0 ad0 cT n0 v0 (pc, a) := by
  obtain ⟨env, lv, st, aw, ce, sl⟩ := a
  intro hn v lvv stv ws hg hv
  have hst := hg.2.2.1
  have hN := hg.1
  dsimp only at hn hst hN
  obtain ⟨hx, hb, hml, hown, hts, hKK, hA⟩ := id X
  unfold ra_mm at h
  dsimp only at h
  split at h
  · cases h
  · rename_i k hk
    have hq1 := ra_gd_ok h; clear h; obtain ⟨h2, h⟩ := hq1
    rw [Bool.and_eq_true, Bool.and_eq_true, Bool.and_eq_true, beq_iff_eq] at h2
    obtain ⟨h2, h3, h4, h5⟩ := h2
    have h3 := Nat.le_trans (Nat.le_of_ble_eq_true h3) hRF
    have h4 := Nat.le_trans (Nat.le_of_ble_eq_true h4) hRC
    have h5 := Nat.le_trans (Nat.le_of_ble_eq_true h5) hRS
    subst h2
    obtain ⟨m0, mk⟩ := hM _ (ra_nf_mem hk)
    dsimp only at mk
    rcases mk with ⟨e0, m1, m2, m3⟩ | ⟨e0, m1, m2, m3⟩ | ⟨e0, m1, m2, m3⟩
    · subst e0
      have h : ra_mx RL pc env lv st aw ce sl = some out := h
      unfold ra_mx at h
      split at h
      · have hq2 := ra_gd_ok h; clear h; obtain ⟨h6, h⟩ := hq2
        cases h
        obtain ⟨x0, stv1, rfl, g2, g4⟩ := ra_a2_cons hst
        obtain ⟨x1, stv2, rfl, g5, g6⟩ := ra_a2_cons g4
        have g2' := g2
        have g5' := g5
        obtain ⟨k1, y, rfl, k2⟩ := g2
        obtain ⟨k3, x, rfl, k4⟩ := g5
        intro H locs ls hP hD hS hl
        refine va_mmax hx hb (by rw [hml, hl.1]) hown (hts _ m1) (hts _ m2) (hts _ m0) (hts _ m3) h3 (by rw [ra_cats_ok g6]; exact Nat.le_trans (Nat.le_of_ble_eq_true h6) hRL) h4 h5 hdg ?_
        by_cases hxy : x < y
        · rw [if_pos hxy]
          exact ra_bs_ok hg (ra_a2_mk g2' g6) hn hv (ra_le_ok hN k3 k1 k4 k2 (by have := Int32.lt_iff_toInt_lt.mp hxy; omega)) (fun z hz => hs z (List.mem_append_left _ hz)) H locs ls hP hD hS hl
        · rw [if_neg hxy]
          exact ra_bs_ok hg (ra_a2_mk g5' g6) hn hv (ra_le_ok hN k1 k3 k2 k4 (by have := Int32.le_iff_toInt_le.mp (Int32.not_lt.mp hxy); omega)) (fun z hz => hs z (List.mem_append_right _ hz)) H locs ls hP hD hS hl
      · cases h
    · subst e0
      have h : ra_mn RL pc env lv st aw ce sl = some out := h
      unfold ra_mn at h
      split at h
      · have hq2 := ra_gd_ok h; clear h; obtain ⟨h6, h⟩ := hq2
        cases h
        obtain ⟨x0, stv1, rfl, g2, g4⟩ := ra_a2_cons hst
        obtain ⟨x1, stv2, rfl, g5, g6⟩ := ra_a2_cons g4
        have g2' := g2
        have g5' := g5
        obtain ⟨k1, y, rfl, k2⟩ := g2
        obtain ⟨k3, x, rfl, k4⟩ := g5
        intro H locs ls hP hD hS hl
        refine va_mmin hx hb (by rw [hml, hl.1]) hown (hts _ m1) (hts _ m2) (hts _ m0) (hts _ m3) h3 (by rw [ra_cats_ok g6]; exact Nat.le_trans (Nat.le_of_ble_eq_true h6) hRL) h4 h5 hdg ?_
        by_cases hxy : y < x
        · rw [if_pos hxy]
          exact ra_bs_ok hg (ra_a2_mk g2' g6) hn hv (ra_le_ok hN k1 k3 k2 k4 (by have := Int32.lt_iff_toInt_lt.mp hxy; omega)) (fun z hz => hs z (List.mem_append_left _ hz)) H locs ls hP hD hS hl
        · rw [if_neg hxy]
          exact ra_bs_ok hg (ra_a2_mk g5' g6) hn hv (ra_le_ok hN k3 k1 k4 k2 (by have := Int32.le_iff_toInt_le.mp (Int32.not_lt.mp hxy); omega)) (fun z hz => hs z (List.mem_append_right _ hz)) H locs ls hP hD hS hl
      · cases h
    · subst e0
      have h : ra_ab RL pc env lv st aw ce sl = some out := h
      unfold ra_ab at h
      split at h
      · rename_i qx st1 hh
        have hq2 := ra_gd_ok h; clear h; obtain ⟨h6, h⟩ := hq2
        cases h
        obtain ⟨x0, stv1, rfl, g2, g4⟩ := ra_a2_cons hst
        have g2' := g2
        obtain ⟨k1, x, rfl, k2⟩ := g2
        have e0 : (0 : Int32).toInt = v (0, (0 : Int)).1 + (0, (0 : Int)).2 := by show _ = v 0 + 0; rw [hN.2.1]; rfl
        intro H locs ls hP hD hS hl
        refine va_mabs hx hb (by rw [hml, hl.1]) hown (hts _ m1) (hts _ m2) (hts _ m0) (hts _ m3) h3 (by rw [ra_cats_ok g4]; exact Nat.le_trans (Nat.le_of_ble_eq_true h6) hRL) h4 h5 hdg ?_
        by_cases hxy : 0 ≤ x
        · rw [if_pos hxy]
          exact ra_bs_ok hg (ra_a2_mk g2' g4) hn hv (ra_le_ok (qx := (0, 0)) (x := 0) hN hN.1 k1 e0 k2 (by have := Int32.le_iff_toInt_le.mp hxy; omega)) (fun z hz => hs z (List.mem_append_left _ hz)) H locs ls hP hD hS hl
        · rw [if_neg hxy]
          have hr := ra_sub_ok (qx := (0, 0)) (x := 0) hN hN.1 k1 e0 k2
          obtain ⟨r1, v', r3, r4, r5⟩ := ra_resV (b0 := b0) hr
          have hg' := ra_g_ext (ra_g_st (st' := st1) (stv' := stv1) (ce' := ce) (sl' := sl) hg g4) r1 r3 r4
          have k2' : x.toInt = v' qx.1 + qx.2 := by rw [r3 _ k1]; exact k2
          have e0' : (0 : Int32).toInt = v' (0, (0 : Int)).1 + (0, (0 : Int)).2 := by show _ = v' 0 + 0; rw [r4.2.1]; rfl
          exact ra_bs_ok hg' (ra_a2_mk (r5 _) hg'.2.2.1) (Nat.le_trans hn r1) (fun i hi => by rw [r3 i (by omega)]; exact hv i hi) (ra_le_ok (qy := (0, 0)) (y := 0) r4 (by omega) r4.1 k2' e0' (by have := Int32.lt_iff_toInt_lt.mp (Int32.not_le.mp hxy); omega)) (fun z hz => hs z (List.mem_append_right _ hz)) H locs ls hP hD hS hl
      · cases h
/-- the first n symbols stay -/
def ra_idn : Nat → Nat → List (Nat × Int) → Bool
  | _, 0, _ => true
  | i, k + 1, r :: μ => r.1 == i && (ra_eqb r.2 0 && ra_idn (i + 1) k μ)
  | _, _ + 1, [] => false
theorem ra_idn_ok : ∀ {k i : Nat} {μ : List (Nat × Int)}, ra_idn i k μ = true → ∀ j, j < k → μ[j]? = some (i + j, 0)
  | 0, _, _, _, j, h => by omega
  | k + 1, i, r :: μ, h, j, hj => by
    simp only [ra_idn, Bool.and_eq_true, beq_iff_eq] at h
    have h2 := ra_eqb_eq h.2.1
    cases j with
    | zero => simp [← h.1, ← h2]
    | succ j =>
      have := ra_idn_ok h.2.2 j (by omega)
      simp only [List.getElem?_cons_succ, this]
      rw [show i + 1 + j = i + (j + 1) by omega]
  | k + 1, _, [], h, _, _ => by simp [ra_idn] at h
/-- ends: what is answered by which instruction -/
def ra_rok (rt : Option FieldType) (i : Instr) (env : ra_N) (st : List ra_V) : Bool := match i with
  | .return_ => rt == none && st.isEmpty
  | .ireturn => match st with
    | [.inl q] => rt == some .int || (rt == some .boolean && (ra_leb 0 (ra_rg env q).1 && ra_leb (ra_rg env q).2 1))
    | _ => false
  | .lreturn => match st with
    | [.inr (.inr k)] => k == 1 && rt == some .long
    | _ => false
  | .areturn => match st with
    | [.inr (.inl _)] => match rt with
      | some (.object _) => true
      | some (.array _) => true
      | _ => false
    | _ => false
  | _ => false
def ra_rv (rt : Option FieldType) (i : Instr) (st : List Value) (r : Option Value) : Prop :=
  (rt = none ∧ i = .return_ ∧ st = [] ∧ r = none) ∨ (∃ y : Int32, rt = some .int ∧ i = .ireturn ∧ st = [.int y] ∧ r = some (.int y)) ∨ (∃ y : Int32, rt = some .boolean ∧ i = .ireturn ∧ st = [.int y] ∧ (y = 0 ∨ y = 1) ∧ r = some (.int y)) ∨ (∃ y : Int64, rt = some .long ∧ i = .lreturn ∧ st = [.long y] ∧ r = some (.long y)) ∨ (∃ (ty : FieldType) (a : Nat), rt = some ty ∧ ((∃ n, ty = .object n) ∨ ∃ t, ty = .array t) ∧ i = .areturn ∧ st = [.ref a] ∧ r = some (.ref a))
theorem ra_rok_ok {rt : Option FieldType} {i : Instr} {env : ra_N} {st : List ra_V} (h : ra_rok rt i env st = true) {v : Nat → Int} {ads : List Nat} (hN : ra_cN v env) {stv : List Value} (hc : ra_a2 (ra_cV env.length v ads b0) st stv) : ∃ r : Option Value, ra_rv rt i stv r ∧ r.toList = stv := by
  unfold ra_rok at h
  split at h
  · rw [Bool.and_eq_true, beq_iff_eq] at h
    cases st with
    | nil =>
      cases stv with
      | nil => exact ⟨none, Or.inl ⟨h.1, rfl, rfl, rfl⟩, rfl⟩
      | cons x stv => exact hc.elim
    | cons a st => simp at h
  · split at h
    · rename_i q
      obtain ⟨x, stv', rfl, g1, g2⟩ := ra_a2_cons hc
      cases stv' with
      | cons y stv => exact g2.elim
      | nil =>
        obtain ⟨_, y, rfl, k2⟩ := g1
        rw [Bool.or_eq_true] at h
        rcases h with h | h
        · rw [beq_iff_eq] at h
          exact ⟨some (.int y), Or.inr (Or.inl ⟨y, h, rfl, rfl, rfl⟩), rfl⟩
        · rw [Bool.and_eq_true, Bool.and_eq_true, beq_iff_eq] at h
          have h1 := ra_rg_ok hN k2
          have h2 := ra_leb_le h.2.1
          have h3 := ra_leb_le h.2.2
          exact ⟨some (.int y), Or.inr (Or.inr (Or.inl ⟨y, h.1, rfl, rfl, ra_01 (by omega) (by omega), rfl⟩)), rfl⟩
    · cases h
  · split at h
    · rename_i k
      rw [Bool.and_eq_true, beq_iff_eq, beq_iff_eq] at h
      obtain ⟨h1, h2⟩ := h
      subst h1
      obtain ⟨x, stv', rfl, g1, g2⟩ := ra_a2_cons hc
      cases stv' with
      | cons y stv => exact g2.elim
      | nil =>
        obtain ⟨y, rfl⟩ := ra_longV g1
        exact ⟨some (.long y), Or.inr (Or.inr (Or.inr (Or.inl ⟨y, h2, rfl, rfl, rfl⟩))), rfl⟩
    · cases h
  · split at h
    · obtain ⟨x, stv', rfl, g1, g2⟩ := ra_a2_cons hc
      cases stv' with
      | cons y stv => exact g2.elim
      | nil =>
        obtain ⟨r, _, rfl⟩ := g1
        split at h
        · exact ⟨some (.ref r), Or.inr (Or.inr (Or.inr (Or.inr ⟨_, r, rfl, Or.inl ⟨_, rfl⟩, rfl, rfl, rfl⟩))), rfl⟩
        · exact ⟨some (.ref r), Or.inr (Or.inr (Or.inr (Or.inr ⟨_, r, rfl, Or.inr ⟨_, rfl⟩, rfl, rfl, rfl⟩))), rfl⟩
        · cases h
    · cases h
  · cases h
theorem ra_id_ok {n : Nat} {ads : List Nat} (i j r : Nat) (h1 : ((ra_upn 0 n, []) : ra_Pi).1[i]? = some j) (h2 : ads[j]? = some r) : ads[i]? = some r := by
  have hi : i < n := by
    have key : ∀ (k m : Nat), (ra_upn m k).length = k := by
      intro k
      induction k with
      | zero => intro m; rfl
      | succ k ih => intro m; simp [ra_upn, ih]
    have := (List.getElem?_eq_some_iff.mp h1).1
    rw [key] at this
    exact this
  have h1 : (ra_upn 0 n)[i]? = some j := h1
  rw [ra_upn_get hi] at h1
  cases h1
  rw [Nat.zero_add] at h2
  exact h2
theorem ra_en_id {n : Nat} {env : ra_N} {v : Nat → Int} {μ : List (Nat × Int)} {ads : List Nat} (hN : ra_cN v env) {a' a : ra_V} {x : Value} (h : ra_en env μ (ra_upn 0 n, []) a' a = true) (hc : ra_cV env.length v ads b0 a' x) : ra_cV μ.length (ra_vI v μ) ads b0 a x := by
  have := ra_en_ok (π := (ra_upn 0 n, [])) hN ra_id_ok h hc
  rw [ra_bI_nil] at this
  exact this
theorem ra_enC_id {n : Nat} {env : ra_N} {v : Nat → Int} {μ : List (Nat × Int)} {ads : List Nat} (hN : ra_cN v env) {a' a : ra_C} {x : va_E} (h : ra_enC env μ (ra_upn 0 n, []) a' a = true) (hc : ra_cC env.length v ads b0 cT a' x) : ra_cC μ.length (ra_vI v μ) ads b0 cT a x := by
  have := ra_enC_ok (π := (ra_upn 0 n, [])) hN ra_id_ok h hc
  rw [ra_bI_nil] at this
  exact this
/-- an end is one of those told -/
def ra_ret (hs0 : Bool) (rt : Option FieldType) (np : Nat) (posts : List ra_P) (mc ms : Nat) (i : Instr) (n : Nat) (ki : Nat) (μ : List (Nat × Int)) (a : ra_S) : Bool := match a with
  | (env, _, st, aw, ce, sl) => match hs0 with
    | true => n == 1 && (Nat.ble ce mc && (Nat.ble sl ms && (match i with
      | .ireturn => match st with
        | [.inl q] => ra_leb 1 (ra_rg env q).1 && ra_leb (ra_rg env q).2 1
        | _ => false
      | _ => false)))
    | false => match posts[ki]? with
    | none => false
    | some q => n == 1 && (ce == mc && (sl == ms && (ra_rok rt i env st && (ra_m0 μ && (ra_idn 0 np μ && (ra_mok env μ q.1 && (ra_b2 (ra_en env μ (ra_upn 0 aw.length, [])) st q.2.1 && ra_b2 (ra_enC env μ (ra_upn 0 aw.length, [])) aw q.2.2)))))))
theorem ra_ret_ok {rt : Option FieldType} {np : Nat} {posts : List ra_P} {mc ms : Nat} {i : Instr} {n pc ki : Nat} {μ : List (Nat × Int)} {a : ra_S} {vE : Nat → Int} {ws0 : va_W} (h : ra_ret false rt np posts mc ms i n ki μ a = true) (hE : np ≤ n0) (hEv : ∀ i, i < np → v0 i = vE i) (had : ad0 = ws0.map Prod.fst)
    (hR : ∀ (lv : List (Nat × Value)) (st : List Value) (ws : va_W) (r : Option Value), ra_rv rt i st r → ra_pv b0 cT vE np posts ws0 r ws → ra_W p l e R s m args below meth c Q nL A D cl pc lv st ws mc ms) : n = 1 ∧ ra_ok p l e R s m args below meth c Q nL A D cl b0 ad0 cT n0 v0 (pc, a) := by
  obtain ⟨env, lv, st, aw, ce, sl⟩ := a
  unfold ra_ret at h
  dsimp only at h
  split at h
  · cases h
  · rename_i q hq
    simp only [Bool.and_eq_true, beq_iff_eq] at h
    obtain ⟨c1, c2, c3, c4, c5, c6, c7, c8, c9⟩ := h
    refine ⟨c1, ?_⟩
    intro hn v lvv stv ws hg hv
    have hN := hg.1
    have hst := hg.2.2.1
    dsimp only at hn hN hst
    obtain ⟨r, r1, r2⟩ := ra_rok_ok c4 hN hst
    have hμl := ra_mok_len c7
    show ra_W p l e R s m args below meth c Q nL A D cl pc lvv stv ws ce sl
    rw [c2, c3]
    refine hR lvv stv ws r r1 ⟨⟨q, List.mem_of_getElem? hq, ra_vI v μ, fun i hi => ?_, ra_cN_map hN c5 c7, ?_, ?_⟩, fun k x hx => ?_⟩
    · have := ra_idn_ok c6 i hi
      simp only [ra_vI, this]
      rw [Nat.zero_add, hv i (by omega), hEv i hi]
      omega
    · rw [r2, ← hμl]
      exact ra_b2_ok (R := ra_cV env.length v (ws.map Prod.fst) b0) (R' := ra_cV μ.length (ra_vI v μ) (ws.map Prod.fst) b0) (fun a b c q1 q2 => ra_en_id hN q1 q2) c8 hst
    · rw [← hμl]
      exact ra_b2_ok (R := fun (c : ra_C) (x : Nat × va_E) => ra_cC env.length v (ws.map Prod.fst) b0 cT c x.2) (R' := fun (c : ra_C) (x : Nat × va_E) => ra_cC μ.length (ra_vI v μ) (ws.map Prod.fst) b0 cT c x.2) (fun a b c q1 q2 => ra_enC_id hN q1 q2) c9 hg.2.2.2.1
    · have h1 := hg.2.2.2.2 k x.1 (by rw [had, List.getElem?_map, hx]; rfl)
      rw [List.getElem?_map] at h1
      cases hw : ws[k]? with
      | none => rw [hw] at h1; cases h1
      | some y => rw [hw] at h1; exact ⟨y, rfl, by simpa using h1⟩
theorem ra_retL_ok {rt : Option FieldType} {np : Nat} {posts : List ra_P} {mc ms : Nat} {i : Instr} {n pc ki : Nat} {μ : List (Nat × Int)} {a : ra_S} (h : ra_ret true rt np posts mc ms i n ki μ a = true)
    (hR : i = .ireturn → ∀ (lv : List (Nat × Value)) (ws : va_W) (ce sl : Nat), ce ≤ mc → sl ≤ ms → ra_W p l e R s m args below meth c Q nL A D cl pc lv [.int 1] ws ce sl) : n = 1 ∧ ra_ok p l e R s m args below meth c Q nL A D cl b0 ad0 cT n0 v0 (pc, a) := by
  obtain ⟨env, lv, st, aw, ce, sl⟩ := a
  unfold ra_ret at h
  dsimp only at h
  rw [Bool.and_eq_true, Bool.and_eq_true, Bool.and_eq_true, beq_iff_eq] at h
  obtain ⟨c1, c2, c3, c4⟩ := h
  refine ⟨c1, ?_⟩
  intro hn v lvv stv ws hg hv
  have hN := hg.1
  have hst := hg.2.2.1
  dsimp only at hn hN hst
  split at c4
  · split at c4
    · rw [Bool.and_eq_true] at c4
      have g1 := ra_leb_le c4.1
      have g2 := ra_leb_le c4.2
      obtain ⟨x, stv', rfl, k1, k2⟩ := ra_a2_cons hst
      cases stv' with
      | cons y stv => exact k2.elim
      | nil =>
        obtain ⟨_, y, rfl, k3⟩ := k1
        have hb := ra_rg_ok hN k3
        have hy : y = 1 := Int32.toInt_inj.mp (by show y.toInt = 1; omega)
        subst hy
        exact hR rfl lvv ws ce sl (Nat.le_of_ble_eq_true c2) (Nat.le_of_ble_eq_true c3)
    · cases c4
  · cases c4
/-- a number that is to be known by one value first -/
def ra_spq (spl : Nat) (env : ra_N) (q : Nat × Int) : Option (Nat × Int) := if q.1 = 0 then none else let r := ra_rg env q; match ra_leb (r.1 + 1) r.2 && ra_leb (r.2 - r.1 + 1) spl with
  | true => some q
  | false => none
def ra_spl (spl : Nat) (i : Instr) (a : ra_S) : Option (Nat × Int) := match i with
  | .iaload => match a.2.2.1 with
    | .inl q :: _ :: _ => ra_spq spl a.1 q
    | _ => none
  | .baload => match a.2.2.1 with
    | .inl q :: _ :: _ => ra_spq spl a.1 q
    | _ => none
  | .ishl => match a.2.2.1 with
    | .inl q :: _ :: _ => ra_spq spl a.1 q
    | _ => none
  | .ishr => match a.2.2.1 with
    | .inl q :: _ :: _ => ra_spq spl a.1 q
    | _ => none
  | .iushr => match a.2.2.1 with
    | .inl q :: _ :: _ => ra_spq spl a.1 q
    | _ => none
  | .iastore => match a.2.2.1 with
    | _ :: .inl q :: _ :: _ => ra_spq spl a.1 q
    | _ => none
  | .bastore => match a.2.2.1 with
    | _ :: .inl q :: _ :: _ => ra_spq spl a.1 q
    | _ => none
  | _ => none
theorem ra_spq_eq {spl : Nat} {env : ra_N} {q r : Nat × Int} (h : ra_spq spl env q = some r) : q = r := by
  unfold ra_spq at h
  split at h
  · cases h
  · dsimp only at h
    split at h
    · exact Option.some.inj h
    · cases h
theorem ra_spl_in {spl : Nat} {i : Instr} {a : ra_S} {q : Nat × Int} (h : ra_spl spl i a = some q) : ∃ k : Nat, a.2.2.1[k]? = some (.inl q) := by
  unfold ra_spl at h
  split at h <;> first | (cases h; done) | skip
  all_goals
    split at h
    · rename_i hst
      have e := ra_spq_eq h
      subst e
      rw [hst]
      first | exact ⟨0, rfl⟩ | exact ⟨1, rfl⟩
    · cases h
def ra_sps (pc : Nat) (q : Nat × Int) (a : ra_S) : Nat → Int → List (Nat × ra_S)
  | 0, _ => []
  | n + 1, j => ra_bs pc (ra_cmpT 2 a.1 q (0, j)) a.2.1 a.2.2.1 a.2.2.2.1 a.2.2.2.2.1 a.2.2.2.2.2 ++ ra_sps pc q a n (j + 1)
theorem ra_sps_in {pc : Nat} {q : Nat × Int} {a : ra_S} : ∀ {n : Nat} {j k : Int}, j ≤ k → k < j + n → ∀ x ∈ ra_bs pc (ra_cmpT 2 a.1 q (0, k)) a.2.1 a.2.2.1 a.2.2.2.1 a.2.2.2.2.1 a.2.2.2.2.2, x ∈ ra_sps pc q a n j
  | 0, j, k, h1, h2, _, _ => by omega
  | n + 1, j, k, h1, h2, x, hx => by
    by_cases e : k = j
    · subst e
      exact List.mem_append_left _ hx
    · exact List.mem_append_right _ (ra_sps_in (by omega) (by omega) x hx)
theorem ra_sps_ok {pc : Nat} {q : Nat × Int} {a : ra_S} (hk : ∃ k : Nat, a.2.2.1[k]? = some (.inl q)) (hs : ∀ x ∈ ra_sps pc q a ((ra_rg a.1 q).2 - (ra_rg a.1 q).1 + 1).toNat (ra_rg a.1 q).1, ra_ok p l e R s m args below meth c Q nL A D cl b0 ad0 cT n0 v0 x) : ra_ok p l e R s m args below meth c Q nL A D cl b0 ad0 cT n0 v0 (pc, a) := by
  obtain ⟨env, lv, st, aw, ce, sl⟩ := a
  intro hn v lvv stv ws hg hv
  have hN := hg.1
  have hst := hg.2.2.1
  dsimp only at hn hN hst
  obtain ⟨k, hk⟩ := hk
  obtain ⟨x, h1, h2⟩ := ra_a2_get hst hk
  obtain ⟨k1, y, rfl, k2⟩ := h2
  have hr := ra_rg_ok hN k2
  exact ra_bs_ok hg hst hn hv (ra_cmpT_ok (qy := (0, y.toInt)) (y := y) hN 2 k1 hN.1 k2 (by show _ = v 0 + _; rw [hN.2.1]; omega) rfl) (fun z hz => hs z (ra_sps_in (by dsimp only; omega) (by dsimp only; omega) z hz))
abbrev ra_U : Type := Nat × ra_S × ra_L
def ra_lvb (env : ra_N) (μ : List (Nat × Int)) (π : ra_Pi) (lv : List (Nat × ra_V)) (q : Nat × ra_V) : Bool := match ra_lf lv q.1 with
  | some x => ra_en env μ π x q.2
  | none => false
def ra_neg (ts : List (Nat × Int)) : List (Nat × Int) := ts.map (fun t => (t.1, - t.2))
theorem ra_ev_neg (v : Nat → Int) : ∀ (ts us : List (Nat × Int)) (k j : Int), ra_ev v (ra_neg ts ++ us, k - j) = ra_ev v (us, k) - ra_ev v (ts, j)
  | [], us, k, j => by
    have := ra_ev_add v us k (-j)
    have e : k + -j = k - j := by omega
    rw [e] at this
    simp only [ra_neg, List.map_nil, List.nil_append, this]
    simp [ra_ev]
    omega
  | t :: ts, us, k, j => by
    have ih := ra_ev_neg v ts us k j
    have e1 : ra_ev v (ra_neg (t :: ts) ++ us, k - j) = - t.2 * v t.1 + ra_ev v (ra_neg ts ++ us, k - j) := by simp [ra_ev, ra_neg]
    have e2 : ra_ev v (t :: ts, j) = t.2 * v t.1 + ra_ev v (ts, j) := by simp [ra_ev]
    rw [e1, ih, e2, Int.neg_mul]
    omega
/-- an arrival at a cut, with a smaller rank -/
def ra_arr (np : Nat) (R0 : ra_L) (u : ra_U) (pc : Nat) (μ : List (Nat × Int)) (a : ra_S) : Bool := match a with
  | (env, lv, st, aw, ce, sl) => u.1 == pc && (ce == u.2.1.2.2.2.2.1 && (sl == u.2.1.2.2.2.2.2 && (ra_m0 μ && (ra_idn 0 np μ && (ra_mok env μ u.2.1.1 && (u.2.1.2.1.all (ra_lvb env μ (ra_upn 0 aw.length, []) lv) && (ra_b2 (ra_en env μ (ra_upn 0 aw.length, [])) st u.2.1.2.2.1 && (ra_b2 (ra_enC env μ (ra_upn 0 aw.length, [])) aw u.2.1.2.2.2.1 && (match ra_sub1 μ u.2.2.1 u.2.2.2 with
    | none => false
    | some rn => (match ra_lb env (rn.1.length + 1) rn.1 rn.2 with
      | none => false
      | some b => ra_leb 0 b) && (match ra_lb env (rn.1.length + R0.1.length + 1) (ra_neg rn.1 ++ R0.1) (R0.2 - rn.2) with
      | none => false
      | some b => ra_leb 1 b))))))))))
theorem ra_lvs {env : ra_N} {v : Nat → Int} {μ : List (Nat × Int)} {ads : List Nat} {n : Nat} (hN : ra_cN v env) {lv : List (Nat × ra_V)} {lvv : List (Nat × Value)} (hlv : ra_a2 (fun (p : Nat × ra_V) (q : Nat × Value) => p.1 = q.1 ∧ ra_cV env.length v ads b0 p.2 q.2) lv lvv) : ∀ {lu : List (Nat × ra_V)}, lu.all (ra_lvb env μ (ra_upn 0 n, []) lv) = true → ∃ lvu : List (Nat × Value), ra_a2 (fun (p : Nat × ra_V) (q : Nat × Value) => p.1 = q.1 ∧ ra_cV μ.length (ra_vI v μ) ads b0 p.2 q.2) lu lvu ∧ ∀ q ∈ lvu, q ∈ lvv
  | [], _ => ⟨[], trivial, fun _ h => by cases h⟩
  | q :: lu, h => by
    rw [List.all_cons, Bool.and_eq_true] at h
    obtain ⟨lvu, h1, h2⟩ := ra_lvs hN hlv h.2
    have h3 := h.1
    unfold ra_lvb at h3
    split at h3
    · rename_i x hx
      obtain ⟨k, y, g1, g2⟩ := ra_lf_ok hx hlv
      refine ⟨(q.1, y) :: lvu, ⟨⟨rfl, ra_en_id hN h3 g2⟩, h1⟩, fun z hz => ?_⟩
      rcases List.mem_cons.mp hz with e | e
      · rw [e]
        exact List.mem_of_getElem? g1
      · exact h2 z e
    · cases h3
theorem ra_arr_ok {np : Nat} {R0 : ra_L} {u : ra_U} {pc : Nat} {μ : List (Nat × Int)} {a : ra_S} {vE : Nat → Int} (h : ra_arr np R0 u pc μ a = true) (hE : np ≤ n0) (hEv : ∀ i, i < np → v0 i = vE i) (hR0 : ∀ t ∈ R0.1, t.1 < n0)
    (hC : ∀ (v : Nat → Int) (lv : List (Nat × Value)) (st : List Value) (ws : va_W), ra_g b0 ad0 cT v u.2.1 lv st ws → (∀ i, i < np → v i = vE i) → 0 ≤ ra_ev v u.2.2 → ra_ev v u.2.2 < ra_ev v0 R0 → ra_W p l e R s m args below meth c Q nL A D cl u.1 lv st ws u.2.1.2.2.2.2.1 u.2.1.2.2.2.2.2) : ra_ok p l e R s m args below meth c Q nL A D cl b0 ad0 cT n0 v0 (pc, a) := by
  obtain ⟨env, lv, st, aw, ce, sl⟩ := a
  unfold ra_arr at h
  simp only [Bool.and_eq_true, beq_iff_eq] at h
  obtain ⟨c1, c2, c3, c4, c5, c6, c7, c8, c9, c10⟩ := h
  intro hn v lvv stv ws hg hv
  have hN := hg.1
  have hst := hg.2.2.1
  have hlv := hg.2.1
  dsimp only at hn hN hst hlv
  have hμl := ra_mok_len c6
  split at c10
  · cases c10
  · rename_i rn hrn
    rw [Bool.and_eq_true] at c10
    obtain ⟨d1, d2⟩ := c10
    split at d1
    · cases d1
    · rename_i b1 hb1
      split at d2
      · cases d2
      · rename_i b2 hb2
        have e1 := ra_lb_ok hN _ _ _ _ hb1
        have e2 := ra_lb_ok hN _ _ _ _ hb2
        have e3 := ra_leb_le d1
        have e4 := ra_leb_le d2
        rw [ra_ev_neg] at e2
        have e5 : ra_ev (ra_vI v μ) u.2.2 = ra_ev v rn := ra_sub1_ok (ts := u.2.2.1) (k := u.2.2.2) hrn
        have e6 : ra_ev v R0 = ra_ev v0 R0 := by
          have key : ∀ (ts : List (Nat × Int)) (k : Int), (∀ t ∈ ts, t.1 < n0) → ra_ev v (ts, k) = ra_ev v0 (ts, k) := by
            intro ts k
            induction ts with
            | nil => intro _; rfl
            | cons t ts ih =>
              intro ht
              have := ih (fun x hx => ht x (List.mem_cons_of_mem _ hx))
              simp only [ra_ev, List.foldr_cons] at this ⊢
              rw [this, hv t.1 (ht t List.mem_cons_self)]
          exact key R0.1 R0.2 hR0
        have e7 : ra_ev v (R0.1, R0.2) = ra_ev v R0 := rfl
        have e8 : ra_ev v (rn.1, rn.2) = ra_ev v rn := rfl
        rw [e7, e6, e8] at e2
        rw [e8] at e1
        obtain ⟨lvu, l1, l2⟩ := ra_lvs hN hlv c7
        intro H locs ls hP hD hS hl
        show W p l e R s m args below meth c H locs ce sl Q (F0 m pc ls stv)
        rw [← c1, c2, c3]
        refine hC (ra_vI v μ) lvu stv ws ⟨ra_cN_map hN c4 c6, ?_, ?_, ?_, hg.2.2.2.2⟩ (fun i hi => ?_) (by rw [e5]; omega) (by rw [e5]; omega) H locs ls hP hD hS ⟨hl.1, hl.2.1, fun q hq => hl.2.2 q (l2 q hq)⟩
        · rw [← hμl]
          exact l1
        · rw [← hμl]
          exact ra_b2_ok (R := ra_cV env.length v (ws.map Prod.fst) b0) (R' := ra_cV μ.length (ra_vI v μ) (ws.map Prod.fst) b0) (fun a b c q1 q2 => ra_en_id hN q1 q2) c8 hst
        · rw [← hμl]
          exact ra_b2_ok (R := fun (c : ra_C) (x : Nat × va_E) => ra_cC env.length v (ws.map Prod.fst) b0 cT c x.2) (R' := fun (c : ra_C) (x : Nat × va_E) => ra_cC μ.length (ra_vI v μ) (ws.map Prod.fst) b0 cT c x.2) (fun a b c q1 q2 => ra_enC_id hN q1 q2) c9 hg.2.2.2.1
        · have := ra_idn_ok c5 i hi
          simp only [ra_vI, this]
          rw [Nat.zero_add, hv i (by omega), hEv i hi]
          omega
end
end
section
/-! the check of a method -/
section
variable {p : Program} {l : Launch} {e : Env} {R : Room} {s : State} {m : MethodId} {args : Array Value} {below : List Frame} {meth : Method} {c : Code} {Q : State → Prop}
variable {cc : ByteArray} {own : String} {nL : Nat} {A : Nat → Prop} {D : va_G} {cl : List vw_C} {tys : List (ClassId × FieldType)} {Ts : List Cond} {b0 : Nat → Nat} {ad0 : List Nat} {cT : Nat → ClassId} {n0 : Nat} {v0 : Nat → Int}
variable {sc : String}
variable {nw : List (String × Nat × MethodName × String)}
abbrev ra_I : Type := List (Nat × Instr × Nat) × List (Nat × Nat × Nat) × List (Nat × Int) × List Nat × List (Nat × Nat) × List Nat × List (Nat × Nat × Nat) × List Nat × List Nat × List (Nat × Nat)
abbrev ra_Hn : Type := Nat × List (Nat × Int) × List Nat × List ra_V
def ra_okI (Ts : List Cond) (own sc : String) (cl : List vw_C) (nw : List (String × Nat × MethodName × String)) (MT : List ra_M) (cc : ByteArray) (I : ra_I) : Prop :=
  (∀ q ∈ I.1, decode cc q.1 = .ok (q.2.1, q.2.2)) ∧ ra_okF Ts own cl I.2.1 ∧ ra_okK Ts own I.2.2.1 ∧ ra_okL Ts own I.2.2.2.1 ∧ ra_okN Ts own cl I.2.2.2.2.1 ∧ (∀ j ∈ I.2.2.2.2.2.1, Cond.classLink own j sc ∈ Ts) ∧ ra_okM Ts own cl nw MT I.2.2.2.2.2.2.1 ∧ ra_okO Ts own I.2.2.2.2.2.2.2.1 ∧ ra_okY Ts own I.2.2.2.2.2.2.2.2.1 ∧ ra_okMm Ts own I.2.2.2.2.2.2.2.2.2
def ra_lk (lst : List (Nat × Instr × Nat)) (pc : Nat) : Option (Instr × Nat) := match lst with
  | [] => none
  | q :: lst => if q.1 = pc then some q.2 else ra_lk lst pc
theorem ra_lk_mem : ∀ {lst : List (Nat × Instr × Nat)} {pc : Nat} {r : Instr × Nat}, ra_lk lst pc = some r → (pc, r) ∈ lst
  | [], _, _, h => by simp [ra_lk] at h
  | q :: lst, pc, r, h => by
    unfold ra_lk at h
    split at h
    · rename_i hq
      cases h
      exact List.mem_cons.mpr (Or.inl (by rw [← hq]))
    · exact List.mem_cons_of_mem _ (ra_lk_mem h)
def ra_wt (x : Option (List (Nat × ra_S))) (tp : List ra_Hn) : Option (List (Nat × ra_S) × List ra_Hn) := match x with
  | none => none
  | some o => some (o, tp)
theorem ra_wt_ok {x : Option (List (Nat × ra_S))} {tp : List ra_Hn} {r : List (Nat × ra_S) × List ra_Hn} (h : ra_wt x tp = some r) : x = some r.1 := by
  cases x with
  | none => cases h
  | some o => cases h; rfl
def ra_one (spl nL : Nat) (cl : List vw_C) (tyv : Nat → Nat → FieldType) (ini : Option Nat) (sci : Nat) (hs0 : Bool) (MT : List ra_M) (K : List ra_K) (RC RS RF RL : Nat) (I : ra_I) (rt : Option FieldType) (np : Nat) (posts : List ra_P) (mc ms : Nat) (pc : Nat) (a : ra_S) (tp : List ra_Hn) : Option (List (Nat × ra_S) × List ra_Hn) := match ra_lk I.1 pc with
  | none => none
  | some r => match ra_spl spl r.1 a with
   | some q => some (ra_sps pc q a ((ra_rg a.1 q).2 - (ra_rg a.1 q).1 + 1).toNat (ra_rg a.1 q).1, tp)
   | none => match r.1 with
    | .getfield j => ra_wt (ra_getf I.2.1 j r.2 pc a) tp
    | .putfield j => ra_wt (ra_putf I.2.1 cl tyv ini j r.2 pc a) tp
    | .arraylength => ra_wt (ra_alen hs0 r.2 pc a) tp
    | .iaload => ra_wt (ra_ald hs0 0 r.2 pc a) tp
    | .baload => ra_wt (ra_ald hs0 1 r.2 pc a) tp
    | .iastore => ra_wt (ra_ast 0 r.2 pc a) tp
    | .bastore => ra_wt (ra_ast 1 r.2 pc a) tp
    | .laload => ra_wt (ra_lald r.2 pc a) tp
    | .lastore => ra_wt (ra_last r.2 pc a) tp
    | .aaload => ra_wt (ra_aald r.2 pc a) tp
    | .aastore => ra_wt (ra_aast sci r.2 pc a) tp
    | .new j => ra_wt (ra_newo RC RS I.2.2.2.2.1 cl tyv j r.2 pc a) tp
    | .newarray ty => ra_wt (ra_newa RC RS ty r.2 pc a) tp
    | .anewarray j => ra_wt (ra_newq RC RS I.2.2.2.2.2.1 j r.2 pc a) tp
    | .invokevirtual j => match tp with
      | h :: tp => ra_wt (ra_inv MT I.2.2.2.2.2.2.1 K RC RS RF RL 0 j r.2 pc h.1 h.2.1 h.2.2.1 h.2.2.2 a) tp
      | [] => none
    | .invokestatic j => match I.2.2.2.2.2.2.2.2.1.contains j with
      | true => ra_wt (ra_cpy I.2.2.2.2.2.2.2.2.1 RF RL j r.2 pc a) tp
      | false => match ra_nf I.2.2.2.2.2.2.2.2.2 j with
        | some _ => ra_wt (ra_mm I.2.2.2.2.2.2.2.2.2 RC RS RF RL j r.2 pc a) tp
        | none => match tp with
          | h :: tp => ra_wt (ra_inv MT I.2.2.2.2.2.2.1 K RC RS RF RL 1 j r.2 pc h.1 h.2.1 h.2.2.1 h.2.2.2 a) tp
          | [] => none
    | .invokespecial j => match I.2.2.2.2.2.2.2.1.contains j with
      | true => ra_wt (ra_obj I.2.2.2.2.2.2.2.1 RF RL j r.2 pc a) tp
      | false => match ra_ff I.2.2.2.2.2.2.1 j with
        | none => none
        | some mj => match tp with
          | h :: tp => ra_gd (Nat.ble 2 mj.2) (ra_wt (ra_inv MT I.2.2.2.2.2.2.1 K RC RS RF RL mj.2 j r.2 pc h.1 h.2.1 h.2.2.1 h.2.2.2 a) tp)
          | [] => none
    | .return_ => match tp with
      | h :: tp => ra_gd (ra_ret hs0 rt np posts mc ms .return_ r.2 h.1 h.2.1 a) (some ([], tp))
      | [] => none
    | .ireturn => match tp with
      | h :: tp => ra_gd (ra_ret hs0 rt np posts mc ms .ireturn r.2 h.1 h.2.1 a) (some ([], tp))
      | [] => none
    | .lreturn => match tp with
      | h :: tp => ra_gd (ra_ret hs0 rt np posts mc ms .lreturn r.2 h.1 h.2.1 a) (some ([], tp))
      | [] => none
    | .areturn => match tp with
      | h :: tp => ra_gd (ra_ret hs0 rt np posts mc ms .areturn r.2 h.1 h.2.1 a) (some ([], tp))
      | [] => none
    | .ifCond k o => ra_wt (ra_p2 (.ifCond k o) r.2 pc a) tp
    | .if_icmp k o => ra_wt (ra_p2 (.if_icmp k o) r.2 pc a) tp
    | .tableswitch d lo hi os => ra_wt (ra_p2 (.tableswitch d lo hi os) r.2 pc a) tp
    | .lookupswitch d ps => ra_wt (ra_p2 (.lookupswitch d ps) r.2 pc a) tp
    | i => ra_wt (ra_p1 I.2.2.1 I.2.2.2.1 nL i r.2 pc a) tp
set_option maxHeartbeats 4000000 in
theorem ra_one_ok {spl : Nat} {tyv : Nat → Nat → FieldType} {ini : Option Nat} {sci : Nat} {hs0 : Bool} {MT : List ra_M} {K : List ra_K} {RC RS RF RL : Nat} {I : ra_I} {rt : Option FieldType} {np : Nat} {posts : List ra_P} {mc ms : Nat} (X : ra_X p s m args c cc own nL A D cl (ra_T sc cT) Ts) (hEx : ra_Ex sc nw s) (hG : ∀ w ∈ Ts, goodWord w = true) (hI : ra_okI Ts own sc cl nw MT cc I) (hC : ra_okC Ts cl tyv) (hIn : ∀ ci, ini = some ci → meth.name = "<init>" ∧ ∀ (rc : vw_C) (k : Nat), cl[ci]? = some rc → k < rc.2.2 → (rc.2.1 k).1 = own) {rsc : vw_C} (hsci : cl[sci]? = some rsc) (hsn : rsc.1 = sc) (hsc : hs0 = true → ra_scr s A b0 n0 v0) (hAr : ra_okA Ts) (hK : ∀ k ∈ K, ra_Hk l sc nw Ts MT D cl cT k) (hRC : RC ≤ R.cells) (hRS : RS ≤ R.slots) (hRF : RF ≤ R.frames) (hRL : RL ≤ R.locals) {vE : Nat → Int} {ws0 : va_W} (hE : np ≤ n0) (hEv : ∀ i, i < np → v0 i = vE i) (had : ad0 = ws0.map Prod.fst) (hLaw : hs0 = true → ∀ (pc : Nat) (lv : List (Nat × Value)) (ws : va_W) (ce sl : Nat), decode cc pc = .ok (.ireturn, 1) → ce ≤ mc → sl ≤ ms → ra_W p l e R s m args below meth c Q nL A D cl pc lv [.int 1] ws ce sl)
    (hR : hs0 = false → ∀ (i : Instr) (pc : Nat) (lv : List (Nat × Value)) (st : List Value) (ws : va_W) (r : Option Value), decode cc pc = .ok (i, 1) → ra_rv rt i st r → ra_pv b0 cT vE np posts ws0 r ws → ra_W p l e R s m args below meth c Q nL A D cl pc lv st ws mc ms) {pc : Nat} {a : ra_S} {tp : List ra_Hn} {r : List (Nat × ra_S) × List ra_Hn} (h : ra_one spl nL cl tyv ini sci hs0 MT K RC RS RF RL I rt np posts mc ms pc a tp = some r) (hs : ∀ x ∈ r.1, ra_ok p l e R s m args below meth c Q nL A D cl b0 ad0 cT n0 v0 x) : ra_ok p l e R s m args below meth c Q nL A D cl b0 ad0 cT n0 v0 (pc, a) := by
  unfold ra_one at h
  split at h
  · cases h
  · rename_i q hq
    obtain ⟨i, n⟩ := q
    have hdg := hI.1 _ (ra_lk_mem hq)
    dsimp only at h hdg
    obtain ⟨-, j1, j2, j3, j4, j5, j6, j7, j8, j9⟩ := hI
    have hret : ∀ (i : Instr) (n ki : Nat) (μ : List (Nat × Int)), decode cc pc = .ok (i, n) → ra_ret hs0 rt np posts mc ms i n ki μ a = true → ra_ok p l e R s m args below meth c Q nL A D cl b0 ad0 cT n0 v0 (pc, a) := by
      intro i n ki μ hd hr
      cases hs0 with
      | true =>
        have hn1 : n = 1 := by
          obtain ⟨env, lv, st, aw, ce, sl⟩ := a
          unfold ra_ret at hr
          dsimp only at hr
          rw [Bool.and_eq_true, beq_iff_eq] at hr
          exact hr.1
        subst hn1
        exact (ra_retL_ok hr (fun hi lv ws ce sl z1 z2 => hLaw rfl pc lv ws ce sl (by rw [hd, hi]) z1 z2)).2
      | false =>
        have hn1 : n = 1 := by
          obtain ⟨env, lv, st, aw, ce, sl⟩ := a
          unfold ra_ret at hr
          dsimp only at hr
          split at hr
          · cases hr
          · simp only [Bool.and_eq_true, beq_iff_eq] at hr
            exact hr.1
        subst hn1
        exact (ra_ret_ok hr hE hEv had (fun lv st ws r z1 z2 => hR rfl i pc lv st ws r hd z1 z2)).2
    split at h
    · rename_i qs hqs
      cases h
      exact ra_sps_ok (ra_spl_in hqs) hs
    split at h
    · exact ra_getf_ok (ra_wt_ok h) X j1 hC hdg hs
    · exact ra_putf_ok (ra_wt_ok h) X j1 hC hIn hdg hs
    · exact ra_alen_ok (ra_wt_ok h) X hsc hdg hs
    · exact ra_ald_ok (ra_wt_ok h) X hsc hdg hs
    · exact ra_ald_ok (ra_wt_ok h) X hsc hdg hs
    · exact ra_ast_ok (ra_wt_ok h) X hdg hs
    · exact ra_ast_ok (ra_wt_ok h) X hdg hs
    · exact ra_lald_ok (ra_wt_ok h) X hdg hs
    · exact ra_last_ok (ra_wt_ok h) X hdg hs
    · exact ra_aald_ok (ra_wt_ok h) X hdg hs
    · exact ra_aast_ok (ra_wt_ok h) X hsci hsn hdg hs
    · exact ra_newo_ok (ra_wt_ok h) X hRC hRS j4 hC hdg hs
    · exact ra_newa_ok (ra_wt_ok h) X hRC hRS hAr hdg hs
    · exact ra_newq_ok (ra_wt_ok h) X hRC hRS j5 hEx.1 hdg hs
    · split at h
      · exact ra_inv_ok (kd := 0) (ra_wt_ok h) X hEx hG j6 hK hRC hRS hRF hRL hdg hs
      · cases h
    · split at h
      · exact ra_cpy_ok (ra_wt_ok h) X j8 hRF hRL hdg hs
      split at h
      · exact ra_mm_ok (ra_wt_ok h) X j9 hRC hRS hRF hRL hdg hs
      · split at h
        · exact ra_inv_ok (kd := 1) (ra_wt_ok h) X hEx hG j6 hK hRC hRS hRF hRL hdg hs
        · cases h
    · split at h
      · exact ra_obj_ok (ra_wt_ok h) X j7 hRF hRL hdg hs
      · split at h
        · cases h
        · rename_i mj hmj
          split at h
          · have hq1 := ra_gd_ok h; clear h; obtain ⟨h2, h⟩ := hq1
            have h2 := Nat.le_of_ble_eq_true h2
            refine ra_inv_ok (kd := mj.2) (ra_wt_ok h) X hEx hG j6 hK hRC hRS hRF hRL ?_ hs
            obtain ⟨kk, hkk⟩ : ∃ k, mj.2 = k + 2 := ⟨mj.2 - 2, by omega⟩
            rw [hkk]
            exact hdg
          · cases h
    · split at h
      · exact hret _ _ _ _ hdg (ra_gd_ok h).1
      · cases h
    · split at h
      · exact hret _ _ _ _ hdg (ra_gd_ok h).1
      · cases h
    · split at h
      · exact hret _ _ _ _ hdg (ra_gd_ok h).1
      · cases h
    · split at h
      · exact hret _ _ _ _ hdg (ra_gd_ok h).1
      · cases h
    · exact ra_p2_ok (ra_wt_ok h) X hdg hs
    · exact ra_p2_ok (ra_wt_ok h) X hdg hs
    · exact ra_p2_ok (ra_wt_ok h) X hdg hs
    · exact ra_p2_ok (ra_wt_ok h) X hdg hs
    · exact ra_p1_ok (ra_wt_ok h) X j2 j3 hdg hs
def ra_chk (spl nL : Nat) (cl : List vw_C) (tyv : Nat → Nat → FieldType) (ini : Option Nat) (sci : Nat) (hs0 : Bool) (MT : List ra_M) (K : List ra_K) (RC RS RF RL : Nat) (I : ra_I) (rt : Option FieldType) (np : Nat) (posts : List ra_P) (mc ms : Nat) (cuts : List ra_U) (cps : List Nat) (R0 : ra_L) : Nat → List (Nat × ra_S) → List ra_Hn → Bool
  | 0, _, _ => false
  | _ + 1, [], _ => true
  | f + 1, x :: l, tp => match cps.contains x.1 with
    | true => match tp with
      | [] => false
      | h :: tp => match cuts[h.1]? with
        | none => false
        | some u => match ra_arr np R0 u x.1 h.2.1 x.2 with
          | true => ra_chk spl nL cl tyv ini sci hs0 MT K RC RS RF RL I rt np posts mc ms cuts cps R0 f l tp
          | false => false
    | false => match ra_one spl nL cl tyv ini sci hs0 MT K RC RS RF RL I rt np posts mc ms x.1 x.2 tp with
      | none => false
      | some r => ra_chk spl nL cl tyv ini sci hs0 MT K RC RS RF RL I rt np posts mc ms cuts cps R0 f (r.1 ++ l) r.2
theorem ra_chk_ok {spl : Nat} {tyv : Nat → Nat → FieldType} {ini : Option Nat} {sci : Nat} {hs0 : Bool} {MT : List ra_M} {K : List ra_K} {RC RS RF RL : Nat} {I : ra_I} {rt : Option FieldType} {np : Nat} {posts : List ra_P} {mc ms : Nat} {cuts : List ra_U} {cps : List Nat} {R0 : ra_L} (X : ra_X p s m args c cc own nL A D cl (ra_T sc cT) Ts) (hEx : ra_Ex sc nw s) (hG : ∀ w ∈ Ts, goodWord w = true) (hI : ra_okI Ts own sc cl nw MT cc I) (hC : ra_okC Ts cl tyv) (hIn : ∀ ci, ini = some ci → meth.name = "<init>" ∧ ∀ (rc : vw_C) (k : Nat), cl[ci]? = some rc → k < rc.2.2 → (rc.2.1 k).1 = own) {rsc : vw_C} (hsci : cl[sci]? = some rsc) (hsn : rsc.1 = sc) (hsc : hs0 = true → ra_scr s A b0 n0 v0) (hAr : ra_okA Ts) (hK : ∀ k ∈ K, ra_Hk l sc nw Ts MT D cl cT k) (hRC : RC ≤ R.cells) (hRS : RS ≤ R.slots) (hRF : RF ≤ R.frames) (hRL : RL ≤ R.locals) {vE : Nat → Int} {ws0 : va_W} (hE : np ≤ n0) (hEv : ∀ i, i < np → v0 i = vE i) (had : ad0 = ws0.map Prod.fst) (hLaw : hs0 = true → ∀ (pc : Nat) (lv : List (Nat × Value)) (ws : va_W) (ce sl : Nat), decode cc pc = .ok (.ireturn, 1) → ce ≤ mc → sl ≤ ms → ra_W p l e R s m args below meth c Q nL A D cl pc lv [.int 1] ws ce sl)
    (hR : hs0 = false → ∀ (i : Instr) (pc : Nat) (lv : List (Nat × Value)) (st : List Value) (ws : va_W) (r : Option Value), decode cc pc = .ok (i, 1) → ra_rv rt i st r → ra_pv b0 cT vE np posts ws0 r ws → ra_W p l e R s m args below meth c Q nL A D cl pc lv st ws mc ms) (hR0 : ∀ t ∈ R0.1, t.1 < n0)
    (hCut : ∀ u ∈ cuts, ∀ (v : Nat → Int) (lv : List (Nat × Value)) (st : List Value) (ws : va_W), ra_g b0 ad0 cT v u.2.1 lv st ws → (∀ i, i < np → v i = vE i) → 0 ≤ ra_ev v u.2.2 → ra_ev v u.2.2 < ra_ev v0 R0 → ra_W p l e R s m args below meth c Q nL A D cl u.1 lv st ws u.2.1.2.2.2.2.1 u.2.1.2.2.2.2.2) :
    ∀ {f : Nat} {w : List (Nat × ra_S)} {tp : List ra_Hn}, ra_chk spl nL cl tyv ini sci hs0 MT K RC RS RF RL I rt np posts mc ms cuts cps R0 f w tp = true → ∀ x ∈ w, ra_ok p l e R s m args below meth c Q nL A D cl b0 ad0 cT n0 v0 x
  | 0, _, _, h, _, _ => by simp [ra_chk] at h
  | f + 1, [], _, _, x, hx => by cases hx
  | f + 1, y :: w, tp, h, x, hx => by
    unfold ra_chk at h
    split at h
    · split at h
      · cases h
      · rename_i hd tp'
        split at h
        · cases h
        · rename_i u hu
          split at h
          · rename_i ha
            rcases List.mem_cons.mp hx with e | e
            · subst e
              exact ra_arr_ok ha hE hEv hR0 (hCut u (List.mem_of_getElem? hu))
            · exact ra_chk_ok X hEx hG hI hC hIn hsci hsn hsc hAr hK hRC hRS hRF hRL hE hEv had hLaw hR hR0 hCut h x e
          · cases h
    · split at h
      · cases h
      · rename_i r hr
        have ih := ra_chk_ok X hEx hG hI hC hIn hsci hsn hsc hAr hK hRC hRS hRF hRL hE hEv had hLaw hR hR0 hCut h
        rcases List.mem_cons.mp hx with e | e
        · subst e
          exact ra_one_ok X hEx hG hI hC hIn hsci hsn hsc hAr hK hRC hRS hRF hRL hE hEv had hLaw hR hr (fun z hz => ih z (List.mem_append_left _ hz))
        · exact ih x (List.mem_append_right _ e)
end
end
section
/-! a method that is checked keeps its contract -/
section
variable {l : Launch} {D : va_G} {cl : List vw_C} {Ts : List Cond} {cT : Nat → ClassId} {sc : String} {nw : List (String × Nat × MethodName × String)}
def ra_la : Nat → List ra_V → List (Nat × ra_V)
  | _, [] => []
  | i, a :: as => (i, a) :: ra_la (if ra_two a then i + 2 else i + 1) as
theorem ra_la_ok {n : Nat} {b0 : Nat → Nat} {v : Nat → Int} {ads : List Nat} : ∀ {as : List ra_V} {av : List Value} {i : Nat}, ra_a2 (ra_cV n v ads b0) as av → ra_a2 (fun (p : Nat × ra_V) (q : Nat × Value) => p.1 = q.1 ∧ ra_cV n v ads b0 p.2 q.2) (ra_la i as) (lv_args i av)
  | [], [], _, _ => trivial
  | a :: as, x :: av, i, h => by
    refine ⟨⟨rfl, h.1⟩, ?_⟩
    have h1 := ra_two_ok h.1
    have e : (if x.category = 2 then i + 2 else i + 1) = (if ra_two a = true then i + 2 else i + 1) := by
      rw [← h1]
      simp
    show ra_a2 _ (ra_la _ as) (lv_args (if x.category = 2 then i + 2 else i + 1) av)
    rw [e]
    exact ra_la_ok h.2
  | [], _ :: _, _, h => h.elim
  | _ :: _, [], _, h => h.elim
theorem ra_sl_len : ∀ av : List Value, (lg_sl av).length = (av.map fun v => v.category).sum
  | [] => rfl
  | x :: av => by
    have ih := ra_sl_len av
    unfold lg_sl at ih ⊢
    rw [List.flatMap_cons, List.length_append, ih, List.map_cons, List.sum_cons]
    rcases lv_cat x with h | h <;> simp [h]
def ra_seg (spl nL : Nat) (cl : List vw_C) (tyv : Nat → Nat → FieldType) (ini : Option Nat) (sci : Nat) (hs0 : Bool) (MT : List ra_M) (K : List ra_K) (RC RS RF RL : Nat) (I : ra_I) (rt : Option FieldType) (np : Nat) (posts : List ra_P) (mc ms : Nat) (cuts : List ra_U) (cps : List Nat) (f : Nat) (u : ra_U) (tp : List ra_Hn) : Bool :=
  Nat.ble np u.2.1.1.length && (u.2.2.1.all (fun t => Nat.blt t.1 u.2.1.1.length) && (match ra_one spl nL cl tyv ini sci hs0 MT K RC RS RF RL I rt np posts mc ms u.1 u.2.1 tp with
    | none => false
    | some r => ra_chk spl nL cl tyv ini sci hs0 MT K RC RS RF RL I rt np posts mc ms cuts cps u.2.2 f r.1 r.2))
def ra_big : ra_L := ([], 1000000000000)
set_option maxHeartbeats 4000000 in
theorem ra_meth {spl : Nat} {tyv : Nat → Nat → FieldType} {ini : Option Nat} {sci : Nat} {MT : List ra_M} {K : List ra_K} {I : ra_I} {k : ra_K} {mm : ra_M} {cuts : List ra_U} {cps : List Nat} (hmm : MT[k.1]? = some mm) (hpl : plainName mm.1.cls = true) (hG : ∀ w ∈ Ts, goodWord w = true) (hI : ra_okI Ts mm.1.cls sc cl nw MT mm.2.1 I) (hC : ra_okC Ts cl tyv) (hIn : ∀ ci, ini = some ci → mm.1.name = "<init>" ∧ ∀ (rc : vw_C) (k : Nat), cl[ci]? = some rc → k < rc.2.2 → (rc.2.1 k).1 = mm.1.cls) {rsc : vw_C} (hsci : cl[sci]? = some rsc) (hsn : rsc.1 = sc) (hAr : ra_okA Ts) (hK : ∀ k' ∈ K, ra_Hk l sc nw Ts MT D cl cT k')
    (hcuts : ∀ u ∈ cuts, ∃ (f : Nat) (tp : List ra_Hn), ra_seg spl mm.2.2.1 cl tyv ini sci false MT K k.2.2.2.2.2.1 k.2.2.2.2.2.2.1 k.2.2.2.2.2.2.2.1 k.2.2.2.2.2.2.2.2 I mm.2.2.2.1 k.2.1.length k.2.2.2.2.1 k.2.2.2.2.2.1 k.2.2.2.2.2.2.1 cuts cps f u tp = true)
    (hent : ∃ (f : Nat) (tp : List ra_Hn), ra_chk spl mm.2.2.1 cl tyv ini sci false MT K k.2.2.2.2.2.1 k.2.2.2.2.2.2.1 k.2.2.2.2.2.2.2.1 k.2.2.2.2.2.2.2.2 I mm.2.2.2.1 k.2.1.length k.2.2.2.2.1 k.2.2.2.2.2.1 k.2.2.2.2.2.2.1 cuts cps ra_big f [(0, (k.2.1, ra_la 0 k.2.2.1, [], k.2.2.2.1, 0, 0))] tp = true)
    (hroom : Nat.ble (ra_cats k.2.2.1) mm.2.2.1 = true) : ra_Hk l sc nw Ts MT D cl cT k := by
  intro mm' hmm' b0 vE av ws0 sz hN hargs hwor
  have : mm' = mm := Option.some.inj (hmm'.symm.trans hmm)
  subst this
  refine Met.ofW (cc := mm'.2.1) (maxL := mm'.2.2.1) (ret := mm'.2.2.2.1) hpl rfl ?_
  intro p e s m args below meth c s₁ B hml hv
  obtain ⟨rfl, hsz, hP, hKK, hD0, hEx⟩ := hv
  have hx := B.exec
  have hb := B.bytes
  have hr := B.returns
  have hts0 := atoms_spec (ws := Cond.code mm'.1 mm'.2.1 mm'.2.2.1 mm'.2.2.2.1 :: Ts) B.pre
  have hts : ∀ w ∈ Ts, w.before av.toArray s = true := fun w hw => hts0 w (List.mem_cons_of_mem _ hw)
  have hown : s.vm.findClass mm'.1.cls = some m.cls := findClass_of_methodNamed B.named
  have hname : meth.name = mm'.1.name := (name_of_methodNamed B.named B.method).1
  have hlocks := B.notSynchronized
  subst hsz
  have hD := hD0.self (sz := s.heap.size)
  generalize hAe : va_A ws0 s.heap.size = A at hD ⊢
  have hA : ∀ q : Nat, s.heap.size ≤ q → A q := fun q h => by rw [← hAe]; exact Or.inr h
  have hS : va_S A s.heap s.heap [] := va_S.rf
  have X : ra_X p s m av.toArray c mm'.2.1 mm'.1.cls mm'.2.2.1 A D cl (ra_T sc cT) Ts := ⟨hx, hb, hml, hown, hts, hKK, hA⟩
  have hIn' : ∀ ci, ini = some ci → meth.name = "<init>" ∧ ∀ (rc : vw_C) (k : Nat), cl[ci]? = some rc → k < rc.2.2 → (rc.2.1 k).1 = mm'.1.cls := fun ci hci => ⟨by rw [hname]; exact (hIn ci hci).1, (hIn ci hci).2⟩
  have hR : ∀ (i : Instr) (pc : Nat) (lv : List (Nat × Value)) (st : List Value) (ws : va_W) (r : Option Value), decode mm'.2.1 pc = .ok (i, 1) → ra_rv mm'.2.2.2.1 i st r → ra_pv b0 cT vE k.2.1.length k.2.2.2.2.1 ws0 r ws → ra_W p l e (ra_rm k) s m av.toArray below meth c (MQ below (ra_Qc D cl (ra_T sc cT) (ra_pv b0 cT vE k.2.1.length k.2.2.2.2.1 ws0) ws0 s.heap.size) av.toArray s k.2.2.2.2.2.1 k.2.2.2.2.2.2.1 A) mm'.2.2.1 A D cl pc lv st ws k.2.2.2.2.2.1 k.2.2.2.2.2.2.1 := by
    intro i pc lv st ws r hdg hrv hpv H locs ls hP hD hS hl
    have hq : ∀ t : State, t.heap = H → s.WarmedH t.vm → ra_Qc D cl (ra_T sc cT) (ra_pv b0 cT vE k.2.1.length k.2.2.2.2.1 ws0) ws0 s.heap.size av.toArray s (.returned r) t := fun t ht hW => ⟨⟨r, ws, rfl, hpv, by rw [ht]; exact hP, va_K.moved hW.alike hKK, by rw [hAe]; exact hD⟩, by rw [hAe]; exact hS.F ht⟩
    rcases hrv with ⟨h1, rfl, rfl, rfl⟩ | ⟨y, h1, rfl, rfl, rfl⟩ | ⟨y, h1, rfl, rfl, hy, rfl⟩ | ⟨y, h1, rfl, rfl, rfl⟩ | ⟨ty, a, h1, h2, rfl, rfl, rfl⟩
    · exact W.vret hx hb (by rw [hr, h1]) hq hS.2.2 hdg
    · exact W.iret hx hb (by rw [hr, h1]) hq hS.2.2 hdg
    · exact W.zret (ty := .boolean) hx hb (by rw [hr, h1]) (by rcases hy with rfl | rfl <;> decide) hq hS.2.2 hdg
    · exact W.lret hx hb (by rw [hr, h1]) hq hS.2.2 hdg
    · exact W.aret (rt := ty) hx hb (by rw [hr, h1]) h2 (Or.inr ⟨a, rfl⟩) hq hS.2.2 hdg
  have hcut : ∀ (N : Nat), ∀ u ∈ cuts, ∀ (v : Nat → Int) (lv : List (Nat × Value)) (st : List Value) (ws : va_W), ra_g b0 (ws0.map Prod.fst) cT v u.2.1 lv st ws → (∀ i, i < k.2.1.length → v i = vE i) → 0 ≤ ra_ev v u.2.2 → ra_ev v u.2.2 < N → ra_W p l e (ra_rm k) s m av.toArray below meth c (MQ below (ra_Qc D cl (ra_T sc cT) (ra_pv b0 cT vE k.2.1.length k.2.2.2.2.1 ws0) ws0 s.heap.size) av.toArray s k.2.2.2.2.2.1 k.2.2.2.2.2.2.1 A) mm'.2.2.1 A D cl u.1 lv st ws u.2.1.2.2.2.2.1 u.2.1.2.2.2.2.2 := by
    intro N
    induction N with
    | zero =>
      intro u hu v lv st ws hg hv h0 h1
      omega
    | succ N ih =>
      intro u hu v lv st ws hg hv h0 h1
      obtain ⟨f, tp, hseg⟩ := hcuts u hu
      unfold ra_seg at hseg
      rw [Bool.and_eq_true, Bool.and_eq_true] at hseg
      obtain ⟨s1, s2, s3⟩ := hseg
      have s1 := Nat.le_of_ble_eq_true s1
      have s2 : ∀ t ∈ u.2.2.1, t.1 < u.2.1.1.length := fun t ht => Nat.le_of_ble_eq_true (List.all_eq_true.mp s2 t ht)
      split at s3
      · cases s3
      · rename_i r hr1
        have hall := ra_chk_ok (b0 := b0) (n0 := u.2.1.1.length) (v0 := v) (e := e) (below := below) (hs0 := false) X hEx hG hI hC hIn' hsci hsn (fun h => by cases h) hAr hK (Nat.le_refl _) (Nat.le_refl _) (Nat.le_refl _) (Nat.le_refl _) s1 hv rfl (fun h => by cases h) (fun _ => hR) s2 (fun u2 hu2 v2 lv2 st2 ws2 hg2 hv2 q0 q1 => ih u2 hu2 v2 lv2 st2 ws2 hg2 hv2 q0 (by omega)) s3
        exact ra_one_ok (b0 := b0) (n0 := u.2.1.1.length) (v0 := v) (e := e) (below := below) (hs0 := false) X hEx hG hI hC hIn' hsci hsn (fun h => by cases h) hAr hK (Nat.le_refl _) (Nat.le_refl _) (Nat.le_refl _) (Nat.le_refl _) s1 hv rfl (fun h => by cases h) (fun _ => hR) hr1 hall (Nat.le_refl _) v lv st ws hg (fun _ _ => rfl)
  obtain ⟨f, tp, hchk⟩ := hent
  have hall := ra_chk_ok (b0 := b0) (n0 := k.2.1.length) (v0 := vE) (e := e) (below := below) (hs0 := false) X hEx hG hI hC hIn' hsci hsn (fun h => by cases h) hAr hK (Nat.le_refl _) (Nat.le_refl _) (Nat.le_refl _) (Nat.le_refl _) (Nat.le_refl _) (fun _ _ => rfl) rfl (fun h => by cases h) (fun _ => hR) (fun t ht => by cases ht) (fun u2 hu2 v2 lv2 st2 ws2 hg2 hv2 q0 q1 => hcut ((ra_ev v2 u2.2.2).toNat + 1) u2 hu2 v2 lv2 st2 ws2 hg2 hv2 q0 (by omega)) hchk
  have hl := lv_entry av (n := mm'.2.2.1) (by rw [ra_sl_len, ra_cats_ok hargs]; exact Nat.le_of_ble_eq_true hroom)
  rw [lg_entry_eq]
  exact hall _ (List.mem_singleton.mpr rfl) (Nat.le_refl _) vE _ [] ws0 ⟨hN, ra_la_ok hargs, trivial, hwor, fun _ _ h => h⟩ (fun _ _ => rfl) s.heap [] _ hP hD hS hl
end
end
