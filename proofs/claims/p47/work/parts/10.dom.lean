noncomputable section
/-! a domain of values: numbers as a symbol and an offset, symbols with bounds; places of cells -/
abbrev ra_V : Type := (Nat × Int) ⊕ (Nat ⊕ (Nat ⊕ Nat))
abbrev ra_E : Type := ra_V ⊕ (Int × Int)
abbrev ra_O : Type := Nat × Nat × List Nat × List (Nat × Int)
abbrev ra_C : Type := (Nat × List ra_V) ⊕ ((Nat × List ra_E) ⊕ ((Nat × Nat × Int × Int) ⊕ ra_O))
abbrev ra_N : Type := List (Int × Int)
abbrev ra_S : Type := ra_N × List (Nat × ra_V) × List ra_V × List ra_C × Nat × Nat
noncomputable def ra_leb (a b : Int) : Bool := Int.rec (motive := fun _ => Bool) (fun m => Int.rec (motive := fun _ => Bool) (fun n => Nat.ble m n) (fun _ => false) b) (fun m => Int.rec (motive := fun _ => Bool) (fun _ => true) (fun n => Nat.ble n m) b) a
theorem ra_leb_le {a b : Int} (h : ra_leb a b = true) : a ≤ b := by
  rcases a with m | m <;> rcases b with n | n
  · have h1 : m ≤ n := Nat.le_of_ble_eq_true h
    show (m : Int) ≤ (n : Int)
    omega
  · exact Bool.noConfusion (show false = true from h)
  · show Int.negSucc m ≤ (n : Int)
    omega
  · have h1 : n ≤ m := Nat.le_of_ble_eq_true h
    omega
theorem ra_leb_lt {a b : Int} (h : ¬ ra_leb a b = true) : b < a := by
  rcases a with m | m <;> rcases b with n | n
  · have h1 : ¬ m ≤ n := fun q => h (Nat.ble_eq_true_of_le q)
    show (n : Int) < (m : Int)
    omega
  · show Int.negSucc n < (m : Int)
    omega
  · exact absurd rfl h
  · have h1 : ¬ n ≤ m := fun q => h (Nat.ble_eq_true_of_le q)
    omega
theorem ra_leb_of {a b : Int} (h : a ≤ b) : ra_leb a b = true := by
  cases hq : ra_leb a b with
  | true => rfl
  | false => have := ra_leb_lt (a := a) (b := b) (by rw [hq]; decide); omega
noncomputable def ra_eqb (a b : Int) : Bool := Int.rec (motive := fun _ => Bool) (fun m => Int.rec (motive := fun _ => Bool) (fun n => Nat.beq m n) (fun _ => false) b) (fun m => Int.rec (motive := fun _ => Bool) (fun _ => false) (fun n => Nat.beq m n) b) a
theorem ra_eqb_eq {a b : Int} (h : ra_eqb a b = true) : a = b := by
  rcases a with m | m <;> rcases b with n | n
  · have h1 : m = n := Nat.eq_of_beq_eq_true h
    rw [h1]
  · exact Bool.noConfusion (show false = true from h)
  · exact Bool.noConfusion (show false = true from h)
  · have h1 : m = n := Nat.eq_of_beq_eq_true h
    rw [h1]
def ra_a2 {α β : Type} (R : α → β → Prop) : List α → List β → Prop
  | [], [] => True
  | a :: as, b :: bs => R a b ∧ ra_a2 R as bs
  | [], _ :: _ => False
  | _ :: _, [] => False
theorem ra_a2_len {α β : Type} {R : α → β → Prop} : ∀ {as : List α} {bs : List β}, ra_a2 R as bs → as.length = bs.length
  | [], [], _ => rfl
  | _ :: _, _ :: _, h => by simp [ra_a2_len h.2]
  | [], _ :: _, h => h.elim
  | _ :: _, [], h => h.elim
theorem ra_a2_get {α β : Type} {R : α → β → Prop} : ∀ {as : List α} {bs : List β}, ra_a2 R as bs → ∀ {i : Nat} {a : α}, as[i]? = some a → ∃ b, bs[i]? = some b ∧ R a b
  | [], [], _, i, a, h => by simp at h
  | x :: as, y :: bs, h, 0, a, h1 => by
    simp at h1
    subst h1
    exact ⟨y, by simp, h.1⟩
  | x :: as, y :: bs, h, i + 1, a, h1 => by
    simp at h1
    obtain ⟨b, h2, h3⟩ := ra_a2_get h.2 h1
    exact ⟨b, by simpa using h2, h3⟩
  | [], _ :: _, h, _, _, _ => h.elim
  | _ :: _, [], h, _, _, _ => h.elim
theorem ra_a2_mono {α β : Type} {R R' : α → β → Prop} (hR : ∀ a b, R a b → R' a b) : ∀ {as : List α} {bs : List β}, ra_a2 R as bs → ra_a2 R' as bs
  | [], [], _ => trivial
  | _ :: _, _ :: _, h => ⟨hR _ _ h.1, ra_a2_mono hR h.2⟩
  | [], _ :: _, h => h.elim
  | _ :: _, [], h => h.elim
theorem ra_a2_set {α β : Type} {R : α → β → Prop} : ∀ {as : List α} {bs : List β}, ra_a2 R as bs → ∀ (i : Nat) {a : α} {b : β}, R a b → ra_a2 R (as.set i a) (bs.set i b)
  | [], [], _, _, _, _, _ => trivial
  | _ :: _, _ :: _, h, 0, _, _, h1 => ⟨h1, h.2⟩
  | _ :: _, _ :: _, h, i + 1, _, _, h1 => ⟨h.1, ra_a2_set h.2 i h1⟩
  | [], _ :: _, h, _, _, _, _ => h.elim
  | _ :: _, [], h, _, _, _, _ => h.elim
theorem ra_a2_app {α β : Type} {R : α → β → Prop} : ∀ {as : List α} {bs : List β} {as' : List α} {bs' : List β}, ra_a2 R as bs → ra_a2 R as' bs' → ra_a2 R (as ++ as') (bs ++ bs')
  | [], [], _, _, _, h => h
  | _ :: _, _ :: _, _, _, h, h1 => ⟨h.1, ra_a2_app h.2 h1⟩
  | [], _ :: _, _, _, h, _ => h.elim
  | _ :: _, [], _, _, h, _ => h.elim
theorem ra_a2_of {α β : Type} {R : α → β → Prop} : ∀ {as : List α} {bs : List β}, as.length = bs.length → (∀ (i : Nat) (a : α) (b : β), as[i]? = some a → bs[i]? = some b → R a b) → ra_a2 R as bs
  | [], [], _, _ => trivial
  | a :: as, b :: bs, h, h1 => ⟨h1 0 a b (by simp) (by simp), ra_a2_of (by simpa using h) (fun i x y hx hy => h1 (i + 1) x y (by simpa using hx) (by simpa using hy))⟩
  | [], _ :: _, h, _ => by simp at h
  | _ :: _, [], h, _ => by simp at h
theorem ra_a2_filter {α β : Type} {R : α → β → Prop} {p : α → Bool} {q : β → Bool} (hpq : ∀ a b, R a b → p a = q b) : ∀ {as : List α} {bs : List β}, ra_a2 R as bs → ra_a2 R (as.filter p) (bs.filter q)
  | [], [], _ => trivial
  | a :: as, b :: bs, h => by
    have h2 := ra_a2_filter (p := p) (q := q) hpq h.2
    have h3 := hpq a b h.1
    cases hp : p a with
    | true => rw [List.filter_cons_of_pos hp, List.filter_cons_of_pos (by rw [← h3]; exact hp)]; exact ⟨h.1, h2⟩
    | false => rw [List.filter_cons_of_neg (by rw [hp]; decide), List.filter_cons_of_neg (by rw [← h3, hp]; decide)]; exact h2
  | [], _ :: _, h => h.elim
  | _ :: _, [], h => h.elim
def ra_cN (v : Nat → Int) (env : ra_N) : Prop := 0 < env.length ∧ v 0 = 0 ∧ ∀ (i : Nat) (q : Int × Int), env[i]? = some q → q.1 ≤ v i ∧ v i ≤ q.2
def ra_cV (n : Nat) (v : Nat → Int) (ads : List Nat) (b0 : Nat → Nat) (a : ra_V) (x : Value) : Prop := match a with
  | .inl q => q.1 < n ∧ ∃ y : Int32, x = .int y ∧ y.toInt = v q.1 + q.2
  | .inr (.inl i) => ∃ r, ads[i]? = some r ∧ x = .ref r
  | .inr (.inr (.inl k)) => (k = 0 ∧ x = .null) ∨ (k = 1 ∧ ∃ y : Int64, x = .long y) ∨ (2 ≤ k ∧ x = .ref (b0 k))
  | .inr (.inr (.inr i)) => i < n ∧ ∃ y : Int64, x = .long y ∧ y.toInt = v i
def ra_cE (n : Nat) (v : Nat → Int) (ads : List Nat) (b0 : Nat → Nat) (a : ra_E) (x : Value) : Prop := match a with
  | .inl a => ra_cV n v ads b0 a x
  | .inr q => ∃ y : Int32, x = .int y ∧ q.1 ≤ y.toInt ∧ y.toInt ≤ q.2
def ra_cC (n : Nat) (v : Nat → Int) (ads : List Nat) (b0 : Nat → Nat) (cT : Nat → ClassId) (c : ra_C) (e : va_E) : Prop := match c with
  | .inl o => ∃ fs, e = .inr (o.1, fs) ∧ ra_a2 (ra_cV n v ads b0) o.2 fs
  | .inr (.inl o) => (o.1 < 3 ∧ ∃ f : Nat → Int32, e = .inl (cT o.1, o.2.length, .inl f) ∧ ∀ (j : Nat) (x : ra_E), o.2[j]? = some x → ra_cE n v ads b0 x (.int (f j))) ∨ (o.1 = 4 ∧ ∃ g : Nat → Option Nat, e = .inl (cT 4, o.2.length, .inr (.inr (.inr (.inr g)))) ∧ ∀ (j : Nat) (x : ra_E), o.2[j]? = some x → ra_cE n v ads b0 x (va_rf (g j)))
  | .inr (.inr (.inl o)) => (o.1 < 3 ∧ ∃ f : Nat → Int32, e = .inl (cT o.1, o.2.1, .inl f) ∧ ∀ j : Nat, j < o.2.1 → o.2.2.1 ≤ (f j).toInt ∧ (f j).toInt ≤ o.2.2.2) ∨ (o.1 = 3 ∧ ∃ f : Nat → Int64, e = .inl (cT 3, o.2.1, .inr (.inl f)))
  | .inr (.inr (.inr o)) => o.1 < 3 ∧ (∀ q ∈ o.2.2.2, q.1 < n) ∧ ∃ f : Nat → Int32, e = .inl (cT o.1, o.2.1, .inl f) ∧ ra_phi o.2.2.1 (o.2.2.2.map (fun q => v q.1 + q.2)) o.2.1 (fun j => (f j).toInt)
def ra_pf (ad0 : List Nat) (ws : va_W) : Prop := ∀ (k r : Nat), ad0[k]? = some r → (ws.map Prod.fst)[k]? = some r
def ra_g (b0 : Nat → Nat) (ad0 : List Nat) (cT : Nat → ClassId) (v : Nat → Int) (a : ra_S) (lv : List (Nat × Value)) (st : List Value) (ws : va_W) : Prop :=
  ra_cN v a.1 ∧ ra_a2 (fun (p : Nat × ra_V) (q : Nat × Value) => p.1 = q.1 ∧ ra_cV a.1.length v (ws.map Prod.fst) b0 p.2 q.2) a.2.1 lv ∧ ra_a2 (ra_cV a.1.length v (ws.map Prod.fst) b0) a.2.2.1 st ∧ ra_a2 (fun (c : ra_C) (q : Nat × va_E) => ra_cC a.1.length v (ws.map Prod.fst) b0 cT c q.2) a.2.2.2.1 ws ∧ ra_pf ad0 ws
theorem ra_cV_ext {n n' : Nat} {v v' : Nat → Int} {ads ads' : List Nat} {b0 : Nat → Nat} (hn : n ≤ n') (hv : ∀ i, i < n → v' i = v i) (ha : ∀ (i r : Nat), ads[i]? = some r → ads'[i]? = some r) {a : ra_V} {x : Value} (h : ra_cV n v ads b0 a x) : ra_cV n' v' ads' b0 a x := by
  rcases a with q | i | k | i
  · obtain ⟨h1, y, h2, h3⟩ := h
    exact ⟨by omega, y, h2, by rw [hv _ h1]; exact h3⟩
  · obtain ⟨r, h1, h2⟩ := h
    exact ⟨r, ha _ _ h1, h2⟩
  · exact h
  · obtain ⟨h1, y, h2, h3⟩ := h
    exact ⟨by omega, y, h2, by rw [hv _ h1]; exact h3⟩
theorem ra_cE_ext {n n' : Nat} {v v' : Nat → Int} {ads ads' : List Nat} {b0 : Nat → Nat} (hn : n ≤ n') (hv : ∀ i, i < n → v' i = v i) (ha : ∀ (i r : Nat), ads[i]? = some r → ads'[i]? = some r) {a : ra_E} {x : Value} (h : ra_cE n v ads b0 a x) : ra_cE n' v' ads' b0 a x := by
  rcases a with q | q
  · exact ra_cV_ext (a := q) hn hv ha h
  · exact h
theorem ra_cC_ext {n n' : Nat} {v v' : Nat → Int} {ads ads' : List Nat} {b0 : Nat → Nat} {cT : Nat → ClassId} (hn : n ≤ n') (hv : ∀ i, i < n → v' i = v i) (ha : ∀ (i r : Nat), ads[i]? = some r → ads'[i]? = some r) {c : ra_C} {x : va_E} (h : ra_cC n v ads b0 cT c x) : ra_cC n' v' ads' b0 cT c x := by
  rcases c with o | o | o | o
  · obtain ⟨fs, h1, h2⟩ := h
    exact ⟨fs, h1, ra_a2_mono (fun a b h => ra_cV_ext hn hv ha h) h2⟩
  · rcases h with ⟨h0, f, h1, h2⟩ | ⟨h0, f, h1, h2⟩
    · exact Or.inl ⟨h0, f, h1, fun j x hx => ra_cE_ext hn hv ha (h2 j x hx)⟩
    · exact Or.inr ⟨h0, f, h1, fun j x hx => ra_cE_ext hn hv ha (h2 j x hx)⟩
  · exact h
  · obtain ⟨h0, h1, f, h2, h3⟩ := h
    refine ⟨h0, fun q hq => Nat.lt_of_lt_of_le (h1 q hq) hn, f, h2, ?_⟩
    have e : o.2.2.2.map (fun q => v' q.1 + q.2) = o.2.2.2.map (fun q => v q.1 + q.2) := List.map_congr_left (fun q hq => by rw [hv _ (h1 q hq)])
    rw [e]
    exact h3
def ra_lo : Int := -2147483648
def ra_hi : Int := 2147483647
noncomputable def ra_rg (env : ra_N) (q : Nat × Int) : Int × Int := match ra_nth env q.1 with
  | some r => (r.1 + q.2, r.2 + q.2)
  | none => (ra_lo, ra_hi)
theorem ra_i32 (y : Int32) : ra_lo ≤ y.toInt ∧ y.toInt ≤ ra_hi := by
  have h1 := Int32.le_toInt y
  have h2 := Int32.toInt_lt y
  unfold ra_lo ra_hi
  omega
theorem ra_rg_ok {v : Nat → Int} {env : ra_N} (hN : ra_cN v env) {q : Nat × Int} {y : Int32} (h : y.toInt = v q.1 + q.2) : (ra_rg env q).1 ≤ y.toInt ∧ y.toInt ≤ (ra_rg env q).2 := by
  unfold ra_rg
  rw [ra_nth_eq]
  cases hq : env[q.1]? with
  | none => exact ra_i32 y
  | some r =>
    have := hN.2.2 _ _ hq
    dsimp only
    omega
/-- a number known by one value alone is a constant -/
def ra_nm (env : ra_N) (q : Nat × Int) : Nat × Int := let r := ra_rg env q; if ra_eqb r.1 r.2 then (0, r.1) else q
theorem ra_nm_ok {v : Nat → Int} {env : ra_N} (hN : ra_cN v env) {q : Nat × Int} {y : Int32} (hq : q.1 < env.length) (h : y.toInt = v q.1 + q.2) : (ra_nm env q).1 < env.length ∧ y.toInt = v (ra_nm env q).1 + (ra_nm env q).2 := by
  have h1 := ra_rg_ok hN h
  unfold ra_nm
  dsimp only
  split
  · rename_i he
    have := ra_eqb_eq he
    refine ⟨hN.1, ?_⟩
    show y.toInt = v 0 + _
    rw [hN.2.1]
    omega
  · exact ⟨hq, h⟩
def ra_fr (env : ra_N) (lo hi : Int) : ra_N × (Nat × Int) := (ra_ap env [(lo, hi)], (ra_ln env, 0))
theorem ra_fr_eq {env : ra_N} {lo hi : Int} : ra_fr env lo hi = (env ++ [(lo, hi)], (env.length, 0)) := by
  unfold ra_fr
  rw [ra_ap_eq, ra_ln_eq]
/-- what an operation's result must be -/
def ra_res (v : Nat → Int) (env : ra_N) (r : ra_N × (Nat × Int)) (z : Int) : Prop :=
  env.length ≤ r.1.length ∧ r.2.1 < r.1.length ∧ ∃ v' : Nat → Int, (∀ i, i < env.length → v' i = v i) ∧ ra_cN v' r.1 ∧ z = v' r.2.1 + r.2.2
theorem ra_cN_fr {v : Nat → Int} {env : ra_N} (hN : ra_cN v env) {lo hi z : Int} (h1 : lo ≤ z) (h2 : z ≤ hi) : ra_cN (fun i => if i = env.length then z else v i) (env ++ [(lo, hi)]) := by
  obtain ⟨a, b, c⟩ := hN
  refine ⟨by simp, ?_, fun i q hq => ?_⟩
  · show (if 0 = env.length then z else v 0) = 0
    rw [if_neg (by omega)]
    exact b
  · show q.1 ≤ (if i = env.length then z else v i) ∧ (if i = env.length then z else v i) ≤ q.2
    by_cases hi : i = env.length
    · subst hi
      simp at hq
      subst hq
      simp
      exact ⟨h1, h2⟩
    · rw [if_neg hi]
      have hl : i < env.length := by
        have := (List.getElem?_eq_some_iff.mp hq).1
        simp at this
        omega
      rw [List.getElem?_append_left hl] at hq
      exact c i q hq
theorem ra_fr_ok {v : Nat → Int} {env : ra_N} (hN : ra_cN v env) {lo hi z : Int} (h1 : lo ≤ z) (h2 : z ≤ hi) : ra_res v env (ra_fr env lo hi) z := by
  rw [ra_fr_eq]
  refine ⟨by simp, by simp, fun i => if i = env.length then z else v i, fun i hi => if_neg (by omega), ra_cN_fr hN h1 h2, ?_⟩
  show z = (if env.length = env.length then z else v env.length) + 0
  rw [if_pos rfl]
  omega
theorem ra_res_same {v : Nat → Int} {env : ra_N} (hN : ra_cN v env) {q : Nat × Int} {z : Int} (hq : q.1 < env.length) (h : z = v q.1 + q.2) : ra_res v env (env, q) z :=
  ⟨Nat.le_refl _, hq, v, fun _ _ => rfl, hN, h⟩
def ra_inr (lo hi : Int) : Bool := ra_leb ra_lo lo && ra_leb hi ra_hi
theorem ra_inr_ok {lo hi : Int} (h : ra_inr lo hi = true) : ra_lo ≤ lo ∧ hi ≤ ra_hi := by
  simp only [ra_inr, Bool.and_eq_true] at h
  exact ⟨ra_leb_le h.1, ra_leb_le h.2⟩
theorem ra_bmod {z : Int} (h : ra_lo ≤ z ∧ z ≤ ra_hi) : z.bmod 4294967296 = z := by
  unfold ra_lo ra_hi at h
  rw [Int.bmod_def]
  split <;> omega
theorem ra_toInt_add (x y : Int32) (h : ra_lo ≤ x.toInt + y.toInt ∧ x.toInt + y.toInt ≤ ra_hi) : (x + y).toInt = x.toInt + y.toInt := by
  rw [Int32.toInt_add]
  exact ra_bmod h
theorem ra_toInt_sub (x y : Int32) (h : ra_lo ≤ x.toInt - y.toInt ∧ x.toInt - y.toInt ≤ ra_hi) : (x - y).toInt = x.toInt - y.toInt := by
  rw [Int32.toInt_sub]
  exact ra_bmod h
theorem ra_toInt_mul (x y : Int32) (h : ra_lo ≤ x.toInt * y.toInt ∧ x.toInt * y.toInt ≤ ra_hi) : (x * y).toInt = x.toInt * y.toInt := by
  rw [Int32.toInt_mul]
  exact ra_bmod h
/-- a result within bounds, or any number -/
def ra_frc (env : ra_N) (lo hi : Int) : ra_N × (Nat × Int) := if ra_inr lo hi then ra_fr env lo hi else ra_fr env ra_lo ra_hi
def ra_sh (env : ra_N) (q : Nat × Int) (k : Int) : ra_N × (Nat × Int) := let r := ra_rg env q; if ra_inr (r.1 + k) (r.2 + k) then (env, (q.1, q.2 + k)) else ra_fr env ra_lo ra_hi
def ra_add (env : ra_N) (x y : Nat × Int) : ra_N × (Nat × Int) :=
  if y.1 = 0 then ra_sh env x y.2 else if x.1 = 0 then ra_sh env y x.2 else let a := ra_rg env x; let b := ra_rg env y; ra_frc env (a.1 + b.1) (a.2 + b.2)
def ra_sub (env : ra_N) (x y : Nat × Int) : ra_N × (Nat × Int) :=
  if y.1 = 0 then ra_sh env x (- y.2) else if x.1 = y.1 ∧ ra_inr (x.2 - y.2) (x.2 - y.2) = true then (env, (0, x.2 - y.2)) else let a := ra_rg env x; let b := ra_rg env y; ra_frc env (a.1 - b.2) (a.2 - b.1)
theorem ra_sh_ok {v : Nat → Int} {env : ra_N} (hN : ra_cN v env) {q : Nat × Int} {x : Int32} {k : Int} {z : Int32} (hq : q.1 < env.length) (h : x.toInt = v q.1 + q.2) (hz : ra_lo ≤ x.toInt + k ∧ x.toInt + k ≤ ra_hi → z.toInt = x.toInt + k) : ra_res v env (ra_sh env q k) z.toInt := by
  have h1 := ra_rg_ok hN h
  unfold ra_sh
  dsimp only
  split
  · rename_i hi
    have h2 := ra_inr_ok hi
    refine ra_res_same hN hq ?_
    rw [hz (by omega), h]
    dsimp only
    omega
  · exact ra_fr_ok hN (ra_i32 z).1 (ra_i32 z).2
theorem ra_add_ok {v : Nat → Int} {env : ra_N} (hN : ra_cN v env) {qx qy : Nat × Int} {x y : Int32} (hx : qx.1 < env.length) (hy : qy.1 < env.length) (ex : x.toInt = v qx.1 + qx.2) (ey : y.toInt = v qy.1 + qy.2) : ra_res v env (ra_add env qx qy) (x + y).toInt := by
  unfold ra_add
  split
  · rename_i h0
    have e0 : y.toInt = qy.2 := by rw [ey, h0, hN.2.1]; omega
    exact ra_sh_ok hN hx ex (fun h => by rw [← e0] at h ⊢; exact ra_toInt_add x y h)
  · split
    · rename_i h0
      have e0 : x.toInt = qx.2 := by rw [ex, h0, hN.2.1]; omega
      exact ra_sh_ok hN hy ey (fun h => by rw [← e0] at h ⊢; rw [ra_toInt_add x y (by omega)]; omega)
    · have h1 := ra_rg_ok hN ex
      have h2 := ra_rg_ok hN ey
      dsimp only
      unfold ra_frc
      split
      · rename_i hi
        have h3 := ra_inr_ok hi
        have h4 := ra_toInt_add x y (by omega)
        exact ra_fr_ok hN (by omega) (by omega)
      · exact ra_fr_ok hN (ra_i32 _).1 (ra_i32 _).2
theorem ra_sub_ok {v : Nat → Int} {env : ra_N} (hN : ra_cN v env) {qx qy : Nat × Int} {x y : Int32} (hx : qx.1 < env.length) (hy : qy.1 < env.length) (ex : x.toInt = v qx.1 + qx.2) (ey : y.toInt = v qy.1 + qy.2) : ra_res v env (ra_sub env qx qy) (x - y).toInt := by
  unfold ra_sub
  split
  · rename_i h0
    have e0 : y.toInt = qy.2 := by rw [ey, h0, hN.2.1]; omega
    exact ra_sh_ok hN hx ex (fun h => by rw [← e0] at h ⊢; rw [ra_toInt_sub x y (by omega)]; omega)
  · split
    · rename_i h0
      have h3 := ra_inr_ok h0.2
      refine ra_res_same hN hN.1 ?_
      have e0 : x.toInt - y.toInt = qx.2 - qy.2 := by rw [ex, ey, h0.1]; omega
      rw [ra_toInt_sub x y (by omega), e0]
      show _ = v 0 + _
      rw [hN.2.1]
      omega
    · have h1 := ra_rg_ok hN ex
      have h2 := ra_rg_ok hN ey
      dsimp only
      unfold ra_frc
      split
      · rename_i hi
        have h3 := ra_inr_ok hi
        have h4 := ra_toInt_sub x y (by omega)
        exact ra_fr_ok hN (by omega) (by omega)
      · exact ra_fr_ok hN (ra_i32 _).1 (ra_i32 _).2
/-- an operation on numbers: of two constants its value, else bounds -/
def ra_bin (f : Int32 → Int32 → Int32) (g : Int × Int → Int × Int → Int × Int) (env : ra_N) (x y : Nat × Int) : ra_N × (Nat × Int) :=
  let a := ra_nm env x; let b := ra_nm env y
  if a.1 = 0 ∧ b.1 = 0 then (env, (0, (f (Int32.ofInt a.2) (Int32.ofInt b.2)).toInt)) else let r := g (ra_rg env x) (ra_rg env y); ra_fr env r.1 r.2
def ra_gok (f : Int32 → Int32 → Int32) (g : Int × Int → Int × Int → Int × Int) (P : Int32 → Int32 → Prop) : Prop := ∀ (a b : Int × Int) (x y : Int32), P x y → a.1 ≤ x.toInt → x.toInt ≤ a.2 → b.1 ≤ y.toInt → y.toInt ≤ b.2 → (g a b).1 ≤ (f x y).toInt ∧ (f x y).toInt ≤ (g a b).2
theorem ra_bin_ok {f : Int32 → Int32 → Int32} {g : Int × Int → Int × Int → Int × Int} {P : Int32 → Int32 → Prop} (hg : ra_gok f g P) {v : Nat → Int} {env : ra_N} (hN : ra_cN v env) {qx qy : Nat × Int} {x y : Int32} (hx : qx.1 < env.length) (hy : qy.1 < env.length) (ex : x.toInt = v qx.1 + qx.2) (ey : y.toInt = v qy.1 + qy.2) (hP : P x y) : ra_res v env (ra_bin f g env qx qy) (f x y).toInt := by
  have h1 := ra_nm_ok hN hx ex
  have h2 := ra_nm_ok hN hy ey
  unfold ra_bin
  dsimp only
  split
  · rename_i h0
    have e1 : x = Int32.ofInt (ra_nm env qx).2 := by
      have : x.toInt = (ra_nm env qx).2 := by rw [h1.2, h0.1, hN.2.1]; omega
      rw [← this, Int32.ofInt_toInt]
    have e2 : y = Int32.ofInt (ra_nm env qy).2 := by
      have : y.toInt = (ra_nm env qy).2 := by rw [h2.2, h0.2, hN.2.1]; omega
      rw [← this, Int32.ofInt_toInt]
    rw [← e1, ← e2]
    refine ra_res_same hN hN.1 ?_
    show _ = v 0 + _
    rw [hN.2.1]
    omega
  · have h3 := ra_rg_ok hN ex
    have h4 := ra_rg_ok hN ey
    have h5 := hg _ _ x y hP h3.1 h3.2 h4.1 h4.2
    exact ra_fr_ok hN h5.1 h5.2
def ra_top (_ _ : Int × Int) : Int × Int := (ra_lo, ra_hi)
theorem ra_top_ok (f : Int32 → Int32 → Int32) (P : Int32 → Int32 → Prop) : ra_gok f ra_top P := fun _ _ x y _ _ _ _ _ => ra_i32 (f x y)
def ra_gmul (a b : Int × Int) : Int × Int := if ra_leb 0 a.1 && ra_leb 0 b.1 && ra_leb (a.2 * b.2) ra_hi then (a.1 * b.1, a.2 * b.2) else (ra_lo, ra_hi)
theorem ra_gmul_ok : ra_gok (fun x y => x * y) ra_gmul (fun _ _ => True) := by
  intro a b x y _ h1 h2 h3 h4
  unfold ra_gmul
  split
  · rename_i h
    simp only [Bool.and_eq_true] at h
    have g1 := ra_leb_le h.1.1
    have g2 := ra_leb_le h.1.2
    have g3 := ra_leb_le h.2
    have k1 : a.1 * b.1 ≤ x.toInt * y.toInt := Int.mul_le_mul h1 h3 g2 (by omega)
    have k2 : x.toInt * y.toInt ≤ a.2 * b.2 := Int.mul_le_mul h2 h4 (by omega) (by omega)
    have k3 : 0 ≤ a.1 * b.1 := Int.mul_nonneg g1 g2
    have k4 := ra_toInt_mul x y ⟨by unfold ra_lo; omega, by omega⟩
    show a.1 * b.1 ≤ (x * y).toInt ∧ (x * y).toInt ≤ a.2 * b.2
    omega
  · exact ra_i32 _
end
