/-! look-ups that the kernel does fast -/
noncomputable def ra_nth {α : Type} (l : List α) : Nat → Option α := List.rec (motive := fun _ => Nat → Option α) (fun _ => none) (fun a _ ih n => Nat.rec (motive := fun _ => Option α) (some a) (fun m _ => ih m) n) l
theorem ra_nth_eq {α : Type} : ∀ (l : List α) (i : Nat), ra_nth l i = l[i]?
  | [], i => by simp [ra_nth]
  | a :: l, 0 => rfl
  | a :: l, i + 1 => by
    have := ra_nth_eq l i
    rw [List.getElem?_cons_succ, ← this]
    rfl
noncomputable def ra_st {α : Type} (l : List α) (x : α) : Nat → List α := List.rec (motive := fun _ => Nat → List α) (fun _ => []) (fun a t ih n => Nat.rec (motive := fun _ => List α) (x :: t) (fun m _ => a :: ih m) n) l
theorem ra_st_eq {α : Type} : ∀ (l : List α) (x : α) (i : Nat), ra_st l x i = l.set i x
  | [], x, i => by simp [ra_st]
  | a :: l, x, 0 => rfl
  | a :: l, x, i + 1 => by
    have := ra_st_eq l x i
    rw [List.set_cons_succ, ← this]
    rfl
noncomputable def ra_dr {α : Type} (l : List α) : Nat → List α := List.rec (motive := fun _ => Nat → List α) (fun _ => []) (fun a t ih n => Nat.rec (motive := fun _ => List α) (a :: t) (fun m _ => ih m) n) l
theorem ra_dr_eq {α : Type} : ∀ (l : List α) (i : Nat), ra_dr l i = l.drop i
  | [], i => by simp [ra_dr]
  | a :: l, 0 => rfl
  | a :: l, i + 1 => by
    have := ra_dr_eq l i
    rw [List.drop_succ_cons, ← this]
    rfl
noncomputable def ra_ln {α : Type} (l : List α) : Nat := List.rec (motive := fun _ => Nat) (nat_lit 0) (fun _ _ ih => Nat.add ih (nat_lit 1)) l
theorem ra_ln_eq {α : Type} : ∀ (l : List α), ra_ln l = l.length
  | [] => rfl
  | x :: l => by
    rw [List.length_cons, ← ra_ln_eq l]
    rfl
/-- every k-th suffix -/
noncomputable def ra_sk {α : Type} (k n : Nat) : List α → List (List α) := Nat.rec (motive := fun _ => List α → List (List α)) (fun _ => []) (fun _ ih l => l :: ih (ra_dr l k)) n
theorem ra_sk_get {α : Type} {m : Nat} : ∀ (n : Nat) (l : List α) (k : Nat), (ra_sk m n l)[k]? = if k < n then some (l.drop (m * k)) else none
  | 0, l, k => by
    rw [if_neg (Nat.not_lt_zero k)]
    rfl
  | n + 1, l, 0 => by
    rw [if_pos (Nat.zero_lt_succ n)]
    rfl
  | n + 1, l, k + 1 => by
    show (l :: ra_sk m n (ra_dr l m))[k + 1]? = _
    rw [List.getElem?_cons_succ, ra_sk_get n, ra_dr_eq, List.drop_drop]
    rcases Nat.lt_or_ge k n with h | h
    · rw [if_pos h, if_pos (by omega), show m + m * k = m * (k + 1) by rw [Nat.mul_add, Nat.mul_one, Nat.add_comm]]
    · rw [if_neg (by omega), if_neg (by omega)]
noncomputable def ra_bl {α : Type} (l : List α) : List (List α) := ra_sk (nat_lit 100) (Nat.add (Nat.div (ra_ln l) (nat_lit 100)) (nat_lit 1)) l
noncomputable def ra_bg {α : Type} (t : List (List α)) (i : Nat) : Option α := match ra_nth t (Nat.div i (nat_lit 100)) with
  | none => none
  | some u => match ra_nth (ra_sk (nat_lit 10) (nat_lit 10) u) (Nat.div (Nat.mod i (nat_lit 100)) (nat_lit 10)) with
    | none => none
    | some v => ra_nth v (Nat.mod i (nat_lit 10))
theorem ra_bl_get {α : Type} (l : List α) (i : Nat) : ra_bg (ra_bl l) i = l[i]? := by
  show (match ra_nth (ra_sk 100 (ra_ln l / 100 + 1) l) (i / 100) with
    | none => none
    | some u => match ra_nth (ra_sk 10 10 u) (i % 100 / 10) with
      | none => none
      | some v => ra_nth v (i % 10)) = _
  rw [ra_nth_eq, ra_sk_get, ra_ln_eq]
  rcases Nat.lt_or_ge (i / 100) (l.length / 100 + 1) with h | h
  · rw [if_pos h]
    dsimp only
    rw [ra_nth_eq, ra_sk_get, if_pos (by omega)]
    dsimp only
    rw [ra_nth_eq, List.getElem?_drop, List.getElem?_drop, show 100 * (i / 100) + (10 * (i % 100 / 10) + i % 10) = i by omega]
  · rw [if_neg (by omega)]
    dsimp only
    rw [List.getElem?_eq_none (by omega)]
/-- a suffix that begins at place i: the one at hand, or a new one -/
noncomputable def ra_cu {α : Type} (l : List α) (i pos : Nat) (suf : List α) : List α := match Nat.beq i pos with
  | true => suf
  | false => ra_dr l i
theorem ra_cu_eq {α : Type} {l : List α} {i pos : Nat} : ra_cu l i pos (l.drop pos) = l.drop i := by
  unfold ra_cu
  split
  · rename_i h
    rw [Nat.eq_of_beq_eq_true h]
  · exact ra_dr_eq _ _
/-- no number twice, by a mask -/
def ra_ndM : Nat → List Nat → Bool
  | _, [] => true
  | m, i :: is => match Nat.testBit m i with
    | true => false
    | false => ra_ndM (m ||| 2 ^ i) is
theorem ra_ndM_ok : ∀ {is : List Nat} {m : Nat}, ra_ndM m is = true → is.Nodup ∧ ∀ i ∈ is, Nat.testBit m i = false
  | [], _, _ => ⟨List.nodup_nil, fun _ h => by cases h⟩
  | i :: is, m, h => by
    unfold ra_ndM at h
    split at h
    · cases h
    · rename_i hb
      obtain ⟨h1, h2⟩ := ra_ndM_ok h
      refine ⟨List.nodup_cons.mpr ⟨fun hm => ?_, h1⟩, fun j hj => ?_⟩
      · have := h2 i hm
        rw [Nat.testBit_or, Nat.testBit_two_pow_self, Bool.or_true] at this
        cases this
      · rcases List.mem_cons.mp hj with q | q
        · rw [q]; exact hb
        · have := h2 j q
          rw [Nat.testBit_or, Bool.or_eq_false_iff] at this
          exact this.1
/-- is the number there? -/
noncomputable def ra_has (l : List Nat) (n : Nat) : Bool := List.rec (motive := fun _ => Bool) false (fun a _ ih => Bool.rec (motive := fun _ => Bool) ih true (Nat.beq a n)) l
noncomputable def ra_ap {α : Type} (a b : List α) : List α := List.rec (motive := fun _ => List α) b (fun x _ ih => x :: ih) a
theorem ra_ap_eq {α : Type} : ∀ (a b : List α), ra_ap a b = a ++ b
  | [], _ => rfl
  | x :: a, b => by
    rw [List.cons_append, ← ra_ap_eq a b]
    rfl
noncomputable def ra_mp {α β : Type} (f : α → β) (l : List α) : List β := List.rec (motive := fun _ => List β) [] (fun x _ ih => f x :: ih) l
theorem ra_mp_eq {α β : Type} (f : α → β) : ∀ (l : List α), ra_mp f l = l.map f
  | [] => rfl
  | x :: l => by
    rw [List.map_cons, ← ra_mp_eq f l]
    rfl
theorem ra_nb {a b : Nat} : Nat.beq a b = true ↔ a = b := ⟨Nat.eq_of_beq_eq_true, fun h => by rw [h]; exact Nat.beq_refl b⟩
/-- a stop between two rounds -/
noncomputable def ra_dl (b : Bool) : Bool := b
/-! maps as one large number -/
noncomputable def ra_zz (a : Int) : Nat := Int.rec (motive := fun _ => Nat) (fun n => Nat.mul (nat_lit 2) n) (fun n => Nat.add (Nat.mul (nat_lit 2) n) (nat_lit 1)) a
noncomputable def ra_uz (x : Nat) : Int := Bool.rec (motive := fun _ => Int) (.negSucc (Nat.div x (nat_lit 2))) (.ofNat (Nat.div x (nat_lit 2))) (Nat.beq (Nat.mod x (nat_lit 2)) (nat_lit 0))
theorem ra_uz_zz (a : Int) : ra_uz (ra_zz a) = a := by
  rcases a with n | n
  · show Bool.rec (motive := fun _ => Int) (.negSucc (2 * n / 2)) (.ofNat (2 * n / 2)) (Nat.beq (2 * n % 2) 0) = Int.ofNat n
    rw [Nat.mul_mod_right, Nat.mul_div_cancel_left n (by omega)]
    rfl
  · show Bool.rec (motive := fun _ => Int) (.negSucc ((2 * n + 1) / 2)) (.ofNat ((2 * n + 1) / 2)) (Nat.beq ((2 * n + 1) % 2) 0) = Int.negSucc n
    rw [show (2 * n + 1) / 2 = n by omega, show (2 * n + 1) % 2 = 1 by omega]
    rfl
/-- digits to a base -/
noncomputable def ra_cd {α : Type} (B : Nat) (f : α → Nat) (l : List α) : Nat := List.rec (motive := fun _ => Nat) (nat_lit 0) (fun a _ ih => Nat.add (f a) (Nat.mul B ih)) l
noncomputable def ra_al {α : Type} (f : α → Bool) (l : List α) : Bool := List.rec (motive := fun _ => Bool) true (fun a _ ih => Bool.rec (motive := fun _ => Bool) false (ra_dl ih) (f a)) l
theorem ra_al_ok {α : Type} {f : α → Bool} : ∀ {l : List α}, ra_al f l = true → ∀ a ∈ l, f a = true
  | [], _, _, h => by cases h
  | b :: l, h, a, hm => by
    have h' : Bool.rec (motive := fun _ => Bool) false (ra_al f l) (f b) = true := h
    cases hb : f b with
    | false => rw [hb] at h'; exact Bool.noConfusion h'
    | true =>
      rw [hb] at h'
      rcases List.mem_cons.mp hm with q | q
      · rw [q]; exact hb
      · exact ra_al_ok h' a q
theorem ra_cd_get {α : Type} {B : Nat} {f : α → Nat} : ∀ {l : List α}, (∀ a ∈ l, f a < B) → ∀ {i : Nat} {a : α}, l[i]? = some a → ra_cd B f l / B ^ i % B = f a
  | [], _, i, a, h => by simp at h
  | b :: l, hB, 0, a, h => by
    have hb : b = a := by simpa using h
    subst hb
    show (f b + B * ra_cd B f l) / B ^ 0 % B = f b
    rw [Nat.pow_zero, Nat.div_one, Nat.add_mul_mod_self_left]
    exact Nat.mod_eq_of_lt (hB b List.mem_cons_self)
  | b :: l, hB, i + 1, a, h => by
    have hp : f b < B := hB b List.mem_cons_self
    show (f b + B * ra_cd B f l) / B ^ (i + 1) % B = f a
    rw [Nat.pow_succ, Nat.mul_comm (B ^ i) B, ← Nat.div_div_eq_div_mul, Nat.add_mul_div_left _ _ (by omega), Nat.div_eq_of_lt hp, Nat.zero_add]
    exact ra_cd_get (fun a ha => hB a (List.mem_cons_of_mem _ ha)) (by simpa using h)
noncomputable def ra_en2 (r : Nat × Int) : Nat := Nat.add r.1 (Nat.mul (nat_lit 65536) (ra_zz r.2))
noncomputable def ra_de2 (x : Nat) : Nat × Int := (Nat.mod x (nat_lit 65536), ra_uz (Nat.div x (nat_lit 65536)))
theorem ra_de_en {r : Nat × Int} (h : r.1 < 65536) : ra_de2 (ra_en2 r) = r := by
  show ((r.1 + 65536 * ra_zz r.2) % 65536, ra_uz ((r.1 + 65536 * ra_zz r.2) / 65536)) = r
  rw [Nat.add_mul_mod_self_left, Nat.mod_eq_of_lt h, Nat.add_mul_div_left _ _ (by omega), Nat.div_eq_of_lt h, Nat.zero_add, ra_uz_zz]
noncomputable def ra_mB : Nat := nat_lit 18446744073709551616
noncomputable def ra_mc (μ : List (Nat × Int)) : Nat := ra_cd ra_mB ra_en2 μ
noncomputable def ra_mk (μ : List (Nat × Int)) : Bool := ra_al (fun r => Bool.rec (motive := fun _ => Bool) false (Nat.blt (ra_en2 r) ra_mB) (Nat.blt r.1 (nat_lit 65536))) μ
/-- the i-th of a map -/
noncomputable def ra_mg (μ : List (Nat × Int)) (i : Nat) : Option (Nat × Int) := Bool.rec (motive := fun _ => Option (Nat × Int)) (ra_bg (ra_bl μ) i) (Bool.rec (motive := fun _ => Option (Nat × Int)) (some (ra_de2 (Nat.mod (Nat.div (ra_mc μ) (Nat.pow ra_mB i)) ra_mB))) none (Nat.ble (ra_ln μ) i)) (ra_mk μ)
theorem ra_mg_eq (μ : List (Nat × Int)) (i : Nat) : ra_mg μ i = μ[i]? := by
  cases hk : ra_mk μ with
  | false =>
    show Bool.rec (motive := fun _ => Option (Nat × Int)) (ra_bg (ra_bl μ) i) _ (ra_mk μ) = _
    rw [hk]
    exact ra_bl_get μ i
  | true =>
    show Bool.rec (motive := fun _ => Option (Nat × Int)) _ (Bool.rec (motive := fun _ => Option (Nat × Int)) (some (ra_de2 (ra_mc μ / ra_mB ^ i % ra_mB))) none (Nat.ble (ra_ln μ) i)) (ra_mk μ) = _
    rw [hk]
    show Bool.rec (motive := fun _ => Option (Nat × Int)) (some (ra_de2 (ra_mc μ / ra_mB ^ i % ra_mB))) none (Nat.ble (ra_ln μ) i) = _
    have hb : ∀ r ∈ μ, r.1 < 65536 ∧ ra_en2 r < ra_mB := by
      intro r hr
      have h1 := ra_al_ok hk r hr
      have h2 : Bool.rec (motive := fun _ => Bool) false (Nat.blt (ra_en2 r) ra_mB) (Nat.blt r.1 65536) = true := h1
      cases hq : Nat.blt r.1 65536 with
      | false => rw [hq] at h2; exact Bool.noConfusion h2
      | true =>
        rw [hq] at h2
        exact ⟨Nat.le_of_ble_eq_true hq, Nat.le_of_ble_eq_true h2⟩
    rw [ra_ln_eq]
    cases hl : Nat.ble μ.length i with
    | true =>
      show none = _
      rw [List.getElem?_eq_none (Nat.le_of_ble_eq_true hl)]
    | false =>
      show some (ra_de2 (ra_mc μ / ra_mB ^ i % ra_mB)) = _
      have hi : i < μ.length := by
        rcases Nat.lt_or_ge i μ.length with q | q
        · exact q
        · rw [Nat.ble_eq_true_of_le q] at hl
          exact Bool.noConfusion hl
      have hr : μ[i]? = some μ[i] := List.getElem?_eq_getElem hi
      have hm : μ[i] ∈ μ := List.mem_of_getElem? hr
      rw [hr]
      show some (ra_de2 (ra_cd ra_mB ra_en2 μ / ra_mB ^ i % ra_mB)) = _
      rw [ra_cd_get (fun a ha => (hb a ha).2) hr, ra_de_en (hb _ hm).1]
noncomputable def ra_pk (π : List Nat) : Bool := ra_al (fun j => Nat.blt j (nat_lit 65536)) π
noncomputable def ra_pg (π : List Nat) (i : Nat) : Option Nat := Bool.rec (motive := fun _ => Option Nat) (ra_bg (ra_bl π) i) (Bool.rec (motive := fun _ => Option Nat) (some (Nat.mod (Nat.div (ra_cd (nat_lit 65536) (fun j => j) π) (Nat.pow (nat_lit 65536) i)) (nat_lit 65536))) none (Nat.ble (ra_ln π) i)) (ra_pk π)
theorem ra_pg_eq (π : List Nat) (i : Nat) : ra_pg π i = π[i]? := by
  cases hk : ra_pk π with
  | false =>
    show Bool.rec (motive := fun _ => Option Nat) (ra_bg (ra_bl π) i) _ (ra_pk π) = _
    rw [hk]
    exact ra_bl_get π i
  | true =>
    show Bool.rec (motive := fun _ => Option Nat) _ (Bool.rec (motive := fun _ => Option Nat) (some (ra_cd 65536 (fun j => j) π / 65536 ^ i % 65536)) none (Nat.ble (ra_ln π) i)) (ra_pk π) = _
    rw [hk]
    show Bool.rec (motive := fun _ => Option Nat) (some (ra_cd 65536 (fun j => j) π / 65536 ^ i % 65536)) none (Nat.ble (ra_ln π) i) = _
    have hb : ∀ j ∈ π, j < 65536 := fun j hj => Nat.le_of_ble_eq_true (ra_al_ok hk j hj)
    rw [ra_ln_eq]
    cases hl : Nat.ble π.length i with
    | true =>
      show none = _
      rw [List.getElem?_eq_none (Nat.le_of_ble_eq_true hl)]
    | false =>
      show some (ra_cd 65536 (fun j => j) π / 65536 ^ i % 65536) = _
      have hi : i < π.length := by
        rcases Nat.lt_or_ge i π.length with q | q
        · exact q
        · rw [Nat.ble_eq_true_of_le q] at hl
          exact Bool.noConfusion hl
      have hr : π[i]? = some π[i] := List.getElem?_eq_getElem hi
      rw [hr, ra_cd_get (f := fun j => j) (B := 65536) hb hr]
