/-! look-ups that the kernel does fast -/
noncomputable def ra_nth {α : Type} (l : List α) : Nat → Option α := List.rec (motive := fun _ => Nat → Option α) (fun _ => none) (fun a _ ih n => Nat.rec (motive := fun _ => Option α) (some a) (fun m _ => ih m) n) l
theorem ra_nth_eq {α : Type} : ∀ (l : List α) (i : Nat), ra_nth l i = l[i]?
  | [], i => by simp [ra_nth]
  | a :: l, 0 => rfl
  | a :: l, i + 1 => by
    have := ra_nth_eq l i
    rw [List.getElem?_cons_succ, ← this]
    rfl
noncomputable def ra_st {α : Type} (l : List α) (x : α) : Nat → List α := List.rec (motive := fun _ => Nat → List α) (fun _ => []) (fun a t ih n => Nat.rec (motive := fun _ => List α) (x :: t) (fun m _ => a :: ih m) n) l
theorem ra_st_eq {α : Type} : ∀ (l : List α) (x : α) (i : Nat), ra_st l x i = l.set i x
  | [], x, i => by simp [ra_st]
  | a :: l, x, 0 => rfl
  | a :: l, x, i + 1 => by
    have := ra_st_eq l x i
    rw [List.set_cons_succ, ← this]
    rfl
noncomputable def ra_dr {α : Type} (l : List α) : Nat → List α := List.rec (motive := fun _ => Nat → List α) (fun _ => []) (fun a t ih n => Nat.rec (motive := fun _ => List α) (a :: t) (fun m _ => ih m) n) l
theorem ra_dr_eq {α : Type} : ∀ (l : List α) (i : Nat), ra_dr l i = l.drop i
  | [], i => by simp [ra_dr]
  | a :: l, 0 => rfl
  | a :: l, i + 1 => by
    have := ra_dr_eq l i
    rw [List.drop_succ_cons, ← this]
    rfl
noncomputable def ra_ln {α : Type} (l : List α) : Nat := List.rec (motive := fun _ => Nat) (nat_lit 0) (fun _ _ ih => Nat.add ih (nat_lit 1)) l
theorem ra_ln_eq {α : Type} : ∀ (l : List α), ra_ln l = l.length
  | [] => rfl
  | x :: l => by
    rw [List.length_cons, ← ra_ln_eq l]
    rfl
/-- every k-th suffix -/
noncomputable def ra_sk {α : Type} (k n : Nat) : List α → List (List α) := Nat.rec (motive := fun _ => List α → List (List α)) (fun _ => []) (fun _ ih l => l :: ih (ra_dr l k)) n
theorem ra_sk_get {α : Type} {m : Nat} : ∀ (n : Nat) (l : List α) (k : Nat), (ra_sk m n l)[k]? = if k < n then some (l.drop (m * k)) else none
  | 0, l, k => by
    rw [if_neg (Nat.not_lt_zero k)]
    rfl
  | n + 1, l, 0 => by
    rw [if_pos (Nat.zero_lt_succ n)]
    rfl
  | n + 1, l, k + 1 => by
    show (l :: ra_sk m n (ra_dr l m))[k + 1]? = _
    rw [List.getElem?_cons_succ, ra_sk_get n, ra_dr_eq, List.drop_drop]
    rcases Nat.lt_or_ge k n with h | h
    · rw [if_pos h, if_pos (by omega), show m + m * k = m * (k + 1) by rw [Nat.mul_add, Nat.mul_one, Nat.add_comm]]
    · rw [if_neg (by omega), if_neg (by omega)]
noncomputable def ra_bl {α : Type} (l : List α) : List (List α) := ra_sk (nat_lit 100) (Nat.add (Nat.div (ra_ln l) (nat_lit 100)) (nat_lit 1)) l
noncomputable def ra_bg {α : Type} (t : List (List α)) (i : Nat) : Option α := match ra_nth t (Nat.div i (nat_lit 100)) with
  | none => none
  | some u => match ra_nth (ra_sk (nat_lit 10) (nat_lit 10) u) (Nat.div (Nat.mod i (nat_lit 100)) (nat_lit 10)) with
    | none => none
    | some v => ra_nth v (Nat.mod i (nat_lit 10))
theorem ra_bl_get {α : Type} (l : List α) (i : Nat) : ra_bg (ra_bl l) i = l[i]? := by
  show (match ra_nth (ra_sk 100 (ra_ln l / 100 + 1) l) (i / 100) with
    | none => none
    | some u => match ra_nth (ra_sk 10 10 u) (i % 100 / 10) with
      | none => none
      | some v => ra_nth v (i % 10)) = _
  rw [ra_nth_eq, ra_sk_get, ra_ln_eq]
  rcases Nat.lt_or_ge (i / 100) (l.length / 100 + 1) with h | h
  · rw [if_pos h]
    dsimp only
    rw [ra_nth_eq, ra_sk_get, if_pos (by omega)]
    dsimp only
    rw [ra_nth_eq, List.getElem?_drop, List.getElem?_drop, show 100 * (i / 100) + (10 * (i % 100 / 10) + i % 10) = i by omega]
  · rw [if_neg (by omega)]
    dsimp only
    rw [List.getElem?_eq_none (by omega)]
/-- a suffix that begins at place i: the one at hand, or a new one -/
noncomputable def ra_cu {α : Type} (l : List α) (i pos : Nat) (suf : List α) : List α := match Nat.beq i pos with
  | true => suf
  | false => ra_dr l i
theorem ra_cu_eq {α : Type} {l : List α} {i pos : Nat} : ra_cu l i pos (l.drop pos) = l.drop i := by
  unfold ra_cu
  split
  · rename_i h
    rw [Nat.eq_of_beq_eq_true h]
  · exact ra_dr_eq _ _
/-- no number twice, by a mask -/
def ra_ndM : Nat → List Nat → Bool
  | _, [] => true
  | m, i :: is => match Nat.testBit m i with
    | true => false
    | false => ra_ndM (m ||| 2 ^ i) is
theorem ra_ndM_ok : ∀ {is : List Nat} {m : Nat}, ra_ndM m is = true → is.Nodup ∧ ∀ i ∈ is, Nat.testBit m i = false
  | [], _, _ => ⟨List.nodup_nil, fun _ h => by cases h⟩
  | i :: is, m, h => by
    unfold ra_ndM at h
    split at h
    · cases h
    · rename_i hb
      obtain ⟨h1, h2⟩ := ra_ndM_ok h
      refine ⟨List.nodup_cons.mpr ⟨fun hm => ?_, h1⟩, fun j hj => ?_⟩
      · have := h2 i hm
        rw [Nat.testBit_or, Nat.testBit_two_pow_self, Bool.or_true] at this
        cases this
      · rcases List.mem_cons.mp hj with q | q
        · rw [q]; exact hb
        · have := h2 j q
          rw [Nat.testBit_or, Bool.or_eq_false_iff] at this
          exact this.1
/-- is the number there? -/
noncomputable def ra_has (l : List Nat) (n : Nat) : Bool := List.rec (motive := fun _ => Bool) false (fun a _ ih => Bool.rec (motive := fun _ => Bool) ih true (Nat.beq a n)) l
noncomputable def ra_ap {α : Type} (a b : List α) : List α := List.rec (motive := fun _ => List α) b (fun x _ ih => x :: ih) a
theorem ra_ap_eq {α : Type} : ∀ (a b : List α), ra_ap a b = a ++ b
  | [], _ => rfl
  | x :: a, b => by
    rw [List.cons_append, ← ra_ap_eq a b]
    rfl
noncomputable def ra_mp {α β : Type} (f : α → β) (l : List α) : List β := List.rec (motive := fun _ => List β) [] (fun x _ ih => f x :: ih) l
theorem ra_mp_eq {α β : Type} (f : α → β) : ∀ (l : List α), ra_mp f l = l.map f
  | [] => rfl
  | x :: l => by
    rw [List.map_cons, ← ra_mp_eq f l]
    rfl
theorem ra_nb {a b : Nat} : Nat.beq a b = true ↔ a = b := ⟨Nat.eq_of_beq_eq_true, fun h => by rw [h]; exact Nat.beq_refl b⟩
/-- a stop between two rounds -/
noncomputable def ra_dl (b : Bool) : Bool := b
