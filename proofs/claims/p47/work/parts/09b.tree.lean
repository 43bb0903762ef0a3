/-! look-ups that the kernel does fast -/
noncomputable def ra_nth {α : Type} (l : List α) : Nat → Option α := List.rec (motive := fun _ => Nat → Option α) (fun _ => none) (fun a _ ih n => Nat.rec (motive := fun _ => Option α) (some a) (fun m _ => ih m) n) l
theorem ra_nth_eq {α : Type} : ∀ (l : List α) (i : Nat), ra_nth l i = l[i]?
  | [], i => by simp [ra_nth]
  | a :: l, 0 => rfl
  | a :: l, i + 1 => by
    have := ra_nth_eq l i
    rw [List.getElem?_cons_succ, ← this]
    rfl
noncomputable def ra_st {α : Type} (l : List α) (x : α) : Nat → List α := List.rec (motive := fun _ => Nat → List α) (fun _ => []) (fun a t ih n => Nat.rec (motive := fun _ => List α) (x :: t) (fun m _ => a :: ih m) n) l
theorem ra_st_eq {α : Type} : ∀ (l : List α) (x : α) (i : Nat), ra_st l x i = l.set i x
  | [], x, i => by simp [ra_st]
  | a :: l, x, 0 => rfl
  | a :: l, x, i + 1 => by
    have := ra_st_eq l x i
    rw [List.set_cons_succ, ← this]
    rfl
noncomputable def ra_dr {α : Type} (l : List α) : Nat → List α := List.rec (motive := fun _ => Nat → List α) (fun _ => []) (fun a t ih n => Nat.rec (motive := fun _ => List α) (a :: t) (fun m _ => ih m) n) l
theorem ra_dr_eq {α : Type} : ∀ (l : List α) (i : Nat), ra_dr l i = l.drop i
  | [], i => by simp [ra_dr]
  | a :: l, 0 => rfl
  | a :: l, i + 1 => by
    have := ra_dr_eq l i
    rw [List.drop_succ_cons, ← this]
    rfl
/-- every sixteenth suffix -/
noncomputable def ra_sf {α : Type} : Nat → List α → List (List α)
  | 0, _ => []
  | n + 1, l => l :: ra_sf n (ra_dr l 16)
noncomputable def ra_bl {α : Type} (l : List α) : List (List α) := ra_sf (l.length / 16 + 1) l
noncomputable def ra_bg {α : Type} (t : List (List α)) (i : Nat) : Option α := match ra_nth t (i / 16) with
  | none => none
  | some u => ra_nth u (i % 16)
theorem ra_sf_get {α : Type} : ∀ (n : Nat) (l : List α) (k : Nat), (ra_sf n l)[k]? = if k < n then some (l.drop (16 * k)) else none
  | 0, l, k => by simp [ra_sf]
  | n + 1, l, 0 => by simp [ra_sf]
  | n + 1, l, k + 1 => by
    unfold ra_sf
    rw [List.getElem?_cons_succ, ra_sf_get n, ra_dr_eq, List.drop_drop]
    rcases Nat.lt_or_ge k n with h | h
    · rw [if_pos h, if_pos (by omega), show 16 + 16 * k = 16 * (k + 1) by omega]
    · rw [if_neg (by omega), if_neg (by omega)]
theorem ra_bl_get {α : Type} (l : List α) (i : Nat) : ra_bg (ra_bl l) i = l[i]? := by
  unfold ra_bg ra_bl
  rw [ra_nth_eq, ra_sf_get]
  rcases Nat.lt_or_ge (i / 16) (l.length / 16 + 1) with h | h
  · rw [if_pos h]
    dsimp only
    rw [ra_nth_eq, List.getElem?_drop, show 16 * (i / 16) + i % 16 = i by omega]
  · rw [if_neg (by omega)]
    dsimp only
    rw [List.getElem?_eq_none (by omega)]
/-- a suffix that begins at place i: the one at hand, or a new one -/
noncomputable def ra_cu {α : Type} (l : List α) (i pos : Nat) (suf : List α) : List α := match Nat.beq i pos with
  | true => suf
  | false => ra_dr l i
theorem ra_cu_eq {α : Type} {l : List α} {i pos : Nat} : ra_cu l i pos (l.drop pos) = l.drop i := by
  unfold ra_cu
  split
  · rename_i h
    rw [Nat.eq_of_beq_eq_true h]
  · exact ra_dr_eq _ _
/-- no number twice, by a mask -/
def ra_ndM : Nat → List Nat → Bool
  | _, [] => true
  | m, i :: is => match Nat.testBit m i with
    | true => false
    | false => ra_ndM (m ||| 2 ^ i) is
theorem ra_ndM_ok : ∀ {is : List Nat} {m : Nat}, ra_ndM m is = true → is.Nodup ∧ ∀ i ∈ is, Nat.testBit m i = false
  | [], _, _ => ⟨List.nodup_nil, fun _ h => by cases h⟩
  | i :: is, m, h => by
    unfold ra_ndM at h
    split at h
    · cases h
    · rename_i hb
      obtain ⟨h1, h2⟩ := ra_ndM_ok h
      refine ⟨List.nodup_cons.mpr ⟨fun hm => ?_, h1⟩, fun j hj => ?_⟩
      · have := h2 i hm
        rw [Nat.testBit_or, Nat.testBit_two_pow_self, Bool.or_true] at this
        cases this
      · rcases List.mem_cons.mp hj with q | q
        · rw [q]; exact hb
        · have := h2 j q
          rw [Nat.testBit_or, Bool.or_eq_false_iff] at this
          exact this.1
/-- is the number there? -/
noncomputable def ra_has (l : List Nat) (n : Nat) : Bool := List.rec (motive := fun _ => Bool) false (fun a _ ih => Bool.rec (motive := fun _ => Bool) ih true (Nat.beq a n)) l
noncomputable def ra_ap {α : Type} (a b : List α) : List α := List.rec (motive := fun _ => List α) b (fun x _ ih => x :: ih) a
theorem ra_ap_eq {α : Type} : ∀ (a b : List α), ra_ap a b = a ++ b
  | [], _ => rfl
  | x :: a, b => by
    rw [List.cons_append, ← ra_ap_eq a b]
    rfl
noncomputable def ra_mp {α β : Type} (f : α → β) (l : List α) : List β := List.rec (motive := fun _ => List β) [] (fun x _ ih => f x :: ih) l
theorem ra_mp_eq {α β : Type} (f : α → β) : ∀ (l : List α), ra_mp f l = l.map f
  | [] => rfl
  | x :: l => by
    rw [List.map_cons, ← ra_mp_eq f l]
    rfl
noncomputable def ra_ln {α : Type} (l : List α) : Nat := List.rec (motive := fun _ => Nat) (nat_lit 0) (fun _ _ ih => Nat.add ih (nat_lit 1)) l
theorem ra_ln_eq {α : Type} : ∀ (l : List α), ra_ln l = l.length
  | [] => rfl
  | x :: l => by
    rw [List.length_cons, ← ra_ln_eq l]
    rfl
theorem ra_nb {a b : Nat} : Nat.beq a b = true ↔ a = b := ⟨Nat.eq_of_beq_eq_true, fun h => by rw [h]; exact Nat.beq_refl b⟩
