noncomputable section
/-! steps without the heap -/
section
variable {p : Program} {l : Launch} {e : Env} {R : Room} {s : State} {m : MethodId} {args : Array Value} {below : List Frame} {meth : Method} {c : Code} {Q : State → Prop}
variable {cc : ByteArray} {own : String} {nL : Nat} {A : Nat → Prop} {D : va_G} {cl : List vw_C} {tys : List (ClassId × FieldType)} {Ts : List Cond} {b0 : Nat → Nat} {ad0 : List Nat} {cT : Nat → ClassId} {n0 : Nat} {v0 : Nat → Int}

def ra_gd {α : Type} (b : Bool) (x : Option α) : Option α := match b with
  | true => x
  | false => none
theorem ra_gd_ok {α : Type} {b : Bool} {x : Option α} {y : α} (h : ra_gd b x = some y) : b = true ∧ x = some y := by
  cases b with
  | true => exact ⟨rfl, h⟩
  | false => cases h
def ra_kf (kt : List (Nat × Int)) (i : Nat) : Option Int := match kt with
  | [] => none
  | q :: kt => if q.1 = i then some q.2 else ra_kf kt i
theorem ra_kf_mem : ∀ {kt : List (Nat × Int)} {i : Nat} {k : Int}, ra_kf kt i = some k → (i, k) ∈ kt
  | [], _, _, h => by simp [ra_kf] at h
  | q :: kt, i, k, h => by
    unfold ra_kf at h
    split at h
    · rename_i hq
      cases h
      exact List.mem_cons.mpr (Or.inl (by rw [← hq]))
    · exact List.mem_cons_of_mem _ (ra_kf_mem h)
def ra_okK (Ts : List Cond) (own : String) (kt : List (Nat × Int)) : Prop := ∀ q ∈ kt, ∃ v : Int32, v.toInt = q.2 ∧ Cond.constant own q.1 v ∈ Ts
def ra_okL (Ts : List Cond) (own : String) (kl : List Nat) : Prop := ∀ q ∈ kl, ∃ v : Int64, Cond.constantLong own q v ∈ Ts
def ra_lop (i : Instr) : Bool := match i with
  | .ladd => true
  | .lsub => true
  | .lmul => true
  | .lor => true
  | .land => true
  | .lxor => true
  | _ => false
def ra_gi2b (_ _ : Int × Int) : Int × Int := (-128, 127)
theorem ra_gi2b_ok : ra_gok (fun x _ => x.toInt8.toInt32) ra_gi2b (fun _ _ => True) := by
  intro a b x y _ _ _ _ _
  have h1 := Int8.le_toInt x.toInt8
  have h2 := Int8.toInt_lt x.toInt8
  have h3 : x.toInt8.toInt32.toInt = x.toInt8.toInt := Int8.toInt_toInt32 _
  unfold ra_gi2b
  dsimp only
  rw [h3]
  omega
def ra_gi2c (_ _ : Int × Int) : Int × Int := (0, 65535)
theorem ra_gi2c_ok : ra_gok (fun x _ => (x.toUInt32 % 65536).toInt32) ra_gi2c (fun _ _ => True) := by
  intro a b x y _ _ _ _ _
  have e := pk_char x
  have h : x.toBitVec.toNat % 65536 < 65536 := Nat.mod_lt _ (by decide)
  unfold ra_gi2c
  dsimp only
  rw [e, nI_toInt (by omega)]
  omega
/-- constants, loads, stores of the frame, arithmetic -/
def ra_p1 (kt : List (Nat × Int)) (kl : List Nat) (nL : Nat) (i : Instr) (n pc : Nat) (a : ra_S) : Option (List (Nat × ra_S)) := match a with
  | (env, lv, st, aw, ce, sl) => match i with
    | .iconst k => ra_gd (n == 1) (some [(pc + 1, (env, lv, .inl (0, (Int32.ofInt k).toInt) :: st, aw, ce, sl))])
    | .bipush k => ra_gd (n == 2) (some [(pc + 2, (env, lv, .inl (0, (Int8.ofInt k).toInt32.toInt) :: st, aw, ce, sl))])
    | .sipush k => ra_gd (n == 3) (some [(pc + 3, (env, lv, .inl (0, (Int16.ofInt k).toInt32.toInt) :: st, aw, ce, sl))])
    | .lconst _ => ra_gd (n == 1) (some [(pc + 1, (env, lv, .inr (.inr (.inl 1)) :: st, aw, ce, sl))])
    | .ldc j => ra_gd (n == 2) (match ra_kf kt j with
      | some k => some [(pc + 2, (env, lv, .inl (0, k) :: st, aw, ce, sl))]
      | none => none)
    | .ldc_w j => ra_gd (n == 3) (match ra_kf kt j with
      | some k => some [(pc + 3, (env, lv, .inl (0, k) :: st, aw, ce, sl))]
      | none => none)
    | .ldc2_w j => ra_gd (n == 3 && kl.contains j) (some [(pc + 3, (env, lv, .inr (.inr (.inl 1)) :: st, aw, ce, sl))])
    | .iload_n k => ra_gd (n == 1) (match ra_lf lv k with
      | some (.inl q) => some [(pc + 1, (env, lv, .inl q :: st, aw, ce, sl))]
      | _ => none)
    | .iload k => ra_gd (n == 2) (match ra_lf lv k with
      | some (.inl q) => some [(pc + 2, (env, lv, .inl q :: st, aw, ce, sl))]
      | _ => none)
    | .lload_n k => ra_gd (n == 1) (match ra_lf lv k with
      | some (.inr (.inr (.inl 1))) => some [(pc + 1, (env, lv, .inr (.inr (.inl 1)) :: st, aw, ce, sl))]
      | _ => none)
    | .lload k => ra_gd (n == 2) (match ra_lf lv k with
      | some (.inr (.inr (.inl 1))) => some [(pc + 2, (env, lv, .inr (.inr (.inl 1)) :: st, aw, ce, sl))]
      | _ => none)
    | .aload_n k => ra_gd (n == 1) (match ra_lf lv k with
      | some (.inr (.inl j)) => some [(pc + 1, (env, lv, .inr (.inl j) :: st, aw, ce, sl))]
      | some (.inr (.inr (.inl z))) => ra_gd (Nat.ble 2 z) (some [(pc + 1, (env, lv, .inr (.inr (.inl z)) :: st, aw, ce, sl))])
      | _ => none)
    | .aload k => ra_gd (n == 2) (match ra_lf lv k with
      | some (.inr (.inl j)) => some [(pc + 2, (env, lv, .inr (.inl j) :: st, aw, ce, sl))]
      | some (.inr (.inr (.inl z))) => ra_gd (Nat.ble 2 z) (some [(pc + 2, (env, lv, .inr (.inr (.inl z)) :: st, aw, ce, sl))])
      | _ => none)
    | .istore_n k => ra_gd (n == 1 && Nat.blt k.val nL) (match st with
      | .inl q :: st => some [(pc + 1, (env, ra_s1 lv k (.inl q), st, aw, ce, sl))]
      | _ => none)
    | .istore k => ra_gd (n == 2 && Nat.blt k nL) (match st with
      | .inl q :: st => some [(pc + 2, (env, ra_s1 lv k (.inl q), st, aw, ce, sl))]
      | _ => none)
    | .lstore_n k => ra_gd (n == 1 && Nat.blt (k.val + 1) nL) (match st with
      | .inr (.inr (.inl 1)) :: st => some [(pc + 1, (env, ra_s2 lv k (.inr (.inr (.inl 1))), st, aw, ce, sl))]
      | _ => none)
    | .lstore k => ra_gd (n == 2 && Nat.blt (k + 1) nL) (match st with
      | .inr (.inr (.inl 1)) :: st => some [(pc + 2, (env, ra_s2 lv k (.inr (.inr (.inl 1))), st, aw, ce, sl))]
      | _ => none)
    | .astore_n k => ra_gd (n == 1 && Nat.blt k.val nL) (match st with
      | .inr (.inl j) :: st => some [(pc + 1, (env, ra_s1 lv k (.inr (.inl j)), st, aw, ce, sl))]
      | .inr (.inr (.inl z)) :: st => ra_gd (Nat.ble 2 z) (some [(pc + 1, (env, ra_s1 lv k (.inr (.inr (.inl z))), st, aw, ce, sl))])
      | _ => none)
    | .astore k => ra_gd (n == 2 && Nat.blt k nL) (match st with
      | .inr (.inl j) :: st => some [(pc + 2, (env, ra_s1 lv k (.inr (.inl j)), st, aw, ce, sl))]
      | .inr (.inr (.inl z)) :: st => ra_gd (Nat.ble 2 z) (some [(pc + 2, (env, ra_s1 lv k (.inr (.inr (.inl z))), st, aw, ce, sl))])
      | _ => none)
    | .iinc k d => ra_gd (n == 3 && Nat.blt k nL) (match ra_lf lv k with
      | some (.inl q) => let r := ra_add env q (0, (Int32.ofInt d).toInt); some [(pc + 3, (r.1, ra_s1 lv k (.inl r.2), st, aw, ce, sl))]
      | _ => none)
    | .idiv => ra_gd (n == 1) (match st with
      | .inl y :: .inl x :: st => ra_gd (let b := ra_rg env y; ra_leb 1 b.1 || ra_leb b.2 (-1)) (let r := ra_bin (fun x y => x / y) ra_gdiv env x y; some [(pc + 1, (r.1, lv, .inl r.2 :: st, aw, ce, sl))])
      | _ => none)
    | .irem => ra_gd (n == 1) (match st with
      | .inl y :: .inl x :: st => ra_gd (let b := ra_rg env y; ra_leb 1 b.1 || ra_leb b.2 (-1)) (let r := ra_bin ra_frem ra_grem env x y; some [(pc + 1, (r.1, lv, .inl r.2 :: st, aw, ce, sl))])
      | _ => none)
    | .lshl => ra_gd (n == 1) (match st with
      | .inl _ :: .inr (.inr (.inl 1)) :: st => some [(pc + 1, (env, lv, .inr (.inr (.inl 1)) :: st, aw, ce, sl))]
      | _ => none)
    | .lcmp => ra_gd (n == 1) (match st with
      | .inr (.inr (.inl 1)) :: .inr (.inr (.inl 1)) :: st => let r := ra_fr env ra_lo ra_hi; some [(pc + 1, (r.1, lv, .inl r.2 :: st, aw, ce, sl))]
      | _ => none)
    | .i2l => ra_gd (n == 1) (match st with
      | .inl _ :: st => some [(pc + 1, (env, lv, .inr (.inr (.inl 1)) :: st, aw, ce, sl))]
      | _ => none)
    | .l2i => ra_gd (n == 1) (match st with
      | .inr (.inr (.inl 1)) :: st => let r := ra_fr env ra_lo ra_hi; some [(pc + 1, (r.1, lv, .inl r.2 :: st, aw, ce, sl))]
      | _ => none)
    | .i2b => ra_gd (n == 1) (match st with
      | .inl x :: st => let r := ra_bin (fun x _ => x.toInt8.toInt32) ra_gi2b env x (0, 0); some [(pc + 1, (r.1, lv, .inl r.2 :: st, aw, ce, sl))]
      | _ => none)
    | .i2c => ra_gd (n == 1) (match st with
      | .inl x :: st => let r := ra_bin (fun x _ => (x.toUInt32 % 65536).toInt32) ra_gi2c env x (0, 0); some [(pc + 1, (r.1, lv, .inl r.2 :: st, aw, ce, sl))]
      | _ => none)
    | .dup => ra_gd (n == 1) (match st with
      | x :: st => ra_gd (!ra_two x) (some [(pc + 1, (env, lv, x :: x :: st, aw, ce, sl))])
      | _ => none)
    | .dup2 => ra_gd (n == 1) (match st with
      | x :: y :: st => ra_gd (!ra_two x && !ra_two y) (some [(pc + 1, (env, lv, x :: y :: x :: y :: st, aw, ce, sl))])
      | _ => none)
    | .pop => ra_gd (n == 1) (match st with
      | x :: st => ra_gd (!ra_two x) (some [(pc + 1, (env, lv, st, aw, ce, sl))])
      | _ => none)
    | .goto off => ra_gd (n == 3 && ra_leb 0 ((pc : Int) + off)) (some [(ra_tg pc off, (env, lv, st, aw, ce, sl))])
    | _ => match ra_bop i with
      | some op => ra_gd (n == 1) (match st with
        | .inl y :: .inl x :: st => let r := op env x y; some [(pc + 1, (r.1, lv, .inl r.2 :: st, aw, ce, sl))]
        | _ => none)
      | none => ra_gd (n == 1 && ra_lop i) (match st with
        | .inr (.inr (.inl 1)) :: .inr (.inr (.inl 1)) :: st => some [(pc + 1, (env, lv, .inr (.inr (.inl 1)) :: st, aw, ce, sl))]
        | _ => none)
end
end
