noncomputable section
/-! the machine's steps over states -/
section
variable {p : Program} {l : Launch} {e : Env} {R : Room} {s : State} {m : MethodId} {args : Array Value} {below : List Frame} {meth : Method} {c : Code} {Q : State → Prop}
variable {cc : ByteArray} {own : String} {nL : Nat} {A : Nat → Prop} {D : va_G} {cl : List vw_C} {tys : List (ClassId × FieldType)} {Ts : List Cond} {b0 : Nat → Nat} {ad0 : List Nat} {cT : Nat → ClassId} {n0 : Nat} {v0 : Nat → Int}
def ra_X (p : Program) (s : State) (m : MethodId) (args : Array Value) (c : Code) (cc : ByteArray) (own : String) (nL : Nat) (A : Nat → Prop) (D : va_G) (cl : List vw_C) (tys : List (ClassId × FieldType)) (Ts : List Cond) : Prop :=
  p.tables.exec = Jvm.exec ∧ c.code = cc ∧ c.maxLocals = nL ∧ s.vm.findClass own = some m.cls ∧ (∀ w ∈ Ts, w.before args s = true) ∧ va_K D cl tys s ∧ ∀ q : Nat, s.heap.size ≤ q → A q
def ra_W (p : Program) (l : Launch) (e : Env) (R : Room) (s : State) (m : MethodId) (args : Array Value) (below : List Frame) (meth : Method) (c : Code) (Q : State → Prop) (nL : Nat) (A : Nat → Prop) (D : va_G) (cl : List vw_C) (pc : Nat) (lv : List (Nat × Value)) (st : List Value) (ws : va_W) (ce sl : Nat) : Prop :=
  ∀ (H : Heap) (locs : List Loc) (ls : Array Slot), va_P D cl ws H → va_D A ws → va_S A s.heap H locs → lv_has ls nL lv → W p l e R s m args below meth c H locs ce sl Q (F0 m pc ls st)
def ra_ok (p : Program) (l : Launch) (e : Env) (R : Room) (s : State) (m : MethodId) (args : Array Value) (below : List Frame) (meth : Method) (c : Code) (Q : State → Prop) (nL : Nat) (A : Nat → Prop) (D : va_G) (cl : List vw_C) (b0 : Nat → Nat) (ad0 : List Nat) (cT : Nat → ClassId) (n0 : Nat) (v0 : Nat → Int) (x : Nat × ra_S) : Prop :=
  n0 ≤ x.2.1.length → ∀ (v : Nat → Int) (lv : List (Nat × Value)) (st : List Value) (ws : va_W), ra_g b0 ad0 cT v x.2 lv st ws → (∀ i, i < n0 → v i = v0 i) → ra_W p l e R s m args below meth c Q nL A D cl x.1 lv st ws x.2.2.2.2.2.1 x.2.2.2.2.2.2
theorem ra_g_ext {v v' : Nat → Int} {env env' : ra_N} {lv : List (Nat × ra_V)} {st : List ra_V} {aw : List ra_C} {ce sl : Nat} {lvv : List (Nat × Value)} {stv : List Value} {ws : va_W} (h : ra_g b0 ad0 cT v (env, lv, st, aw, ce, sl) lvv stv ws) (hn : env.length ≤ env'.length) (hv : ∀ i, i < env.length → v' i = v i) (hN : ra_cN v' env') : ra_g b0 ad0 cT v' (env', lv, st, aw, ce, sl) lvv stv ws := by
  obtain ⟨h1, h2, h3, h4, h5⟩ := h
  exact ⟨hN, ra_a2_mono (fun a b q => ⟨q.1, ra_cV_ext hn hv (fun _ _ z => z) q.2⟩) h2, ra_a2_mono (fun a b q => ra_cV_ext hn hv (fun _ _ z => z) q) h3, ra_a2_mono (fun a b q => ra_cC_ext hn hv (fun _ _ z => z) q) h4, h5⟩
/-- the rest of a stack, something pushed -/
theorem ra_g_st {v : Nat → Int} {env : ra_N} {lv : List (Nat × ra_V)} {st st' : List ra_V} {aw : List ra_C} {ce sl ce' sl' : Nat} {lvv : List (Nat × Value)} {stv stv' : List Value} {ws : va_W} (h : ra_g b0 ad0 cT v (env, lv, st, aw, ce, sl) lvv stv ws) (hs : ra_a2 (ra_cV env.length v (ws.map Prod.fst) b0) st' stv') : ra_g b0 ad0 cT v (env, lv, st', aw, ce', sl') lvv stv' ws := ⟨h.1, h.2.1, hs, h.2.2.2⟩
theorem ra_a2_cons {α β : Type} {R : α → β → Prop} {a : α} {as : List α} {bs : List β} (h : ra_a2 R (a :: as) bs) : ∃ b bs', bs = b :: bs' ∧ R a b ∧ ra_a2 R as bs' := by
  cases bs with
  | nil => exact h.elim
  | cons b bs => exact ⟨b, bs, rfl, h.1, h.2⟩
theorem ra_cV_const {v : Nat → Int} {env : ra_N} {ads : List Nat} (hN : ra_cN v env) {k : Int} {y : Int32} (h : y.toInt = k) : ra_cV env.length v ads b0 (.inl (0, k)) (.int y) := ⟨hN.1, y, rfl, by show y.toInt = v 0 + k; rw [hN.2.1, h]; omega⟩
/-- a jump's target -/
def ra_tg (pc : Nat) (off : Int) : Nat := ((pc : Int) + off).toNat
def ra_lf (lv : List (Nat × ra_V)) (i : Nat) : Option ra_V := match lv with
  | [] => none
  | q :: lv => if q.1 = i then some q.2 else ra_lf lv i
theorem ra_lf_ok {n : Nat} {v : Nat → Int} {ads : List Nat} : ∀ {lv : List (Nat × ra_V)} {lvv : List (Nat × Value)} {i : Nat} {a : ra_V}, ra_lf lv i = some a → ra_a2 (fun (p : Nat × ra_V) (q : Nat × Value) => p.1 = q.1 ∧ ra_cV n v ads b0 p.2 q.2) lv lvv → ∃ (k : Nat) (x : Value), lvv[k]? = some (i, x) ∧ ra_cV n v ads b0 a x
  | [], _, _, _, h, _ => by simp [ra_lf] at h
  | q :: lv, lvv, i, a, h, h2 => by
    obtain ⟨b, bs, rfl, h3, h4⟩ := ra_a2_cons h2
    unfold ra_lf at h
    split at h
    · rename_i hq
      cases h
      exact ⟨0, b.2, by simp [← hq, h3.1], h3.2⟩
    · obtain ⟨k, x, g1, g2⟩ := ra_lf_ok h h4
      exact ⟨k + 1, x, by simpa using g1, g2⟩
def ra_two (a : ra_V) : Bool := match a with
  | .inr (.inr (.inl k)) => k == 1
  | .inr (.inr (.inr _)) => true
  | _ => false
theorem ra_two_ok {n : Nat} {v : Nat → Int} {ads : List Nat} {a : ra_V} {x : Value} (h : ra_cV n v ads b0 a x) : (x.category == 2) = ra_two a := by
  rcases a with q | i | k | k
  · obtain ⟨_, y, rfl, _⟩ := h
    rfl
  · obtain ⟨r, _, rfl⟩ := h
    rfl
  · rcases h with ⟨rfl, rfl⟩ | ⟨rfl, y, rfl⟩ | ⟨h1, rfl⟩
    · rfl
    · rfl
    · show false = (k == 1)
      have : ¬ k = 1 := by omega
      simp [this]
  · obtain ⟨_, y, rfl, _⟩ := h
    rfl
def ra_s1 (lv : List (Nat × ra_V)) (i : Nat) (a : ra_V) : List (Nat × ra_V) := (i, a) :: lv.filter (fun q => !(q.1 == i) && !(q.1 + 1 == i && ra_two q.2))
def ra_s2 (lv : List (Nat × ra_V)) (i : Nat) (a : ra_V) : List (Nat × ra_V) := (i, a) :: lv.filter (fun q => !(q.1 == i) && (!(q.1 == i + 1) && !(q.1 + 1 == i && ra_two q.2)))
theorem ra_s1_ok {n : Nat} {v : Nat → Int} {ads : List Nat} {lv : List (Nat × ra_V)} {lvv : List (Nat × Value)} {i : Nat} {a : ra_V} {x : Value} (h : ra_a2 (fun (p : Nat × ra_V) (q : Nat × Value) => p.1 = q.1 ∧ ra_cV n v ads b0 p.2 q.2) lv lvv) (hx : ra_cV n v ads b0 a x) : ra_a2 (fun (p : Nat × ra_V) (q : Nat × Value) => p.1 = q.1 ∧ ra_cV n v ads b0 p.2 q.2) (ra_s1 lv i a) ((i, x) :: lvv.filter (fun q => !(q.1 == i) && !(q.1 + 1 == i && q.2.category == 2))) :=
  ⟨⟨rfl, hx⟩, ra_a2_filter (fun a b q => by rw [q.1, ra_two_ok q.2]) h⟩
theorem ra_s2_ok {n : Nat} {v : Nat → Int} {ads : List Nat} {lv : List (Nat × ra_V)} {lvv : List (Nat × Value)} {i : Nat} {a : ra_V} {x : Value} (h : ra_a2 (fun (p : Nat × ra_V) (q : Nat × Value) => p.1 = q.1 ∧ ra_cV n v ads b0 p.2 q.2) lv lvv) (hx : ra_cV n v ads b0 a x) : ra_a2 (fun (p : Nat × ra_V) (q : Nat × Value) => p.1 = q.1 ∧ ra_cV n v ads b0 p.2 q.2) (ra_s2 lv i a) ((i, x) :: lvv.filter (fun q => !(q.1 == i) && (!(q.1 == i + 1) && !(q.1 + 1 == i && q.2.category == 2)))) :=
  ⟨⟨rfl, hx⟩, ra_a2_filter (fun a b q => by rw [q.1, ra_two_ok q.2]) h⟩
/-- an int operation: the function, and its abstract one -/
def ra_bop (i : Instr) : Option (ra_N → Nat × Int → Nat × Int → ra_N × (Nat × Int)) := match i with
  | .iadd => some ra_add
  | .isub => some ra_sub
  | .imul => some (ra_bin (fun x y => x * y) ra_gmul)
  | .iand => some ra_and
  | .ior => some (ra_bin (fun x y => x ||| y) ra_gor)
  | .ixor => some (ra_bin (fun x y => x ^^^ y) ra_top)
  | .ishl => some (ra_bin (fun x y => x <<< (y &&& 31)) ra_gshl)
  | .ishr => some (ra_bin (fun x y => x >>> (y &&& 31)) ra_top)
  | .iushr => some (ra_bin (fun x y => (x.toUInt32 >>> (y.toUInt32 &&& Int32.toUInt32 31)).toInt32) ra_top)
  | _ => none
def ra_bopv (i : Instr) (x y : Int32) : Int32 := match i with
  | .iadd => x + y
  | .isub => x - y
  | .imul => x * y
  | .iand => x &&& y
  | .ior => x ||| y
  | .ixor => x ^^^ y
  | .ishl => x <<< (y &&& 31)
  | .ishr => x >>> (y &&& 31)
  | .iushr => (x.toUInt32 >>> (y.toUInt32 &&& Int32.toUInt32 31)).toInt32
  | _ => 0
theorem ra_bop_ok {i : Instr} {op : ra_N → Nat × Int → Nat × Int → ra_N × (Nat × Int)} (h : ra_bop i = some op) {v : Nat → Int} {env : ra_N} (hN : ra_cN v env) {qx qy : Nat × Int} {x y : Int32} (hx : qx.1 < env.length) (hy : qy.1 < env.length) (ex : x.toInt = v qx.1 + qx.2) (ey : y.toInt = v qy.1 + qy.2) : ra_res v env (op env qx qy) (ra_bopv i x y).toInt := by
  unfold ra_bop at h
  split at h <;> first | (cases h; done) | skip
  · cases h; exact ra_add_ok hN hx hy ex ey
  · cases h; exact ra_sub_ok hN hx hy ex ey
  · cases h; exact ra_bin_ok ra_gmul_ok hN hx hy ex ey trivial
  · cases h; exact ra_and_ok hN hx hy ex ey
  · cases h; exact ra_bin_ok ra_gor_ok hN hx hy ex ey trivial
  · cases h; exact ra_bin_ok (ra_top_ok (fun x y => x ^^^ y) (fun _ _ => True)) hN hx hy ex ey trivial
  · cases h; exact ra_bin_ok ra_gshl_ok hN hx hy ex ey trivial
  · cases h; exact ra_bin_ok (ra_top_ok (fun x y => x >>> (y &&& 31)) (fun _ _ => True)) hN hx hy ex ey trivial
  · cases h; exact ra_bin_ok (ra_top_ok (fun x y => (x.toUInt32 >>> (y.toUInt32 &&& Int32.toUInt32 31)).toInt32) (fun _ _ => True)) hN hx hy ex ey trivial
theorem ra_bopW {i : Instr} {op : ra_N → Nat × Int → Nat × Int → ra_N × (Nat × Int)} (h : ra_bop i = some op) (X : ra_X p s m args c cc own nL A D cl tys Ts) {pc : Nat} (hdg : decode cc pc = .ok (i, 1)) {x y : Int32} {lv : List (Nat × Value)} {st : List Value} {ws : va_W} {ce sl : Nat} (k : ra_W p l e R s m args below meth c Q nL A D cl (pc + 1) lv (.int (ra_bopv i x y) :: st) ws ce sl) : ra_W p l e R s m args below meth c Q nL A D cl pc lv (.int y :: .int x :: st) ws ce sl := by
  intro H locs ls hP hD hS hl
  have k := k H locs ls hP hD hS hl
  obtain ⟨hx, hb, -⟩ := X
  unfold ra_bop at h
  split at h <;> first | (cases h; done) | skip
  · exact lv_iadd hx hb hdg k
  · exact lv_isub hx hb hdg k
  · exact lv_imul hx hb hdg k
  · exact lv_iand hx hb hdg k
  · exact lv_ior hx hb hdg k
  · exact lv_ixor hx hb hdg k
  · exact lv_ishl hx hb hdg k
  · exact lv_ishr hx hb hdg k
  · exact lv_iushr hx hb hdg rfl k
/-- numbers of comparisons -/
def ra_ck (k : ClassFile.Cond) : Nat := match k with
  | .lt => 0
  | .ge => 1
  | .eq => 2
  | .ne => 3
  | .gt => 4
  | .le => 5
def ra_nk (k : ClassFile.Cond) : Nat := match k with
  | .lt => 1
  | .ge => 0
  | .eq => 3
  | .ne => 2
  | .gt => 5
  | .le => 4
theorem ra_icmpW (X : ra_X p s m args c cc own nL A D cl tys Ts) {pc : Nat} {k : ClassFile.Cond} {off : Int} {tgt : Nat} (hdg : decode cc pc = .ok (.if_icmp k off, 3)) (ht : (pc : Int) + off = (tgt : Int)) {x y : Int32} {lv : List (Nat × Value)} {st : List Value} {ws : va_W} {ce sl : Nat} (kt : ra_cmpP (ra_ck k) x y → ra_W p l e R s m args below meth c Q nL A D cl tgt lv st ws ce sl) (kf : ra_cmpP (ra_nk k) x y → ra_W p l e R s m args below meth c Q nL A D cl (pc + 3) lv st ws ce sl) : ra_W p l e R s m args below meth c Q nL A D cl pc lv (.int y :: .int x :: st) ws ce sl := by
  intro H locs ls hP hD hS hl
  obtain ⟨hx, hb, -⟩ := X
  cases k with
  | lt => exact lv_icmp_lt hx hb hdg ht (fun q => kt q H locs ls hP hD hS hl) (fun q => kf (Int32.not_lt.mp q) H locs ls hP hD hS hl)
  | ge => exact lv_icmp_ge hx hb hdg ht (fun q => kt q H locs ls hP hD hS hl) (fun q => kf (Int32.not_le.mp q) H locs ls hP hD hS hl)
  | eq => exact lv_icmp_eq hx hb hdg ht (fun q => kt q H locs ls hP hD hS hl) (fun q => kf q H locs ls hP hD hS hl)
  | ne => exact lv_icmp_ne hx hb hdg ht (fun q => kt q H locs ls hP hD hS hl) (fun q => kf q H locs ls hP hD hS hl)
  | gt => exact lv_icmp_gt hx hb hdg ht (fun q => kt q H locs ls hP hD hS hl) (fun q => kf (Int32.not_lt.mp q) H locs ls hP hD hS hl)
  | le => exact lv_icmp_le hx hb hdg ht (fun q => kt q H locs ls hP hD hS hl) (fun q => kf (Int32.not_le.mp q) H locs ls hP hD hS hl)
theorem ra_ifW (X : ra_X p s m args c cc own nL A D cl tys Ts) {pc : Nat} {k : ClassFile.Cond} {off : Int} {tgt : Nat} (hdg : decode cc pc = .ok (.ifCond k off, 3)) (ht : (pc : Int) + off = (tgt : Int)) {x : Int32} {lv : List (Nat × Value)} {st : List Value} {ws : va_W} {ce sl : Nat} (kt : ra_cmpP (ra_ck k) x 0 → ra_W p l e R s m args below meth c Q nL A D cl tgt lv st ws ce sl) (kf : ra_cmpP (ra_nk k) x 0 → ra_W p l e R s m args below meth c Q nL A D cl (pc + 3) lv st ws ce sl) : ra_W p l e R s m args below meth c Q nL A D cl pc lv (.int x :: st) ws ce sl := by
  intro H locs ls hP hD hS hl
  obtain ⟨hx, hb, -⟩ := X
  cases k with
  | lt => exact lv_if_lt hx hb hdg ht (fun q => kt q H locs ls hP hD hS hl) (fun q => kf (Int32.not_lt.mp q) H locs ls hP hD hS hl)
  | ge => exact lv_if_ge hx hb hdg ht (fun q => kt q H locs ls hP hD hS hl) (fun q => kf (Int32.not_le.mp q) H locs ls hP hD hS hl)
  | eq => exact lv_if_eq hx hb hdg ht (fun q => kt q H locs ls hP hD hS hl) (fun q => kf q H locs ls hP hD hS hl)
  | ne => exact lv_if_ne hx hb hdg ht (fun q => kt q H locs ls hP hD hS hl) (fun q => kf q H locs ls hP hD hS hl)
  | gt => exact lv_if_gt hx hb hdg ht (fun q => kt q H locs ls hP hD hS hl) (fun q => kf (Int32.not_lt.mp q) H locs ls hP hD hS hl)
  | le => exact lv_if_le hx hb hdg ht (fun q => kt q H locs ls hP hD hS hl) (fun q => kf (Int32.not_le.mp q) H locs ls hP hD hS hl)
end
end
