/-! THE CLAIM OUT OF ONE WALK OF THE LAW'S BODY. Your part is whole_start (and what it stands on); all else here is the same for every law, but numbers. -/
def R_law : String := "BathWaterLaw"
def lw_P (b : Addr) (xs : List Int32) (args : Array Value) (s : State) : Prop := args = #[.ref b] ∧ s.IntsAt b xs ∧ xs.length ≤ 6 ∧ (Jvm.Cond.and given_1 narrow_1).before args s = true
def lw_Q (_ : Array Value) (s : State) (o : Outcome) (t : State) : Prop := o = .returned (some (.int 1)) ∧ Framed s o t [] 600000 7302250
def lw_Z (below : List Frame) (a : Array Value) (s : State) : State → Prop := fun t => ∃ o, t.status = .running ∧ Ended t below o ∧ lw_Q a s o t
/-- the law's own end, with 1 on the stack, nothing written that was there before, its room as the claim has it -/
theorem lw_ret {p : Program} {l : Launch} {e : Env} {s : State} {m : MethodId} {below : List Frame} {meth : Method} {c : Code} {b : Nat} (hx : p.tables.exec = Jvm.exec) (hb : c.code = code) (hr : meth.sig.returnType = ret) (hlocks : meth.locks = false) {pc : Nat} {H : Heap} {ls : Array Slot} (hdg : decode code pc = .ok (.ireturn, 1)) : W p l e room_1 s m #[Value.ref b] below meth c H [] 600000 7302250 (lw_Z below #[Value.ref b] s) (F0 m pc ls [.int 1]) := by
  intro T hT X
  obtain ⟨fs, hret, hrun, hended, hW, hframe⟩ := X.leave (v := some (.int 1)) (hlocks := hlocks) (fun h => by rw [hr] at h; cases h)
  have hmeth' : T.vm.method? m = some meth := X.method'
  refine ⟨T.setFrames fs, ?_, .returned (some (.int 1)), hrun, hended, rfl, ⟨_, rfl⟩, hW, hframe⟩
  jvm_step X.here [X.here.top, hx, hb, hdg, hmeth', hr, ret, narrow_b1]
  (try refine ⟨rfl, ?_⟩); (try refine ⟨rfl, ?_⟩)
  first | (intro acts; rw [hret _ acts rfl rfl rfl]) | rw [hret _ _ rfl rfl rfl]
  exact Steps.refl _
/-- what holds at the law's entry: the machine, the code, the tables' words (any of lw_tbl by 'hts w (by decide +kernel)'), the script of L ints xs at the cell b, what the Statement gives of the start (any of its parts by flat_of_before) -/
def lw_At (p : Program) (s : State) (m : MethodId) (meth : Method) (c : Code) (b L : Nat) (xs : Nat → Int32) : Prop :=
  p.tables.exec = Jvm.exec ∧ c.code = code ∧ meth.sig.returnType = ret ∧ c.maxLocals = 4 ∧ s.vm.findClass R_law = some m.cls ∧ (∀ w ∈ lw_tbl, w.before #[Value.ref b] s = true) ∧ va_X b L xs s s.heap ∧ b < s.heap.size ∧ meth.locks = false ∧ (Jvm.Cond.and given_1 narrow_1).before #[Value.ref b] s = true
theorem pInst : ∀ w ∈ vwCl.map (fun r => Cond.instantiable r.1 r.2.2), w ∈ pT := tb_all (ps := [349, 373, 416, 228, 174, 143, 180, 149, 135, 1209]) (by decide +kernel)
theorem pAO : lw_tbl[355]? = some (Cond.arrayOver (.object "BathWater$Scene")) := by decide +kernel
theorem pNWin : pNW.map (fun q => Cond.methodLinkNest q.1 q.2.1 q.2.2.1 q.2.2.2) = [144, 150, 229, 374, 417].filterMap (fun i => lw_tbl[i]?) := by decide +kernel
theorem p_arr {s : State} {args : Array Value} {ty : FieldType} (h : (Cond.arrayClass ty).before args s = true) (hty : ∀ C, ty ≠ .object C) : ∃ cA : ClassId, ArrOfT s cA ty ∧ va_RA s cA ty := by
  obtain ⟨c, k, comp, h1, h2, h3⟩ := Cond.arrayClass_spec h
  refine ⟨c, fun n z => ⟨fun k h => (by cases h), k, h2, comp, h3⟩, ?_⟩
  cases ty with
  | object C => exact absurd rfl (hty C)
  | _ => exact h1
theorem p_known {s : State} {args : Array Value} (hts : ∀ w ∈ lw_tbl, w.before args s = true) : ∃ (D : va_G) (cT : Nat → ClassId), va_K D vwCl (ra_T "BathWater$Scene" cT) s := by
  have hp : ∀ w ∈ pT, w.before args s = true := fun w hw => hts w (pT_sub w hw)
  have hk : ∀ ci : Nat, ∃ (cC : ClassId) (iS : Nat → Nat), ∀ r, vwCl[ci]? = some r → u_Kn s r.1 r.2.1 r.2.2 cC iS := by
    intro ci
    cases hr : vwCl[ci]? with
    | none => exact ⟨0, id, fun r h => by cases h⟩
    | some r =>
      obtain ⟨cC, iS, h⟩ := u_known (C := r.1) (T := r.2.1) (N := r.2.2) (n := r.2.2) hp (pOkC ci r hr).1 (hp _ (pInst _ (List.mem_map.mpr ⟨r, List.mem_of_getElem? hr, rfl⟩)))
      exact ⟨cC, iS, fun r' h' => by cases h'; exact h⟩
  obtain ⟨c0, a0⟩ := p_arr (hp _ pOkA.1) (fun C h => by cases h)
  obtain ⟨c1, a1⟩ := p_arr (hp _ pOkA.2.1) (fun C h => by cases h)
  obtain ⟨c2, a2⟩ := p_arr (hp _ pOkA.2.2.1) (fun C h => by cases h)
  obtain ⟨c3, a3⟩ := p_arr (hp _ pOkA.2.2.2) (fun C h => by cases h)
  obtain ⟨comp, c4, k4, h1, h2, h3, h4, h5⟩ := Cond.arrayOver_spec (hts _ (List.mem_of_getElem? pAO))
  refine ⟨(fun ci => Classical.choose (hk ci), fun ci => Classical.choose (Classical.choose_spec (hk ci))), fun i => match i with
    | 0 => c0
    | 1 => c1
    | 2 => c2
    | 3 => c3
    | _ => c4, fun ci r hr => Classical.choose_spec (Classical.choose_spec (hk ci)) r hr, fun k q hq => ?_⟩
  match k, hq with
  | 0, hq => cases hq; exact a0
  | 1, hq => cases hq; exact a1
  | 2, hq => cases hq; exact a2
  | 3, hq => cases hq; exact a3
  | 4, hq => cases hq; exact ⟨fun n z => ⟨fun k h => (by cases h), k4, h3, comp, h4⟩, k4, comp, h3, h4, h1, h5⟩
  | k + 5, hq => simp [ra_T] at hq
theorem p_Ex {s : State} {args : Array Value} (hts : ∀ w ∈ lw_tbl, w.before args s = true) : ra_Ex "BathWater$Scene" pNW s := by
  refine ⟨va_AO.of (hts _ (List.mem_of_getElem? pAO)), fun q hq => ?_⟩
  have hm : Cond.methodLinkNest q.1 q.2.1 q.2.2.1 q.2.2.2 ∈ pNW.map (fun q => Cond.methodLinkNest q.1 q.2.1 q.2.2.1 q.2.2.2) := List.mem_map.mpr ⟨q, hq, rfl⟩
  rw [pNWin] at hm
  obtain ⟨i, -, hi⟩ := List.mem_filterMap.mp hm
  exact va_Nw.of rfl (hts _ (List.mem_of_getElem? hi))
set_option maxHeartbeats 4000000 in
theorem whole_start {p : Program} {e : Env} {s : State} {m : MethodId} {below : List Frame} {meth : Method} {c : Code} (l : Launch) (hflags : l.flags = flags0) {b L : Nat} {xs : Nat → Int32} (hL : L ≤ 6) (C0 : lw_At p s m meth c b L xs) : W p l e room_1 s m #[Value.ref b] below meth c s.heap [] 0 0 (lw_Z below #[Value.ref b] s) (entryFrame m ([Value.ref b] : List Value).toArray 4) := by
  obtain ⟨hx, hb, hr, hml, hown, hts, hX, hbl, hlocks, hgv⟩ := id C0
  obtain ⟨D, cT, hK⟩ := p_known hts
  have hEx := p_Ex hts
  have hp : ∀ w ∈ pT, w.before #[Value.ref b] s = true := fun w hw => hts w (pT_sub w hw)
  have hA : ∀ q : Nat, s.heap.size ≤ q → (fun q : Nat => s.heap.size ≤ q) q := fun _ h => h
  have hbA : ¬ (fun q : Nat => s.heap.size ≤ q) b := Nat.not_le.mpr hbl
  have X : ra_X p s m #[Value.ref b] c code "BathWaterLaw" 4 (fun q : Nat => s.heap.size ≤ q) D vwCl (ra_T "BathWater$Scene" cT) pT := ⟨hx, hb, hml, hown, hp, hK, hA⟩
  let v0 : Nat → Int := fun i => if i = 0 then 0 else if i = 1 then (L : Int) else (xs (i - 2)).toInt
  have hsc : ra_scr s (fun q : Nat => s.heap.size ≤ q) (fun _ => b) 8 v0 := ⟨L, xs, hX, hbl, hbA, by omega, by decide, rfl, fun j h1 h2 => by
    show (if 2 + j = 0 then (0 : Int) else if 2 + j = 1 then (L : Int) else (xs (2 + j - 2)).toInt) = _
    rw [if_neg (by omega), if_neg (by omega), show 2 + j - 2 = j by omega]⟩
  have hLaw : ∀ (pc : Nat) (lv : List (Nat × Value)) (ws : va_W) (ce sl : Nat), decode code pc = .ok (.ireturn, 1) → ce ≤ 600000 → sl ≤ 7302250 → ra_W p l e room_1 s m #[Value.ref b] below meth c (lw_Z below #[Value.ref b] s) 4 (fun q : Nat => s.heap.size ≤ q) D vwCl pc lv [.int 1] ws ce sl := by
    intro pc lv ws ce sl hdg h1 h2 H locs ls hP hD hS hl
    refine va_forget (fun q hq => hS.2.2 q hq) ?_
    refine W.widen (k := 600000) (n := 7302250) h1 h2 ?_
    exact lw_ret hx hb hr hlocks hdg
  have run : ∀ {I : ra_I} (_ : ra_okI pT "BathWaterLaw" "BathWater$Scene" vwCl pNW pMT code I) {K : List ra_K} {cuts : List ra_U} {cps : List Nat} {f : Nat} {w : List (Nat × ra_S)} {tp : List ra_Hn}, (∀ k ∈ K, ra_Hk l "BathWater$Scene" pNW pT pMT D vwCl cT k) → (∀ u ∈ cuts, ∀ (v : Nat → Int) (lv : List (Nat × Value)) (st : List Value) (ws : va_W), ra_g (fun _ => b) [] cT v u.2.1 lv st ws → (∀ i, i < 8 → v i = v0 i) → 0 ≤ ra_ev v u.2.2 → ra_ev v u.2.2 < ra_ev v0 ra_big → ra_W p l e room_1 s m #[Value.ref b] below meth c (lw_Z below #[Value.ref b] s) 4 (fun q : Nat => s.heap.size ≤ q) D vwCl u.1 lv st ws u.2.1.2.2.2.2.1 u.2.1.2.2.2.2.2) → ra_chk 6 4 vwCl tyv none 6 true pMT K 600000 7302250 2048 84000 I (some .boolean) 8 [] 600000 7302250 cuts cps ra_big f w tp = true → ∀ x ∈ w, ra_ok p l e room_1 s m #[Value.ref b] below meth c (lw_Z below #[Value.ref b] s) 4 (fun q : Nat => s.heap.size ≤ q) D vwCl (fun _ => b) [] cT 8 v0 x :=
    fun {I} hI {K} {cuts} {cps} {f} {w} {tp} hKs hC h => ra_chk_ok (ws0 := []) (vE := v0) X hEx pT_good hI pOkC (fun _ h => by cases h) pSci rfl (fun _ => hsc) pOkA hKs (Nat.le_refl _) (Nat.le_refl _) (Nat.le_refl _) (Nat.le_refl _) (Nat.le_refl _) (fun _ _ => rfl) rfl (fun _ => hLaw) (fun h => by cases h) (fun t ht => by cases ht) hC h
  have hU : ∀ u ∈ lawU, ra_ok p l e room_1 s m #[Value.ref b] below meth c (lw_Z below #[Value.ref b] s) 4 (fun q : Nat => s.heap.size ≤ q) D vwCl (fun _ => b) [] cT 8 v0 (u.1, u.2.1) := by
    unfold lawU
    exact List.forall_mem_cons.mpr ⟨run oI_lw0 (lk_0 l D cT) (fun _ h => absurd h List.not_mem_nil) lc_0 _ (List.mem_singleton.mpr rfl), List.forall_mem_cons.mpr ⟨run oI_lw1 (lk_1 l D cT) (fun _ h => absurd h List.not_mem_nil) lc_1 _ (List.mem_singleton.mpr rfl), List.forall_mem_cons.mpr ⟨run oI_lw2 (lk_2 l D cT) (fun _ h => absurd h List.not_mem_nil) lc_2 _ (List.mem_singleton.mpr rfl), List.forall_mem_cons.mpr ⟨run oI_lw3 (lk_3 l D cT) (fun _ h => absurd h List.not_mem_nil) lc_3 _ (List.mem_singleton.mpr rfl), List.forall_mem_cons.mpr ⟨run oI_lw4 (lk_4 l D cT) (fun _ h => absurd h List.not_mem_nil) lc_4 _ (List.mem_singleton.mpr rfl), List.forall_mem_cons.mpr ⟨run oI_lw5 (lk_5 l D cT) (fun _ h => absurd h List.not_mem_nil) lc_5 _ (List.mem_singleton.mpr rfl), List.forall_mem_cons.mpr ⟨run oI_lw6 (lk_6 l D cT) (fun _ h => absurd h List.not_mem_nil) lc_6 _ (List.mem_singleton.mpr rfl), List.forall_mem_cons.mpr ⟨run oI_lw7 (lk_7 l D cT) (fun _ h => absurd h List.not_mem_nil) lc_7 _ (List.mem_singleton.mpr rfl), List.forall_mem_cons.mpr ⟨run oI_lw8 (lk_8 l D cT) (fun _ h => absurd h List.not_mem_nil) lc_8 _ (List.mem_singleton.mpr rfl), List.forall_mem_cons.mpr ⟨run oI_lw9 (lk_9 l D cT) (fun _ h => absurd h List.not_mem_nil) lc_9 _ (List.mem_singleton.mpr rfl), List.forall_mem_cons.mpr ⟨run oI_lw10 (lk_10 l D cT) (fun _ h => absurd h List.not_mem_nil) lc_10 _ (List.mem_singleton.mpr rfl), List.forall_mem_cons.mpr ⟨run oI_lw11 (lk_11 l D cT) (fun _ h => absurd h List.not_mem_nil) lc_11 _ (List.mem_singleton.mpr rfl), List.forall_mem_cons.mpr ⟨run oI_lw12 (lk_12 l D cT) (fun _ h => absurd h List.not_mem_nil) lc_12 _ (List.mem_singleton.mpr rfl), List.forall_mem_cons.mpr ⟨run oI_lw13 (lk_13 l D cT) (fun _ h => absurd h List.not_mem_nil) lc_13 _ (List.mem_singleton.mpr rfl), List.forall_mem_cons.mpr ⟨run oI_lw14 (lk_14 l D cT) (fun _ h => absurd h List.not_mem_nil) lc_14 _ (List.mem_singleton.mpr rfl), List.forall_mem_cons.mpr ⟨run oI_lw15 (lk_15 l D cT) (fun _ h => absurd h List.not_mem_nil) lc_15 _ (List.mem_singleton.mpr rfl), List.forall_mem_cons.mpr ⟨run oI_lw16 (lk_16 l D cT) (fun _ h => absurd h List.not_mem_nil) lc_16 _ (List.mem_singleton.mpr rfl), List.forall_mem_cons.mpr ⟨run oI_lw17 (lk_17 l D cT) (fun _ h => absurd h List.not_mem_nil) lc_17 _ (List.mem_singleton.mpr rfl), List.forall_mem_cons.mpr ⟨run oI_lw18 (lk_18 l D cT) (fun _ h => absurd h List.not_mem_nil) lc_18 _ (List.mem_singleton.mpr rfl), List.forall_mem_cons.mpr ⟨run oI_lw19 (lk_19 l D cT) (fun _ h => absurd h List.not_mem_nil) lc_19 _ (List.mem_singleton.mpr rfl), List.forall_mem_cons.mpr ⟨run oI_lw20 (lk_20 l D cT) (fun _ h => absurd h List.not_mem_nil) lc_20 _ (List.mem_singleton.mpr rfl), List.forall_mem_cons.mpr ⟨run oI_lw21 (lk_21 l D cT) (fun _ h => absurd h List.not_mem_nil) lc_21 _ (List.mem_singleton.mpr rfl), List.forall_mem_cons.mpr ⟨run oI_lw22 (lk_22 l D cT) (fun _ h => absurd h List.not_mem_nil) lc_22 _ (List.mem_singleton.mpr rfl), List.forall_mem_cons.mpr ⟨run oI_lw23 (lk_23 l D cT) (fun _ h => absurd h List.not_mem_nil) lc_23 _ (List.mem_singleton.mpr rfl), List.forall_mem_cons.mpr ⟨run oI_lw24 (lk_24 l D cT) (fun _ h => absurd h List.not_mem_nil) lc_24 _ (List.mem_singleton.mpr rfl), List.forall_mem_cons.mpr ⟨run oI_lw25 (lk_25 l D cT) (fun _ h => absurd h List.not_mem_nil) lc_25 _ (List.mem_singleton.mpr rfl), List.forall_mem_cons.mpr ⟨run oI_lw26 (lk_26 l D cT) (fun _ h => absurd h List.not_mem_nil) lc_26 _ (List.mem_singleton.mpr rfl), List.forall_mem_cons.mpr ⟨run oI_lw27 (lk_27 l D cT) (fun _ h => absurd h List.not_mem_nil) lc_27 _ (List.mem_singleton.mpr rfl), List.forall_mem_cons.mpr ⟨run oI_lw28 (lk_28 l D cT) (fun _ h => absurd h List.not_mem_nil) lc_28 _ (List.mem_singleton.mpr rfl), List.forall_mem_cons.mpr ⟨run oI_lw29 (lk_29 l D cT) (fun _ h => absurd h List.not_mem_nil) lc_29 _ (List.mem_singleton.mpr rfl), List.forall_mem_cons.mpr ⟨run oI_lw30 (lk_30 l D cT) (fun _ h => absurd h List.not_mem_nil) lc_30 _ (List.mem_singleton.mpr rfl), List.forall_mem_cons.mpr ⟨run oI_lw31 (lk_31 l D cT) (fun _ h => absurd h List.not_mem_nil) lc_31 _ (List.mem_singleton.mpr rfl), List.forall_mem_cons.mpr ⟨run oI_lw32 (lk_32 l D cT) (fun _ h => absurd h List.not_mem_nil) lc_32 _ (List.mem_singleton.mpr rfl), List.forall_mem_cons.mpr ⟨run oI_lw33 (lk_33 l D cT) (fun _ h => absurd h List.not_mem_nil) lc_33 _ (List.mem_singleton.mpr rfl), List.forall_mem_cons.mpr ⟨run oI_lw34 (lk_34 l D cT) (fun _ h => absurd h List.not_mem_nil) lc_34 _ (List.mem_singleton.mpr rfl), List.forall_mem_cons.mpr ⟨run oI_lw35 (lk_35 l D cT) (fun _ h => absurd h List.not_mem_nil) lc_35 _ (List.mem_singleton.mpr rfl), List.forall_mem_cons.mpr ⟨run oI_lw36 (lk_36 l D cT) (fun _ h => absurd h List.not_mem_nil) lc_36 _ (List.mem_singleton.mpr rfl), List.forall_mem_cons.mpr ⟨run oI_lw37 (lk_37 l D cT) (fun _ h => absurd h List.not_mem_nil) lc_37 _ (List.mem_singleton.mpr rfl), List.forall_mem_cons.mpr ⟨run oI_lw38 (lk_38 l D cT) (fun _ h => absurd h List.not_mem_nil) lc_38 _ (List.mem_singleton.mpr rfl), List.forall_mem_cons.mpr ⟨run oI_lw39 (lk_39 l D cT) (fun _ h => absurd h List.not_mem_nil) lc_39 _ (List.mem_singleton.mpr rfl), List.forall_mem_cons.mpr ⟨run oI_lw40 (lk_40 l D cT) (fun _ h => absurd h List.not_mem_nil) lc_40 _ (List.mem_singleton.mpr rfl), List.forall_mem_cons.mpr ⟨run oI_lw41 (lk_41 l D cT) (fun _ h => absurd h List.not_mem_nil) lc_41 _ (List.mem_singleton.mpr rfl), List.forall_mem_cons.mpr ⟨run oI_lw42 (lk_42 l D cT) (fun _ h => absurd h List.not_mem_nil) lc_42 _ (List.mem_singleton.mpr rfl), List.forall_mem_cons.mpr ⟨run oI_lw43 (lk_43 l D cT) (fun _ h => absurd h List.not_mem_nil) lc_43 _ (List.mem_singleton.mpr rfl), List.forall_mem_cons.mpr ⟨run oI_lw44 (lk_44 l D cT) (fun _ h => absurd h List.not_mem_nil) lc_44 _ (List.mem_singleton.mpr rfl), List.forall_mem_cons.mpr ⟨run oI_lw45 (lk_45 l D cT) (fun _ h => absurd h List.not_mem_nil) lc_45 _ (List.mem_singleton.mpr rfl), List.forall_mem_cons.mpr ⟨run oI_lw46 (lk_46 l D cT) (fun _ h => absurd h List.not_mem_nil) lc_46 _ (List.mem_singleton.mpr rfl), List.forall_mem_cons.mpr ⟨run oI_lw47 (lk_47 l D cT) (fun _ h => absurd h List.not_mem_nil) lc_47 _ (List.mem_singleton.mpr rfl), List.forall_mem_cons.mpr ⟨run oI_lw48 (lk_48 l D cT) (fun _ h => absurd h List.not_mem_nil) lc_48 _ (List.mem_singleton.mpr rfl), List.forall_mem_cons.mpr ⟨run oI_lw49 (lk_49 l D cT) (fun _ h => absurd h List.not_mem_nil) lc_49 _ (List.mem_singleton.mpr rfl), List.forall_mem_cons.mpr ⟨run oI_lw50 (lk_50 l D cT) (fun _ h => absurd h List.not_mem_nil) lc_50 _ (List.mem_singleton.mpr rfl), List.forall_mem_cons.mpr ⟨run oI_lw51 (lk_51 l D cT) (fun _ h => absurd h List.not_mem_nil) lc_51 _ (List.mem_singleton.mpr rfl), List.forall_mem_cons.mpr ⟨run oI_lw52 (lk_52 l D cT) (fun _ h => absurd h List.not_mem_nil) lc_52 _ (List.mem_singleton.mpr rfl), (fun _ h => absurd h List.not_mem_nil)⟩⟩⟩⟩⟩⟩⟩⟩⟩⟩⟩⟩⟩⟩⟩⟩⟩⟩⟩⟩⟩⟩⟩⟩⟩⟩⟩⟩⟩⟩⟩⟩⟩⟩⟩⟩⟩⟩⟩⟩⟩⟩⟩⟩⟩⟩⟩⟩⟩⟩⟩⟩⟩
  have hlen : ∀ u ∈ lawU, 8 ≤ u.2.1.1.length := by decide +kernel
  have hent := run oI_lwe (lek l D cT) (fun u hu v lv st ws hg hv _ _ => hU u hu (hlen u hu) v lv st ws hg hv) le_0
  have hl := lv_entry ([.ref b]) (n := 4) (Nat.le_of_ble_eq_true rfl)
  rw [lg_entry_eq]
  refine hent _ (List.mem_singleton.mpr rfl) (by decide) v0 [(0, Value.ref b)] [] [] ⟨⟨by decide, rfl, fun i q hq => ?_⟩, ⟨⟨rfl, Or.inr (Or.inr ⟨Nat.le_refl 2, rfl⟩)⟩, trivial⟩, trivial, trivial, fun k r h => by simp at h⟩ (fun _ _ => rfl) s.heap [] _ (fun k q h => by simp at h) ⟨fun i j p q h => by simp at h, fun k q h => by simp at h⟩ va_S.rf hl
  match i, hq with
  | 0, hq => cases hq; exact ⟨Int.le_refl 0, Int.le_refl 0⟩
  | 1, hq => cases hq; exact ⟨by show (0 : Int) ≤ (L : Int); omega, by show (L : Int) ≤ 6; omega⟩
  | i + 2, hq =>
    have hb2 := ra_i32 (xs i)
    have e0 : v0 (i + 2) = (xs i).toInt := by
      show (if i + 2 = 0 then (0 : Int) else if i + 2 = 1 then (L : Int) else (xs (i + 2 - 2)).toInt) = _
      rw [if_neg (by omega), if_neg (by omega), show i + 2 - 2 = i by omega]
    rw [e0]
    have hq2 : (List.replicate 6 ((-2147483648 : Int), (2147483647 : Int)))[i]? = some q := hq
    rw [List.getElem?_replicate] at hq2
    split at hq2
    · cases hq2
      exact hb2
    · cases hq2
set_option maxHeartbeats 4000000 in
theorem lw_walk (l : Launch) (hflags : l.flags = flags0) (b : Addr) (xs : List Int32) : MetFree l x (headSpec (Jvm.Cond.code x code maxLocals ret :: tables_1) room_1) (lw_P b xs) (fun _ _ _ _ _ => True) lw_Q := by
  refine MetFree.of_bodyS (code := code) (maxLocals := maxLocals) (ret := ret) (by decide) ?_ ?_
  · intro args s m h hn
    obtain ⟨meth, c, h1, h2, h3, h4, h5, h6, -, -⟩ := Cond.code_spec hn (atoms_spec (ws := Jvm.Cond.code x code maxLocals ret :: tables_1) h _ List.mem_cons_self)
    exact ⟨meth, c, h1, h2, h3, h4, h5, h6⟩
  · intro p e s m args below meth c s₁ B hml0 hP _
    obtain ⟨rfl, hx, hbd, hgv⟩ := hP
    obtain ⟨scr, harrAt, hlist, hof, hsmall⟩ := hx
    obtain ⟨hcb, hkn, -, -⟩ := State.arrayAt?_spec harrAt
    have hown : s.vm.findClass R_law = some m.cls := findClass_of_methodNamed B.named
    have hts0 : ∀ c ∈ (Jvm.Cond.code x code maxLocals ret :: tables_1), c.before #[Value.ref b] s = true := atoms_spec (ws := Jvm.Cond.code x code maxLocals ret :: tables_1) B.pre
    have hts : ∀ w ∈ lw_tbl, w.before #[Value.ref b] s = true := k2_hts_sels lw_privs (fun w hw => hts0 w (List.mem_cons_of_mem _ hw)) lw_privs_ok
    have hml : c.maxLocals = 4 := B.maxLocals_eq (hts0 _ List.mem_cons_self)
    have X₀ : Stand p l e room_1 s m #[Value.ref b] below meth c s₁ [] 0 0 := Stand.of_body B
    have hh0 : s₁.heap = s.heap := by rw [B.state]; rfl
    have hsz : scr.slots.size = xs.length := by rw [← Array.length_toList, hlist, List.length_map]
    have hval : ∀ j : Nat, j < xs.length → scr.slots[j]? = some (.int (xs.getD j 0)) := fun j hj => by
      rw [← Array.getElem?_toList, hlist]
      simp [hj]
    have hbl : b < s.heap.size := (Array.getElem?_eq_some_iff.mp hcb).1
    have hX : va_X b xs.length (fun j => xs.getD j 0) s s.heap := ⟨scr, hcb, hof, hkn, hsz, hval⟩
    have K : W p l e room_1 s m #[Value.ref b] below meth c s₁.heap [] 0 0 (lw_Z below #[Value.ref b] s) (entryFrame m ([Value.ref b] : List Value).toArray 4) := by
      rw [hh0]
      exact whole_start l hflags hbd ⟨B.exec, B.bytes, B.returns, hml, hown, hts, hX, hbl, B.notSynchronized, hgv⟩
    obtain ⟨t, a1, o, b1, b2, b3⟩ := K s₁ rfl X₀
    exact ⟨t, o, a1, b1, b2, b3⟩
theorem lw_pre_spec {args : Array Value} {s : State} (h : (Jvm.Cond.and given_1 narrow_1).before args s = true) (hr : rest_1_c.before args s = true) : ∃ (b : Addr) (xs : List Int32), lw_P b xs args s := by
  have hs := flat_of_before _ h
  have hq := flat_of_before _ hr
  have hc : (Cond.count 1).before args s = true := hs _ (by decide +kernel)
  have harr : (Cond.arrayOf (.arg 0) .int).before args s = true := hs _ (by decide +kernel)
  have hle : (Cond.le (.length (.arg 0)) (.int 6)).before args s = true := hs _ (by decide +kernel)
  have hlen : (Cond.isInt (.length (.arg 0))).before args s = true := hq _ (by decide +kernel)
  have hall : (Cond.all (.arg 0) (.isInt (.elem (.arg 0) (.index 0)))).before args s = true := hq _ (by decide +kernel)
  obtain ⟨b, xs, hb, hx⟩ := State.ints_of_pre rfl harr hlen hall
  have hsm : xs.length < 2 ^ 31 := hx.choose_spec.2.2.2
  have hev : (Term.length (.arg 0)).eval args s none [] s = some (.int xs.length.toInt32) := hx.length_eval hb
  have hv := Cond.le_ints hev (show (Term.int 6).eval args s none [] s = some (.int 6) from rfl)
  have hd : xs.length.toInt32 ≤ 6 := by
    simpa [Cond.before, Cond.holds, hv] using hle
  have hN : xs.length ≤ 6 := (Int32.ofNat_le_ofNat hsm (by decide)).mp (show Int32.ofNat xs.length ≤ Int32.ofNat 6 from hd)
  exact ⟨b, xs, Cond.one_arg hc (show args[0]? = some (.ref b) from hb), hx, hN, h⟩
theorem lw_comes (l : Launch) (hflags : l.flags = flags0) : Comes l x (Jvm.Cond.code x code maxLocals ret :: tables_1) room_1 (fun tb e args s => Calls_1 tb e args s ∧ rest_1 tb e args s ∧ Pre_1 tb e args s)
    (fun _ _ args s o t => lw_Q args s o t) := by
  intro p e ha hc hk s m args below hf hfit hheap happ hpre
  obtain ⟨b, xs, hP⟩ := lw_pre_spec hpre.2.2 hpre.2.1
  obtain ⟨k, o, h1, h2, h3, hQ⟩ := lw_walk l hflags b xs p e ha hc hk s m args below hf ((Spec.applies_iff_loose hf).mp happ).1 hP trivial
  exact ⟨k, o, h1, h2, h3, hQ⟩
theorem lw_frame {s t : State} {o : Outcome} {args : Array Value} (h : Framed s o t [] 600000 7302250) :
    Framed s o t (fieldLocs frame_1_writes args s ++ arrayLocs frame_1_arrays args s ++ staticLocs frame_1_statics s) 600000 7302250 := h
theorem lw_limb (L : Cond) (hL : ∀ (args : Array Value) (s t : State), L.after args s (.returned (some (.int 1))) t = true) :
    ArmFor flags0 classFile x code maxLocals ret World_1 tables_1 room_1 Calls_1 rest_1 Pre_1
      (fun tb e a s o t => postC L tb e a s o t ∧ Framed s o t (fieldLocs frame_1_writes a s ++ arrayLocs frame_1_arrays a s ++ staticLocs frame_1_statics s) 600000 7302250) := by
  intro l hflags _ _ p e ha hc hk s m args below hf hfit hheap happ hpre
  obtain ⟨k, o, h1, h2, h3, rfl, hF⟩ := lw_comes l hflags p e ha hc hk s m args below hf hfit hheap happ hpre
  exact ⟨k, _, h1, h2, h3, hL args s _, lw_frame hF⟩
theorem i_vc : Claimed_1_1 ∧ Claimed_1_2 := ⟨lw_limb limb_1_1 (fun args s t => by simp [limb_1_1, Cond.after, Cond.holds, Cond.value]), lw_limb limb_1_2 (fun args s t => Cond.after_iff.mpr (by
  first | (rw [show limb_1_2 = Cond.eq .result (.int 1) from rfl, Cond.eq_ints (x := 1) (y := 1) rfl rfl]; simp; done) | (simp [limb_1_2, Cond.value, Term.eval]; done)))⟩
