/-! THE CLAIM OUT OF ONE WALK OF THE LAW'S BODY. Your part is whole_start (and what it stands on); all else here is the same for every law, but numbers. -/
def R_law : String := "BathWaterLaw"
def lw_P (b : Addr) (xs : List Int32) (args : Array Value) (s : State) : Prop := args = #[.ref b] ∧ s.IntsAt b xs ∧ xs.length ≤ 3072 ∧ (Jvm.Cond.and given_1 narrow_1).before args s = true
def lw_Q (_ : Array Value) (s : State) (o : Outcome) (t : State) : Prop := o = .returned (some (.int 1)) ∧ Framed s o t [] 600000 7302250
def lw_Z (below : List Frame) (a : Array Value) (s : State) : State → Prop := fun t => ∃ o, t.status = .running ∧ Ended t below o ∧ lw_Q a s o t
/-- the law's own end, with 1 on the stack, nothing written that was there before, its room as the claim has it -/
theorem lw_ret {p : Program} {l : Launch} {e : Env} {s : State} {m : MethodId} {below : List Frame} {meth : Method} {c : Code} {b : Nat} (hx : p.tables.exec = Jvm.exec) (hb : c.code = code) (hr : meth.sig.returnType = ret) (hlocks : meth.locks = false) {pc : Nat} {H : Heap} {ls : Array Slot} (hdg : decode code pc = .ok (.ireturn, 1)) : W p l e room_1 s m #[Value.ref b] below meth c H [] 600000 7302250 (lw_Z below #[Value.ref b] s) (F0 m pc ls [.int 1]) := by
  intro T hT X
  obtain ⟨fs, hret, hrun, hended, hW, hframe⟩ := X.leave (v := some (.int 1)) (hlocks := hlocks) (fun h => by rw [hr] at h; cases h)
  have hmeth' : T.vm.method? m = some meth := X.method'
  refine ⟨T.setFrames fs, ?_, .returned (some (.int 1)), hrun, hended, rfl, ⟨_, rfl⟩, hW, hframe⟩
  jvm_step X.here [X.here.top, hx, hb, hdg, hmeth', hr, ret, narrow_b1]
  (try refine ⟨rfl, ?_⟩); (try refine ⟨rfl, ?_⟩)
  first | (intro acts; rw [hret _ acts rfl rfl rfl]) | rw [hret _ _ rfl rfl rfl]
  exact Steps.refl _
/-- what holds at the law's entry: the machine, the code, the tables' words (any of lw_tbl by 'hts w (by decide +kernel)'), the script of L ints xs at the cell b, what the Statement gives of the start (any of its parts by flat_of_before) -/
def lw_At (p : Program) (s : State) (m : MethodId) (meth : Method) (c : Code) (b L : Nat) (xs : Nat → Int32) : Prop :=
  p.tables.exec = Jvm.exec ∧ c.code = code ∧ meth.sig.returnType = ret ∧ c.maxLocals = 4 ∧ s.vm.findClass R_law = some m.cls ∧ (∀ w ∈ lw_tbl, w.before #[Value.ref b] s = true) ∧ va_X b L xs s s.heap ∧ b < s.heap.size ∧ meth.locks = false ∧ (Jvm.Cond.and given_1 narrow_1).before #[Value.ref b] s = true
theorem pInst : ∀ w ∈ vwCl.map (fun r => Cond.instantiable r.1 r.2.2), w ∈ pT := tb_all (ps := [349, 373, 416, 228, 174, 143, 180, 149, 135, 1209]) (by decide +kernel)
theorem pAO : lw_tbl[355]? = some (Cond.arrayOver (.object "BathWater$Scene")) := by decide +kernel
theorem pNWin : pNW.map (fun q => Cond.methodLinkNest q.1 q.2.1 q.2.2.1 q.2.2.2) = [144, 150, 229, 374, 417].filterMap (fun i => lw_tbl[i]?) := by decide +kernel
theorem p_arr {s : State} {args : Array Value} {ty : FieldType} (h : (Cond.arrayClass ty).before args s = true) (hty : ∀ C, ty ≠ .object C) : ∃ cA : ClassId, ArrOfT s cA ty ∧ va_RA s cA ty := by
  obtain ⟨c, k, comp, h1, h2, h3⟩ := Cond.arrayClass_spec h
  refine ⟨c, fun n z => ⟨fun k h => (by cases h), k, h2, comp, h3⟩, ?_⟩
  cases ty with
  | object C => exact absurd rfl (hty C)
  | _ => exact h1
theorem p_known {s : State} {args : Array Value} (hts : ∀ w ∈ lw_tbl, w.before args s = true) : ∃ (D : va_G) (cT : Nat → ClassId), va_K D vwCl (ra_T "BathWater$Scene" cT) s := by
  have hp : ∀ w ∈ pT, w.before args s = true := fun w hw => hts w (pT_sub w hw)
  have hk : ∀ ci : Nat, ∃ (cC : ClassId) (iS : Nat → Nat), ∀ r, vwCl[ci]? = some r → u_Kn s r.1 r.2.1 r.2.2 cC iS := by
    intro ci
    cases hr : vwCl[ci]? with
    | none => exact ⟨0, id, fun r h => by cases h⟩
    | some r =>
      obtain ⟨cC, iS, h⟩ := u_known (C := r.1) (T := r.2.1) (N := r.2.2) (n := r.2.2) hp (pOkC ci r hr).1 (hp _ (pInst _ (List.mem_map.mpr ⟨r, List.mem_of_getElem? hr, rfl⟩)))
      exact ⟨cC, iS, fun r' h' => by cases h'; exact h⟩
  obtain ⟨c0, a0⟩ := p_arr (hp _ pOkA.1) (fun C h => by cases h)
  obtain ⟨c1, a1⟩ := p_arr (hp _ pOkA.2.1) (fun C h => by cases h)
  obtain ⟨c2, a2⟩ := p_arr (hp _ pOkA.2.2.1) (fun C h => by cases h)
  obtain ⟨c3, a3⟩ := p_arr (hp _ pOkA.2.2.2) (fun C h => by cases h)
  obtain ⟨comp, c4, k4, h1, h2, h3, h4, h5⟩ := Cond.arrayOver_spec (hts _ (List.mem_of_getElem? pAO))
  refine ⟨(fun ci => Classical.choose (hk ci), fun ci => Classical.choose (Classical.choose_spec (hk ci))), fun i => match i with
    | 0 => c0
    | 1 => c1
    | 2 => c2
    | 3 => c3
    | _ => c4, fun ci r hr => Classical.choose_spec (Classical.choose_spec (hk ci)) r hr, fun k q hq => ?_⟩
  match k, hq with
  | 0, hq => cases hq; exact a0
  | 1, hq => cases hq; exact a1
  | 2, hq => cases hq; exact a2
  | 3, hq => cases hq; exact a3
  | 4, hq => cases hq; exact ⟨fun n z => ⟨fun k h => (by cases h), k4, h3, comp, h4⟩, k4, comp, h3, h4, h1, h5⟩
  | k + 5, hq => simp [ra_T] at hq
theorem p_Ex {s : State} {args : Array Value} (hts : ∀ w ∈ lw_tbl, w.before args s = true) : ra_Ex "BathWater$Scene" pNW s := by
  refine ⟨va_AO.of (hts _ (List.mem_of_getElem? pAO)), fun q hq => ?_⟩
  have hm : Cond.methodLinkNest q.1 q.2.1 q.2.2.1 q.2.2.2 ∈ pNW.map (fun q => Cond.methodLinkNest q.1 q.2.1 q.2.2.1 q.2.2.2) := List.mem_map.mpr ⟨q, hq, rfl⟩
  rw [pNWin] at hm
  obtain ⟨i, -, hi⟩ := List.mem_filterMap.mp hm
  exact va_Nw.of rfl (hts _ (List.mem_of_getElem? hi))
def pTm (i : Nat) : Term := Term.string "BathWater$Tokens" (match i with
  | 0 => 62
  | _ => 40)
abbrev pLens : List Nat := pSX.map (fun q => q.2.2.2.1)
abbrev pByts : List (List Int32) := pSX.map (fun q => q.2.2.2.2)
def pLen (i : Nat) : Nat := pLens.getD i 0
def pByt (i : Nat) : List Int32 := pByts.getD i []
def pB (i : Nat) : List Cond := Cond.exactly (pTm i) "java/lang/String" :: Cond.eq (.field (pTm i) "java/lang/String" "coder" "B") (.int 0) :: Cond.arrayOf (.field (pTm i) "java/lang/String" "value" "[B") .byte :: Cond.eq (.length (.field (pTm i) "java/lang/String" "value" "[B")) (.int (Int32.ofNat (pLen i))) :: (List.range (pLen i)).map (fun j => Cond.eq (.elem (.field (pTm i) "java/lang/String" "value" "[B") (.int (Int32.ofNat j))) (.int ((pByt i).getD j 0)))
abbrev pNr : List Cond := flatC (Jvm.Cond.and given_1 narrow_1)
set_option maxRecDepth 100000 in
theorem pB0 : pB 0 = (pNr.drop 9).take 132 := by decide +kernel
set_option maxRecDepth 100000 in
theorem pB1 : pB 1 = (pNr.drop 141).take 15 := by decide +kernel
theorem pNe : pNr[156]? = some (Cond.not (Cond.eq (pTm 0) (pTm 1))) := by decide +kernel
theorem pC4 : pNr[4]? = some (Cond.eq (.static "java/lang/String" "COMPACT_STRINGS" "Z") (.int 1)) := by decide +kernel
theorem pC5 : pNr[5]? = some (Cond.isRef (.static "jdk/internal/util/Preconditions" "SIOOBE_FORMATTER" "Ljava/util/function/BiFunction;")) := by decide +kernel
theorem pSRin : pSX.map (fun q => Cond.stringRef q.1 q.2.1 q.2.2.1) = [548, 600].filterMap (fun i => lw_tbl[i]?) := by decide +kernel
theorem pLS0 : lw_tbl[558]? = some (Cond.laysStatic "java/lang/String" "COMPACT_STRINGS" "Z") := by decide +kernel
theorem pIN0 : lw_tbl[127]? = some (Cond.initialized "java/lang/String") := by decide +kernel
theorem pLS1 : lw_tbl[566]? = some (Cond.laysStatic "jdk/internal/util/Preconditions" "SIOOBE_FORMATTER" "Ljava/util/function/BiFunction;") := by decide +kernel
theorem pIN1 : lw_tbl[129]? = some (Cond.initialized "jdk/internal/util/Preconditions") := by decide +kernel
theorem pSXl : pSX.length = 2 := by decide +kernel
theorem pSXo : ∀ i, i < 2 → ∀ q ∈ pSX[i]?, pTm i = Term.string q.1 q.2.1 := by decide +kernel
theorem pLenS : ∀ i : Nat, i < 2 → pLens.getD i 0 < 2 ^ 31 := by decide +kernel
theorem p_Str {s : State} {b : Nat} (hts : ∀ w ∈ lw_tbl, w.before #[Value.ref b] s = true) (hgv : (Jvm.Cond.and given_1 narrow_1).before #[Value.ref b] s = true) : ∃ sa : Nat → Nat, rs_S (pSX, sa) (fun q : Nat => s.heap.size ≤ q) s := by
  have hs := flat_of_before _ hgv
  have hA : ∀ a : Nat, a < s.heap.size → ¬ (fun q : Nat => s.heap.size ≤ q) a := fun a h => Nat.not_le.mpr h
  have hB : ∀ i, i < 2 → ∀ c ∈ pB i, c.before #[Value.ref b] s = true := fun i hi c hc => hs c (by
    rcases (show i = 0 ∨ i = 1 by omega) with rfl | rfl
    · rw [pB0] at hc
      exact List.mem_of_mem_drop (List.mem_of_mem_take hc)
    · rw [pB1] at hc
      exact List.mem_of_mem_drop (List.mem_of_mem_take hc))
  have hne := hs _ (List.mem_of_getElem? pNe)
  obtain ⟨adK, adV, hS, hev⟩ := vk_Sof (args := #[Value.ref b]) (s := s) (N := 2) (tm := pTm) (len := pLens) (byt := pByts) (A := fun q : Nat => s.heap.size ≤ q) pLenS
    (fun i hi => hB i hi _ List.mem_cons_self)
    (fun i hi => hB i hi _ (List.mem_cons_of_mem _ List.mem_cons_self))
    (fun i hi => hB i hi _ (List.mem_cons_of_mem _ (List.mem_cons_of_mem _ List.mem_cons_self)))
    (fun i hi => hB i hi _ (List.mem_cons_of_mem _ (List.mem_cons_of_mem _ (List.mem_cons_of_mem _ List.mem_cons_self))))
    (fun i hi j hj => hB i hi _ (List.mem_cons_of_mem _ (List.mem_cons_of_mem _ (List.mem_cons_of_mem _ (List.mem_cons_of_mem _ (List.mem_map.mpr ⟨j, List.mem_range.mpr (show j < pLen i from hj), rfl⟩))))))
    (fun i j hi hj hij => by
      rcases (show (i = 0 ∧ j = 1) ∨ (i = 1 ∧ j = 0) by omega) with ⟨rfl, rfl⟩ | ⟨rfl, rfl⟩
      · exact Or.inl hne
      · exact Or.inr hne) hA
  have hF : ∃ t : Nat, va_Z "jdk/internal/util/Preconditions" "SIOOBE_FORMATTER" "Ljava/util/function/BiFunction;" .null (fun q : Nat => s.heap.size ≤ q) s s.heap ∨ va_Z "jdk/internal/util/Preconditions" "SIOOBE_FORMATTER" "Ljava/util/function/BiFunction;" (.ref t) (fun q : Nat => s.heap.size ≤ q) s s.heap := by
    rcases va_Zqof (hts _ (List.mem_of_getElem? pLS1)) (hts _ (List.mem_of_getElem? pIN1)) (hs _ (List.mem_of_getElem? pC5)) hA with h | ⟨t, h⟩
    · exact ⟨0, Or.inl h⟩
    · exact ⟨t, Or.inr h⟩
  obtain ⟨t, hF⟩ := hF
  obtain ⟨sa, hsa⟩ : ∃ sa : Nat → Nat, sa = fun i => if i < 100 then adK i else if i < 200 then adV (i - 100) else t := ⟨_, rfl⟩
  have e1 : ∀ i, i < 2 → sa i = adK i := fun i hi => by
    rw [hsa]
    exact if_pos (by omega)
  have e2 : ∀ i, i < 2 → sa (100 + i) = adV i := fun i hi => by
    rw [hsa]
    show (if 100 + i < 100 then adK (100 + i) else if 100 + i < 200 then adV (100 + i - 100) else t) = adV i
    rw [if_neg (by omega), if_pos (by omega), Nat.add_sub_cancel_left]
  have e3 : sa 200 = t := by
    rw [hsa]
    rfl
  refine ⟨sa, fun i q hq => ?_, ⟨fun i hi => ?_, fun i j hi hj he => ?_⟩, va_Zof (hts _ (List.mem_of_getElem? pLS0)) (hts _ (List.mem_of_getElem? pIN0)) (va_eqi (hs _ (List.mem_of_getElem? pC4))) hA, ?_⟩
  · have hq : pSX[i]? = some q := hq
    have hi : i < 2 := by
      have := (List.getElem?_eq_some_iff.mp hq).1
      rw [pSXl] at this
      exact this
    have hm : Cond.stringRef q.1 q.2.1 q.2.2.1 ∈ pSX.map (fun q => Cond.stringRef q.1 q.2.1 q.2.2.1) := List.mem_map.mpr ⟨q, List.mem_of_getElem? hq, rfl⟩
    rw [pSRin] at hm
    obtain ⟨j, -, hj⟩ := List.mem_filterMap.mp hm
    have h1 := hev i hi
    rw [pSXo i hi q hq] at h1
    show vk_R q.1 q.2.1 q.2.2.1 (sa i) s
    rw [e1 i hi]
    exact vk_R.of (hts _ (List.mem_of_getElem? hj)) h1
  · have hi : i < 2 := by
      have : i < pSX.length := hi
      rw [pSXl] at this
      exact this
    have := hS.1 i hi
    rw [← e1 i hi, ← e2 i hi] at this
    exact this
  · have hi : i < 2 := by
      have : i < pSX.length := hi
      rw [pSXl] at this
      exact this
    have hj : j < 2 := by
      have : j < pSX.length := hj
      rw [pSXl] at this
      exact this
    have he : sa i = sa j := he
    rw [e1 i hi, e1 j hj] at he
    exact hS.2 i j hi hj he
  · show _ ∨ va_Z _ _ _ (.ref (sa 200)) _ _ _
    rw [e3]
    exact hF
set_option maxHeartbeats 4000000 in
theorem whole_start {p : Program} {e : Env} {s : State} {m : MethodId} {below : List Frame} {meth : Method} {c : Code} (l : Launch) (hflags : l.flags = flags0) {b L : Nat} {xs : Nat → Int32} (hL : L ≤ 3072) (C0 : lw_At p s m meth c b L xs) : W p l e room_1 s m #[Value.ref b] below meth c s.heap [] 0 0 (lw_Z below #[Value.ref b] s) (entryFrame m ([Value.ref b] : List Value).toArray 4) := by
  obtain ⟨hx, hb, hr, hml, hown, hts, hX, hbl, hlocks, hgv⟩ := id C0
  obtain ⟨D, cT, hK⟩ := p_known hts
  have hEx := p_Ex hts
  obtain ⟨sa, hSx⟩ := p_Str hts hgv
  have hp : ∀ w ∈ pT, w.before #[Value.ref b] s = true := fun w hw => hts w (pT_sub w hw)
  have hA : ∀ q : Nat, s.heap.size ≤ q → (fun q : Nat => s.heap.size ≤ q) q := fun _ h => h
  have hbA : ¬ (fun q : Nat => s.heap.size ≤ q) b := Nat.not_le.mpr hbl
  have X : ra_X p s m #[Value.ref b] c code "BathWaterLaw" 4 (fun q : Nat => s.heap.size ≤ q) D vwCl (ra_T "BathWater$Scene" cT) pT := ⟨hx, hb, hml, hown, hp, hK, hA⟩
  have hLaw : ∀ (pc : Nat) (lv : List (Nat × Value)) (ws : va_W) (ce sl : Nat), decode code pc = .ok (.ireturn, 1) → ce ≤ 600000 → sl ≤ 7302250 → ra_W p l e room_1 s m #[Value.ref b] below meth c (lw_Z below #[Value.ref b] s) 4 (fun q : Nat => s.heap.size ≤ q) D vwCl pc lv [.int 1] ws ce sl := by
    intro pc lv ws ce sl hdg h1 h2 H locs ls hP hD hS hl
    refine va_forget (fun q hq => hS.2.2 q hq) ?_
    refine W.widen (k := 600000) (n := 7302250) h1 h2 ?_
    exact lw_ret hx hb hr hlocks hdg
  have run : ∀ {K : List rb_K} {sb n0 : Nat} {b1 : Nat → Nat} {v0 : Nat → Int} {cuts : List rb_U} {lps : List Nat} {w : List (Bool × rb_T)}, (∀ k ∈ K, rb_Hk l "BathWater$Scene" pNW (pSX, sa) pT pMT D vwCl cT k) → ra_scr s (fun q : Nat => s.heap.size ≤ q) b1 sb n0 v0 → (∀ j, b1 (1000 + j) = sa j) → 2 ≤ n0 →
      (∀ u ∈ cuts, ∀ (b2 : Nat → Nat) (v : Nat → Int) (lv : List (Nat × Value)) (ws : va_W), b2 2 = b1 2 → (∀ j, b2 (1000 + j) = b1 (1000 + j)) → ra_g b2 [] cT v u.2.1 lv [] ws → (∀ i, i < 2 → v i = v0 i) → (sb = 0 → v 2 = 0) → (0 < sb → v 2 = v0 2 + 6) → rb_dv v u.2.2.2 → ra_W p l e room_1 s m #[Value.ref b] below meth c (lw_Z below #[Value.ref b] s) 4 (fun q : Nat => s.heap.size ≤ q) D vwCl u.1 lv [] ws u.2.1.2.2.2.2.1 u.2.1.2.2.2.2.2) →
      rb_pcs 6 4 vwCl tyv none 6 true sb pMT K 600000 7302250 2048 84000 I_law pSX ([], [], [], [], []) [] [24, 1635] (some .boolean) 2 [] 600000 7302250 cuts [18] lps ra_big w → ∀ x ∈ w, rb_ok p l e room_1 s m #[Value.ref b] below meth c (lw_Z below #[Value.ref b] s) 4 (fun q : Nat => s.heap.size ≤ q) D vwCl b1 [] cT n0 v0 x.2 :=
    fun {K} {sb} {n0} {b1} {v0} {cuts} {lps} {w} hKs hsc hb1 hn hC h => rb_pcs_ok (SS := (pSX, sa)) (ws0 := []) (vE := v0) X hEx hSx hb1 pTb0 pT_good oI_law pLt0 pOkC (fun _ h => by cases h) pSci rfl (fun _ => hsc) pOkA hKs (Nat.le_refl _) (Nat.le_refl _) (Nat.le_refl _) (Nat.le_refl _) hn (fun _ _ => rfl) (fun h => by cases h) (fun _ => hLaw) (fun h => by cases h) (fun t ht => by cases ht) (fun h => by cases h) (fun _ => hC) h
  have hone : ∀ {E : ra_N} {T : List (Nat × ra_V) × List ra_V × List ra_C × Nat × Nat} {F : rb_D} {K1 K2 : List rb_K} {P1 P2 : List Nat}, E.length = 475 → E[2]? = some (0, 3072) → rb_db 475 F = true → (∀ k ∈ K1, rb_Hk l "BathWater$Scene" pNW (pSX, sa) pT pMT D vwCl cT k) → (∀ k ∈ K2, rb_Hk l "BathWater$Scene" pNW (pSX, sa) pT pMT D vwCl cT k) →
      (rb_pcs 6 4 vwCl tyv none 6 true 0 pMT K1 600000 7302250 2048 84000 I_law pSX ([], [], [], [], []) [] [24, 1635] (some .boolean) 2 [] 600000 7302250 [] [18] P1 ra_big [(true, (18, (E, T), F ++ [([(2, 1), (1, (-1))], 5)]))]) →
      (rb_pcs 6 4 vwCl tyv none 6 true 475 pMT K2 600000 7302250 2048 84000 I_law pSX ([], [], [], [], []) [] [24, 1635] (some .boolean) 2 [] 600000 7302250 lawU [18] P2 ra_big [(true, (18, (E ++ List.replicate 6 iI, T), F))]) →
      ∀ (b1 : Nat → Nat) (v : Nat → Int) (lv : List (Nat × Value)) (ws : va_W), b1 2 = b → (∀ j, b1 (1000 + j) = sa j) → ra_g b1 [] cT v (E, T) lv [] ws → v 1 = L → rb_dv v F →
      (v 2 + 6 ≤ L → ∀ u ∈ lawU, ∀ (b2 : Nat → Nat) (v2 : Nat → Int) (lv2 : List (Nat × Value)) (ws2 : va_W), b2 2 = b → (∀ j, b2 (1000 + j) = sa j) → ra_g b2 [] cT v2 u.2.1 lv2 [] ws2 → v2 1 = L → rb_dv v2 u.2.2.2 → v2 2 = v 2 + 6 → ra_W p l e room_1 s m #[Value.ref b] below meth c (lw_Z below #[Value.ref b] s) 4 (fun q : Nat => s.heap.size ≤ q) D vwCl u.1 lv2 [] ws2 u.2.1.2.2.2.2.1 u.2.1.2.2.2.2.2) →
      ra_W p l e room_1 s m #[Value.ref b] below meth c (lw_Z below #[Value.ref b] s) 4 (fun q : Nat => s.heap.size ≤ q) D vwCl 18 lv [] ws T.2.2.2.1 T.2.2.2.2 := by
    intro E T F K1 K2 P1 P2 hE hE2 hdb hK1 hK2 c1 c2 b1 v lv ws h2 hj hg h1 hd hIH
    obtain ⟨lv0, st0, aw0, ce0, sl0⟩ := T
    have hN : ra_cN v E := hg.1
    have hv2 := hN.2.2 2 _ hE2
    have hX' : va_X (b1 2) L xs s s.heap := by rw [h2]; exact hX
    have hbl' : b1 2 < s.heap.size := by rw [h2]; exact hbl
    have hbA' : ¬ (fun q : Nat => s.heap.size ≤ q) (b1 2) := by rw [h2]; exact hbA
    by_cases hc : v 2 + 6 ≤ L
    · obtain ⟨v', hv'⟩ : ∃ v' : Nat → Int, v' = fun j => if j < 475 then v j else (xs ((v 2).toNat + (j - 475))).toInt := ⟨_, rfl⟩
      have n1 : ∀ i, i < 475 → v' i = v i := fun i hi => by rw [hv']; exact if_pos hi
      have n2 : ∀ j, v' (475 + j) = (xs ((v 2).toNat + j)).toInt := fun j => by
        rw [hv']
        show (if 475 + j < 475 then v (475 + j) else (xs ((v 2).toNat + (475 + j - 475))).toInt) = _
        rw [if_neg (by omega), Nat.add_sub_cancel_left]
      have hl6 : (E ++ List.replicate 6 iI).length = 481 := by rw [List.length_append, List.length_replicate, hE]
      have hN' : ra_cN v' (E ++ List.replicate 6 iI) := by
        refine ⟨by omega, by rw [n1 0 (by omega)]; exact hN.2.1, fun i q hq => ?_⟩
        rcases Nat.lt_or_ge i E.length with hi | hi
        · rw [List.getElem?_append_left hi] at hq
          rw [n1 i (by omega)]
          exact hN.2.2 i q hq
        · rw [List.getElem?_append_right hi, List.getElem?_replicate] at hq
          split at hq
          · cases hq
            have e : i = 475 + (i - 475) := by omega
            rw [e, n2]
            exact ra_i32 _
          · cases hq
      have hsc : ra_scr s (fun q : Nat => s.heap.size ≤ q) b1 475 481 v' := ⟨L, xs, hX', hbl', hbA', by omega, by omega, by rw [n1 1 (by omega)]; exact h1, fun _ => ⟨by omega, by rw [n1 2 (by omega)]; exact hv2.1, by rw [n1 2 (by omega)]; exact hc, fun j _ => by rw [n2, n1 2 (by omega)]⟩⟩
      have hok := run (n0 := 481) hK2 hsc hj (by omega) (fun u hu b2 v2 lv2 ws2 e2 ej hg2 hv2 _ hs hd2 => hIH hc u hu b2 v2 lv2 ws2 (e2.trans h2) (fun j => (ej j).trans (hj j)) hg2 ((hv2 1 (by omega)).trans ((n1 1 (by omega)).trans h1)) hd2 ((hs (by omega)).trans (by rw [n1 2 (by omega)]))) c2 _ (List.mem_singleton.mpr rfl)
      exact hok (by show 481 ≤ (E ++ List.replicate 6 iI).length; omega) v' lv [] ws (ra_g_ext hg (by omega) (fun i hi => n1 i (by omega)) hN') (fun _ _ => rfl) (rb_db_mono (by show 475 ≤ (E ++ List.replicate 6 iI).length; omega) hdb) (rb_dv_ext hdb n1 hd)
    · have hsc : ra_scr s (fun q : Nat => s.heap.size ≤ q) b1 0 475 v := ⟨L, xs, hX', hbl', hbA', by omega, by omega, h1, fun h => absurd h (Nat.lt_irrefl _)⟩
      have hok := run (n0 := 475) hK1 hsc hj (by omega) (fun _ h => absurd h List.not_mem_nil) c1 _ (List.mem_singleton.mpr rfl)
      refine hok (by show 475 ≤ E.length; omega) v lv [] ws hg (fun _ _ => rfl) ?_ ?_
      · show rb_db E.length _ = true
        rw [hE]
        exact rb_db_app hdb rfl
      · refine rb_dv_app hd (fun d hm => ?_)
        rw [List.mem_singleton.mp hm]
        simp only [ra_ev, List.foldr_cons, List.foldr_nil]
        omega
  have hstep : ∀ u ∈ lawU, ∀ (b1 : Nat → Nat) (v : Nat → Int) (lv : List (Nat × Value)) (ws : va_W), b1 2 = b → (∀ j, b1 (1000 + j) = sa j) → ra_g b1 [] cT v u.2.1 lv [] ws → v 1 = L → rb_dv v u.2.2.2 →
      (v 2 + 6 ≤ L → ∀ u ∈ lawU, ∀ (b2 : Nat → Nat) (v2 : Nat → Int) (lv2 : List (Nat × Value)) (ws2 : va_W), b2 2 = b → (∀ j, b2 (1000 + j) = sa j) → ra_g b2 [] cT v2 u.2.1 lv2 [] ws2 → v2 1 = L → rb_dv v2 u.2.2.2 → v2 2 = v 2 + 6 → ra_W p l e room_1 s m #[Value.ref b] below meth c (lw_Z below #[Value.ref b] s) 4 (fun q : Nat => s.heap.size ≤ q) D vwCl u.1 lv2 [] ws2 u.2.1.2.2.2.2.1 u.2.1.2.2.2.2.2) →
      ra_W p l e room_1 s m #[Value.ref b] below meth c (lw_Z below #[Value.ref b] s) 4 (fun q : Nat => s.heap.size ≤ q) D vwCl u.1 lv [] ws u.2.1.2.2.2.2.1 u.2.1.2.2.2.2.2 := by
    intro u hu
    have hu2 : u = (18, (lawE0, lawT0), ([], 0), lawF0) ∨ u = (18, (lawE1, lawT1), ([], 0), lawF1) := by
      unfold lawU at hu
      rcases List.mem_cons.mp hu with e | hu
      · exact Or.inl e
      · exact Or.inr (List.mem_singleton.mp hu)
    rcases hu2 with rfl | rfl
    · exact hone lE0l lE02 lF0b (lH_x0 l D cT sa) (lH_r0 l D cT sa) lC_x0 lC_r0
    · exact hone lE1l lE12 lF1b (lH_x1 l D cT sa) (lH_r1 l D cT sa) lC_x1 lC_r1
  have hloop : ∀ (N : Nat), ∀ u ∈ lawU, ∀ (b1 : Nat → Nat) (v : Nat → Int) (lv : List (Nat × Value)) (ws : va_W), b1 2 = b → (∀ j, b1 (1000 + j) = sa j) → ra_g b1 [] cT v u.2.1 lv [] ws → v 1 = L → rb_dv v u.2.2.2 → (L : Int) - v 2 < N → ra_W p l e room_1 s m #[Value.ref b] below meth c (lw_Z below #[Value.ref b] s) 4 (fun q : Nat => s.heap.size ≤ q) D vwCl u.1 lv [] ws u.2.1.2.2.2.2.1 u.2.1.2.2.2.2.2 := by
    intro N
    induction N with
    | zero =>
      intro u hu b1 v lv ws h2 hj hg h1 hd hN
      exact hstep u hu b1 v lv ws h2 hj hg h1 hd (fun hc => by omega)
    | succ N ih =>
      intro u hu b1 v lv ws h2 hj hg h1 hd hN
      exact hstep u hu b1 v lv ws h2 hj hg h1 hd (fun hc u2 hu2 b2 v2 lv2 ws2 g2 gj gg g1 gd g3 => ih u2 hu2 b2 v2 lv2 ws2 g2 gj gg g1 gd (by omega))
  obtain ⟨b0, hb0⟩ : ∃ b0 : Nat → Nat, b0 = fun k => if k = 2 then b else sa (k - 1000) := ⟨_, rfl⟩
  have hb2 : b0 2 = b := by rw [hb0]; rfl
  have hbj : ∀ j, b0 (1000 + j) = sa j := fun j => by
    rw [hb0]
    show (if 1000 + j = 2 then b else sa (1000 + j - 1000)) = sa j
    rw [if_neg (by omega), Nat.add_sub_cancel_left]
  obtain ⟨v0, hv0⟩ : ∃ v0 : Nat → Int, v0 = fun i => if i = 1 then (L : Int) else 0 := ⟨_, rfl⟩
  have w0 : v0 0 = 0 := by rw [hv0]; rfl
  have w1 : v0 1 = L := by rw [hv0]; rfl
  have w2 : v0 2 = 0 := by rw [hv0]; rfl
  have hsc : ra_scr s (fun q : Nat => s.heap.size ≤ q) b0 0 3 v0 := ⟨L, xs, by rw [hb2]; exact hX, by rw [hb2]; exact hbl, by rw [hb2]; exact hbA, by omega, Nat.le_refl 3, w1, fun h => absurd h (Nat.lt_irrefl _)⟩
  have hent := run (n0 := 3) (lH_e l D cT sa) hsc hbj (by omega) (fun u hu b2 v lv ws e2 ej hg hv h0 _ hd => hloop (L + 1) u hu b2 v lv ws (e2.trans hb2) (fun j => (ej j).trans (hbj j)) hg ((hv 1 (by omega)).trans w1) hd (by rw [h0 rfl]; omega)) lC_e
  have hl := lv_entry ([.ref b]) (n := 4) (Nat.le_of_ble_eq_true rfl)
  rw [lg_entry_eq]
  refine hent _ (List.mem_singleton.mpr rfl) (Nat.le_refl 3) v0 [(0, Value.ref b)] [] [] ⟨⟨by decide, w0, fun i q hq => ?_⟩, ⟨⟨rfl, Or.inr (Or.inr ⟨Nat.le_refl 2, by rw [hb2]⟩)⟩, trivial⟩, trivial, trivial, fun k r h => by simp at h⟩ (fun _ _ => rfl) rfl (fun d hd => nomatch hd) s.heap [] _ (fun k q h => by simp at h) ⟨fun i j p q h => by simp at h, fun k q h => by simp at h⟩ va_S.rf hl
  match i, hq with
  | 0, hq => cases hq; exact ⟨by rw [w0]; exact Int.le_refl 0, by rw [w0]; exact Int.le_refl 0⟩
  | 1, hq => cases hq; exact ⟨by rw [w1]; show (0 : Int) ≤ (L : Int); omega, by rw [w1]; show (L : Int) ≤ 3072; omega⟩
  | 2, hq => cases hq; exact ⟨by rw [w2]; exact Int.le_refl 0, by rw [w2]; decide⟩
  | i + 3, hq => simp at hq
set_option maxHeartbeats 4000000 in
theorem lw_walk (l : Launch) (hflags : l.flags = flags0) (b : Addr) (xs : List Int32) : MetFree l x (headSpec (Jvm.Cond.code x code maxLocals ret :: tables_1) room_1) (lw_P b xs) (fun _ _ _ _ _ => True) lw_Q := by
  refine MetFree.of_bodyS (code := code) (maxLocals := maxLocals) (ret := ret) (by decide) ?_ ?_
  · intro args s m h hn
    obtain ⟨meth, c, h1, h2, h3, h4, h5, h6, -, -⟩ := Cond.code_spec hn (atoms_spec (ws := Jvm.Cond.code x code maxLocals ret :: tables_1) h _ List.mem_cons_self)
    exact ⟨meth, c, h1, h2, h3, h4, h5, h6⟩
  · intro p e s m args below meth c s₁ B hml0 hP _
    obtain ⟨rfl, hx, hbd, hgv⟩ := hP
    obtain ⟨scr, harrAt, hlist, hof, hsmall⟩ := hx
    obtain ⟨hcb, hkn, -, -⟩ := State.arrayAt?_spec harrAt
    have hown : s.vm.findClass R_law = some m.cls := findClass_of_methodNamed B.named
    have hts0 : ∀ c ∈ (Jvm.Cond.code x code maxLocals ret :: tables_1), c.before #[Value.ref b] s = true := atoms_spec (ws := Jvm.Cond.code x code maxLocals ret :: tables_1) B.pre
    have hts : ∀ w ∈ lw_tbl, w.before #[Value.ref b] s = true := k2_hts_sels lw_privs (fun w hw => hts0 w (List.mem_cons_of_mem _ hw)) lw_privs_ok
    have hml : c.maxLocals = 4 := B.maxLocals_eq (hts0 _ List.mem_cons_self)
    have X₀ : Stand p l e room_1 s m #[Value.ref b] below meth c s₁ [] 0 0 := Stand.of_body B
    have hh0 : s₁.heap = s.heap := by rw [B.state]; rfl
    have hsz : scr.slots.size = xs.length := by rw [← Array.length_toList, hlist, List.length_map]
    have hval : ∀ j : Nat, j < xs.length → scr.slots[j]? = some (.int (xs.getD j 0)) := fun j hj => by
      rw [← Array.getElem?_toList, hlist]
      simp [hj]
    have hbl : b < s.heap.size := (Array.getElem?_eq_some_iff.mp hcb).1
    have hX : va_X b xs.length (fun j => xs.getD j 0) s s.heap := ⟨scr, hcb, hof, hkn, hsz, hval⟩
    have K : W p l e room_1 s m #[Value.ref b] below meth c s₁.heap [] 0 0 (lw_Z below #[Value.ref b] s) (entryFrame m ([Value.ref b] : List Value).toArray 4) := by
      rw [hh0]
      exact whole_start l hflags hbd ⟨B.exec, B.bytes, B.returns, hml, hown, hts, hX, hbl, B.notSynchronized, hgv⟩
    obtain ⟨t, a1, o, b1, b2, b3⟩ := K s₁ rfl X₀
    exact ⟨t, o, a1, b1, b2, b3⟩
theorem lw_pre_spec {args : Array Value} {s : State} (h : (Jvm.Cond.and given_1 narrow_1).before args s = true) (hr : rest_1_c.before args s = true) : ∃ (b : Addr) (xs : List Int32), lw_P b xs args s := by
  have hs := flat_of_before _ h
  have hq := flat_of_before _ hr
  have hc : (Cond.count 1).before args s = true := hs _ (by decide +kernel)
  have harr : (Cond.arrayOf (.arg 0) .int).before args s = true := hs _ (by decide +kernel)
  have hle : (Cond.le (.length (.arg 0)) (.int 3072)).before args s = true := hs _ (by decide +kernel)
  have hlen : (Cond.isInt (.length (.arg 0))).before args s = true := hq _ (by decide +kernel)
  have hall : (Cond.all (.arg 0) (.isInt (.elem (.arg 0) (.index 0)))).before args s = true := hq _ (by decide +kernel)
  obtain ⟨b, xs, hb, hx⟩ := State.ints_of_pre rfl harr hlen hall
  have hsm : xs.length < 2 ^ 31 := hx.choose_spec.2.2.2
  have hev : (Term.length (.arg 0)).eval args s none [] s = some (.int xs.length.toInt32) := hx.length_eval hb
  have hv := Cond.le_ints hev (show (Term.int 3072).eval args s none [] s = some (.int 3072) from rfl)
  have hd : xs.length.toInt32 ≤ 3072 := by
    simpa [Cond.before, Cond.holds, hv] using hle
  have hN : xs.length ≤ 3072 := (Int32.ofNat_le_ofNat hsm (by decide)).mp (show Int32.ofNat xs.length ≤ Int32.ofNat 3072 from hd)
  exact ⟨b, xs, Cond.one_arg hc (show args[0]? = some (.ref b) from hb), hx, hN, h⟩
theorem lw_comes (l : Launch) (hflags : l.flags = flags0) : Comes l x (Jvm.Cond.code x code maxLocals ret :: tables_1) room_1 (fun tb e args s => Calls_1 tb e args s ∧ rest_1 tb e args s ∧ Pre_1 tb e args s)
    (fun _ _ args s o t => lw_Q args s o t) := by
  intro p e ha hc hk s m args below hf hfit hheap happ hpre
  obtain ⟨b, xs, hP⟩ := lw_pre_spec hpre.2.2 hpre.2.1
  obtain ⟨k, o, h1, h2, h3, hQ⟩ := lw_walk l hflags b xs p e ha hc hk s m args below hf ((Spec.applies_iff_loose hf).mp happ).1 hP trivial
  exact ⟨k, o, h1, h2, h3, hQ⟩
theorem lw_frame {s t : State} {o : Outcome} {args : Array Value} (h : Framed s o t [] 600000 7302250) :
    Framed s o t (fieldLocs frame_1_writes args s ++ arrayLocs frame_1_arrays args s ++ staticLocs frame_1_statics s) 600000 7302250 := h
theorem lw_limb (L : Cond) (hL : ∀ (args : Array Value) (s t : State), L.after args s (.returned (some (.int 1))) t = true) :
    ArmFor flags0 classFile x code maxLocals ret World_1 tables_1 room_1 Calls_1 rest_1 Pre_1
      (fun tb e a s o t => postC L tb e a s o t ∧ Framed s o t (fieldLocs frame_1_writes a s ++ arrayLocs frame_1_arrays a s ++ staticLocs frame_1_statics s) 600000 7302250) := by
  intro l hflags _ _ p e ha hc hk s m args below hf hfit hheap happ hpre
  obtain ⟨k, o, h1, h2, h3, rfl, hF⟩ := lw_comes l hflags p e ha hc hk s m args below hf hfit hheap happ hpre
  exact ⟨k, _, h1, h2, h3, hL args s _, lw_frame hF⟩
theorem i_vc : Claimed_1_1 ∧ Claimed_1_2 := ⟨lw_limb limb_1_1 (fun args s t => by simp [limb_1_1, Cond.after, Cond.holds, Cond.value]), lw_limb limb_1_2 (fun args s t => Cond.after_iff.mpr (by
  first | (rw [show limb_1_2 = Cond.eq .result (.int 1) from rfl, Cond.eq_ints (x := 1) (y := 1) rfl rfl]; simp; done) | (simp [limb_1_2, Cond.value, Term.eval]; done)))⟩
