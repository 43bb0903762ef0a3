noncomputable section
/-! a method that is checked keeps its contract, with sayings -/
section
variable {l : Launch} {D : va_G} {cl : List vw_C} {Ts : List Cond} {cT : Nat → ClassId} {sc : String} {nw : List (String × Nat × MethodName × String)} {SS : ra_Sx × (Nat → Nat)}
def ra_la : Nat → List ra_V → List (Nat × ra_V)
  | _, [] => []
  | i, a :: as => (i, a) :: ra_la (if ra_two a then i + 2 else i + 1) as
theorem ra_la_ok {n : Nat} {b0 : Nat → Nat} {v : Nat → Int} {ads : List Nat} : ∀ {as : List ra_V} {av : List Value} {i : Nat}, ra_a2 (ra_cV n v ads b0) as av → ra_a2 (fun (p : Nat × ra_V) (q : Nat × Value) => p.1 = q.1 ∧ ra_cV n v ads b0 p.2 q.2) (ra_la i as) (lv_args i av)
  | [], [], _, _ => trivial
  | a :: as, x :: av, i, h => by
    refine ⟨⟨rfl, h.1⟩, ?_⟩
    have h1 := ra_two_ok h.1
    have e : (if x.category = 2 then i + 2 else i + 1) = (if ra_two a = true then i + 2 else i + 1) := by
      rw [← h1]
      simp
    show ra_a2 _ (ra_la _ as) (lv_args (if x.category = 2 then i + 2 else i + 1) av)
    rw [e]
    exact ra_la_ok h.2
  | [], _ :: _, _, h => h.elim
  | _ :: _, [], _, h => h.elim
theorem ra_sl_len : ∀ av : List Value, (lg_sl av).length = (av.map fun v => v.category).sum
  | [] => rfl
  | x :: av => by
    have ih := ra_sl_len av
    unfold lg_sl at ih ⊢
    rw [List.flatMap_cons, List.length_append, ih, List.map_cons, List.sum_cons]
    rcases lv_cat x with h | h <;> simp [h]
def rb_seg (spl nL : Nat) (cl : List vw_C) (tyv : Nat → Nat → FieldType) (ini : Option Nat) (sci : Nat) (hs0 : Bool) (sb : Nat) (MT : List ra_M) (K : List rb_K) (RC RS RF RL : Nat) (I : ra_I) (sx : ra_Sx) (tb : ra_Tb) (lt : List (Nat × Int)) (rps : List Nat) (rt : Option FieldType) (np : Nat) (posts : List rb_P) (mc ms : Nat) (cuts : List rb_U) (cps lps : List Nat) (f : Nat) (u : rb_U) (tp : List rb_Ht) : Bool :=
  Nat.ble np u.2.1.1.length && (u.2.2.1.1.all (fun t => Nat.blt t.1 u.2.1.1.length) && (rb_db u.2.1.1.length u.2.2.2 && rb_chk spl nL cl tyv ini sci hs0 sb MT K RC RS RF RL I sx tb lt rps rt np posts mc ms cuts cps lps u.2.2.1 f [(true, (u.1, u.2.1, u.2.2.2))] tp))
def ra_big : ra_L := ([], 1000000000000)
set_option maxHeartbeats 4000000 in
theorem rb_meth {spl : Nat} {tyv : Nat → Nat → FieldType} {ini : Option Nat} {sci : Nat} {MT : List ra_M} {K : List rb_K} {I : ra_I} {tb : ra_Tb} {lt : List (Nat × Int)} {rps : List Nat} {k : rb_K} {mm : ra_M} {cuts : List rb_U} {cps lps : List Nat} (hmm : MT[k.1]? = some mm) (hpl : plainName mm.1.cls = true) (hG : ∀ w ∈ Ts, goodWord w = true) (hI : ra_okI Ts mm.1.cls sc cl nw MT mm.2.1 I) (hTb : rs_okT Ts mm.1.cls SS.1 MT tb) (hLt : rb_okL Ts mm.1.cls lt) (hC : ra_okC Ts cl tyv) (hIn : ∀ ci, ini = some ci → mm.1.name = "<init>" ∧ ∀ (rc : vw_C) (k : Nat), cl[ci]? = some rc → k < rc.2.2 → (rc.2.1 k).1 = mm.1.cls) {rsc : vw_C} (hsci : cl[sci]? = some rsc) (hsn : rsc.1 = sc) (hAr : ra_okA Ts) (hK : ∀ k' ∈ K, rb_Hk l sc nw SS Ts MT D cl cT k')
    (hcuts : ∀ u ∈ cuts, ∃ (f : Nat) (tp : List rb_Ht), rb_seg spl mm.2.2.1 cl tyv ini sci false 0 MT K k.2.2.2.2.2.2.1 k.2.2.2.2.2.2.2.1 k.2.2.2.2.2.2.2.2.1 k.2.2.2.2.2.2.2.2.2 I SS.1 tb lt rps mm.2.2.2.1 k.2.1.length k.2.2.2.2.2.1 k.2.2.2.2.2.2.1 k.2.2.2.2.2.2.2.1 cuts cps lps f u tp = true)
    (hdb : rb_db k.2.1.length k.2.2.2.2.1 = true)
    (hent : rb_pcs spl mm.2.2.1 cl tyv ini sci false 0 MT K k.2.2.2.2.2.2.1 k.2.2.2.2.2.2.2.1 k.2.2.2.2.2.2.2.2.1 k.2.2.2.2.2.2.2.2.2 I SS.1 tb lt rps mm.2.2.2.1 k.2.1.length k.2.2.2.2.2.1 k.2.2.2.2.2.2.1 k.2.2.2.2.2.2.2.1 cuts cps lps ra_big [(false, (0, (k.2.1, ra_la 0 k.2.2.1, [], k.2.2.2.1, 0, 0), k.2.2.2.2.1))])
    (hroom : Nat.ble (ra_cats k.2.2.1) mm.2.2.1 = true) : rb_Hk l sc nw SS Ts MT D cl cT k := by
  intro mm' hmm' b0 vE av ws0 sz hb0 hN hargs hwor hpd
  have : mm' = mm := Option.some.inj (hmm'.symm.trans hmm)
  subst this
  refine Met.ofW (cc := mm'.2.1) (maxL := mm'.2.2.1) (ret := mm'.2.2.2.1) hpl rfl ?_
  intro p e s m args below meth c s₁ B hml hv
  obtain ⟨rfl, hsz, hP, hKK, hD0, hEx, hSx⟩ := hv
  have hx := B.exec
  have hb := B.bytes
  have hr := B.returns
  have hts0 := atoms_spec (ws := Cond.code mm'.1 mm'.2.1 mm'.2.2.1 mm'.2.2.2.1 :: Ts) B.pre
  have hts : ∀ w ∈ Ts, w.before av.toArray s = true := fun w hw => hts0 w (List.mem_cons_of_mem _ hw)
  have hown : s.vm.findClass mm'.1.cls = some m.cls := findClass_of_methodNamed B.named
  have hname : meth.name = mm'.1.name := (name_of_methodNamed B.named B.method).1
  have hlocks := B.notSynchronized
  subst hsz
  have hD := hD0.self (sz := s.heap.size)
  generalize hAe : va_A ws0 s.heap.size = A at hD hSx ⊢
  have hA : ∀ q : Nat, s.heap.size ≤ q → A q := fun q h => by rw [← hAe]; exact Or.inr h
  have hS : va_S A s.heap s.heap [] := va_S.rf
  have X : ra_X p s m av.toArray c mm'.2.1 mm'.1.cls mm'.2.2.1 A D cl (ra_T sc cT) Ts := ⟨hx, hb, hml, hown, hts, hKK, hA⟩
  have hIn' : ∀ ci, ini = some ci → meth.name = "<init>" ∧ ∀ (rc : vw_C) (k : Nat), cl[ci]? = some rc → k < rc.2.2 → (rc.2.1 k).1 = mm'.1.cls := fun ci hci => ⟨by rw [hname]; exact (hIn ci hci).1, (hIn ci hci).2⟩
  have hR : ∀ (i : Instr) (pc : Nat) (lv : List (Nat × Value)) (st : List Value) (ws : va_W) (r : Option Value), decode mm'.2.1 pc = .ok (i, 1) → ra_rv mm'.2.2.2.1 i st r → rb_pv b0 cT vE k.2.1.length k.2.2.2.2.2.1 ws0 r ws → ra_W p l e (rb_rm k) s m av.toArray below meth c (MQ below (ra_Qc D cl (ra_T sc cT) (rb_pv b0 cT vE k.2.1.length k.2.2.2.2.2.1 ws0) ws0 s.heap.size) av.toArray s k.2.2.2.2.2.2.1 k.2.2.2.2.2.2.2.1 A) mm'.2.2.1 A D cl pc lv st ws k.2.2.2.2.2.2.1 k.2.2.2.2.2.2.2.1 := by
    intro i pc lv st ws r hdg hrv hpv H locs ls hP hD hS hl
    have hq : ∀ t : State, t.heap = H → s.WarmedH t.vm → ra_Qc D cl (ra_T sc cT) (rb_pv b0 cT vE k.2.1.length k.2.2.2.2.2.1 ws0) ws0 s.heap.size av.toArray s (.returned r) t := fun t ht hW => ⟨⟨r, ws, rfl, hpv, by rw [ht]; exact hP, va_K.moved hW.alike hKK, by rw [hAe]; exact hD⟩, by rw [hAe]; exact hS.F ht⟩
    rcases hrv with ⟨h1, rfl, rfl, rfl⟩ | ⟨y, h1, rfl, rfl, rfl⟩ | ⟨ty, y, h1, rfl, rfl, hy, rfl⟩ | ⟨y, h1, rfl, rfl, rfl⟩ | ⟨ty, a, h1, h2, rfl, rfl, rfl⟩
    · exact W.vret hx hb (by rw [hr, h1]) hq hS.2.2 hdg
    · exact W.iret hx hb (by rw [hr, h1]) hq hS.2.2 hdg
    · exact W.zret (ty := ty) hx hb (by rw [hr, h1]) hy hq hS.2.2 hdg
    · exact W.lret hx hb (by rw [hr, h1]) hq hS.2.2 hdg
    · exact W.aret (rt := ty) hx hb (by rw [hr, h1]) h2 (Or.inr ⟨a, rfl⟩) hq hS.2.2 hdg
  have hcut : ∀ (N : Nat), ∀ u ∈ cuts, ∀ (v : Nat → Int) (lv : List (Nat × Value)) (st : List Value) (ws : va_W), ra_g b0 (ws0.map Prod.fst) cT v u.2.1 lv st ws → (∀ i, i < k.2.1.length → v i = vE i) → rb_dv v u.2.2.2 → 0 ≤ ra_ev v u.2.2.1 → ra_ev v u.2.2.1 < N → ra_W p l e (rb_rm k) s m av.toArray below meth c (MQ below (ra_Qc D cl (ra_T sc cT) (rb_pv b0 cT vE k.2.1.length k.2.2.2.2.2.1 ws0) ws0 s.heap.size) av.toArray s k.2.2.2.2.2.2.1 k.2.2.2.2.2.2.2.1 A) mm'.2.2.1 A D cl u.1 lv st ws u.2.1.2.2.2.2.1 u.2.1.2.2.2.2.2 := by
    intro N
    induction N with
    | zero =>
      intro u hu v lv st ws hg hv hd h0 h1
      omega
    | succ N ih =>
      intro u hu v lv st ws hg hv hd h0 h1
      obtain ⟨f, tp, hseg⟩ := hcuts u hu
      unfold rb_seg at hseg
      rw [Bool.and_eq_true, Bool.and_eq_true, Bool.and_eq_true] at hseg
      obtain ⟨s1, s2, s4, s3⟩ := hseg
      have s1 := Nat.le_of_ble_eq_true s1
      have s2 : ∀ t ∈ u.2.2.1.1, t.1 < u.2.1.1.length := fun t ht => Nat.le_of_ble_eq_true (List.all_eq_true.mp s2 t ht)
      have hall := rb_chk_ok (b0 := b0) (ad0 := ws0.map Prod.fst) (ws0 := ws0) (e := e) (below := below) (hs0 := false) (sb := 0) (vE := vE) (n0 := u.2.1.1.length) (v0 := v) X hEx hSx hb0 hTb hG hI hLt hC hIn' hsci hsn (fun h => by cases h) hAr hK (Nat.le_refl _) (Nat.le_refl _) (Nat.le_refl _) (Nat.le_refl _) s1 hv (fun _ => rfl) (fun h => by cases h) (fun _ => hR) s2 (fun _ u2 hu2 v2 lv2 st2 ws2 hg2 hv2 hd2 q0 q1 => ih u2 hu2 v2 lv2 st2 ws2 hg2 hv2 hd2 q0 (by omega)) (fun h => by cases h) s3
      exact hall _ (List.mem_singleton.mpr rfl) (Nat.le_refl _) v lv st ws hg (fun _ _ => rfl) s4 hd
  have hall := rb_pcs_ok (b0 := b0) (ad0 := ws0.map Prod.fst) (ws0 := ws0) (e := e) (below := below) (hs0 := false) (sb := 0) (vE := vE) (n0 := k.2.1.length) (v0 := vE) X hEx hSx hb0 hTb hG hI hLt hC hIn' hsci hsn (fun h => by cases h) hAr hK (Nat.le_refl _) (Nat.le_refl _) (Nat.le_refl _) (Nat.le_refl _) (Nat.le_refl _) (fun _ _ => rfl) (fun _ => rfl) (fun h => by cases h) (fun _ => hR) (fun t ht => by cases ht) (fun _ u2 hu2 v2 lv2 st2 ws2 hg2 hv2 hd2 q0 q1 => hcut ((ra_ev v2 u2.2.2.1).toNat + 1) u2 hu2 v2 lv2 st2 ws2 hg2 hv2 hd2 q0 (by omega)) (fun h => by cases h) hent
  have hl := lv_entry av (n := mm'.2.2.1) (by rw [ra_sl_len, ra_cats_ok hargs]; exact Nat.le_of_ble_eq_true hroom)
  rw [lg_entry_eq]
  exact hall _ (List.mem_singleton.mpr rfl) (Nat.le_refl _) vE _ [] ws0 ⟨hN, ra_la_ok hargs, trivial, hwor, fun _ _ h => h⟩ (fun _ _ => rfl) hdb hpd s.heap [] _ hP hD hS hl
end
end
