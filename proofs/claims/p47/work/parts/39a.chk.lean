noncomputable section
/-! arrivals of the law's loop; the check of a work list -/
section
variable {p : Program} {l : Launch} {e : Env} {R : Room} {s : State} {m : MethodId} {args : Array Value} {below : List Frame} {meth : Method} {c : Code} {Q : State → Prop}
variable {cc : ByteArray} {own : String} {nL : Nat} {A : Nat → Prop} {D : va_G} {cl : List vw_C} {tys : List (ClassId × FieldType)} {Ts : List Cond} {b0 : Nat → Nat} {ad0 : List Nat} {cT : Nat → ClassId} {n0 : Nat} {v0 : Nat → Int}
variable {sc : String}
variable {nw : List (String × Nat × MethodName × String)} {SS : ra_Sx × (Nat → Nat)}
theorem rb_lvs {env : ra_N} {v : Nat → Int} {μ : List (Nat × Int)} {π : ra_Pi} {ads adsI : List Nat} (hN : ra_cN v env) (hπ : ∀ (i j r : Nat), π.1[i]? = some j → ads[j]? = some r → adsI[i]? = some r) {lv : List (Nat × ra_V)} {lvv : List (Nat × Value)} (hlv : ra_a2 (fun (p : Nat × ra_V) (q : Nat × Value) => p.1 = q.1 ∧ ra_cV env.length v ads b0 p.2 q.2) lv lvv) : ∀ {lu : List (Nat × ra_V)}, lu.all (ra_lvb env μ π lv) = true → ∃ lvu : List (Nat × Value), ra_a2 (fun (p : Nat × ra_V) (q : Nat × Value) => p.1 = q.1 ∧ ra_cV μ.length (ra_vI v μ) adsI (ra_bI b0 ads π.2) p.2 q.2) lu lvu ∧ ∀ q ∈ lvu, q ∈ lvv
  | [], _ => ⟨[], trivial, fun _ h => by cases h⟩
  | q :: lu, h => by
    rw [List.all_cons, Bool.and_eq_true] at h
    obtain ⟨lvu, h1, h2⟩ := rb_lvs hN hπ hlv h.2
    have h3 := h.1
    unfold ra_lvb at h3
    split at h3
    · rename_i x hx
      obtain ⟨k, y, g1, g2⟩ := ra_lf_ok hx hlv
      refine ⟨(q.1, y) :: lvu, ⟨⟨rfl, ra_en_ok hN hπ h3 g2⟩, h1⟩, fun z hz => ?_⟩
      rcases List.mem_cons.mp hz with e | e
      · rw [e]
        exact List.mem_of_getElem? g1
      · exact h2 z e
    · cases h3
def rb_om2 (om : List ra_V) : Bool := match om[2]? with
  | some w => ra_veq w (.inr (.inr (.inl 2)))
  | none => false
def rb_m26 (sb : Nat) (μ : List (Nat × Int)) : Bool := match μ[2]?, sb with
  | some r, 0 => rc_eq r (0, 0)
  | some r, _ + 1 => rc_eq r (2, 6)
  | none, _ => false
def rb_pk (env : ra_N) (μ : List (Nat × Int)) (π : ra_Pi) (aw uw : List ra_C) : Bool := match ra_pick aw π.1 with
  | none => false
  | some cs => ra_b2 (ra_enC env μ π) cs uw
def rb_arrL (sb np : Nat) (u : rb_U) (pc : Nat) (μ : List (Nat × Int)) (π : List Nat) (om : List ra_V) (hf : List rb_H) (a : ra_S) (F : rb_D) : Bool := match a with
  | (env, lv, st, aw, ce, sl) => u.1 == pc && (ce == u.2.1.2.2.2.2.1 && (sl == u.2.1.2.2.2.2.2 && (ra_m0 μ && (ra_idn 0 np μ && (ra_mok env μ u.2.1.1 && (u.2.1.2.1.all (ra_lvb env μ (π, om) lv) && (st.isEmpty && (u.2.1.2.2.1.isEmpty && (ra_nd π && (rb_pk env μ (π, om) aw u.2.1.2.2.2.1 && (rb_om2 om && (Nat.ble om.length 1000 && (rb_m26 sb μ && rb_pre env F μ hf u.2.2.2)))))))))))))
theorem rb_arrL_ok {sb np : Nat} {u : rb_U} {pc : Nat} {μ : List (Nat × Int)} {π : List Nat} {om : List ra_V} {hf : List rb_H} {a : ra_S} {F : rb_D} (h : rb_arrL sb np u pc μ π om hf a F = true) (hE : np ≤ n0) (h3 : 3 ≤ n0)
    (hC : ∀ (b1 : Nat → Nat) (v : Nat → Int) (lv : List (Nat × Value)) (ws : va_W), b1 2 = b0 2 → (∀ j, b1 (1000 + j) = b0 (1000 + j)) → ra_g b1 [] cT v u.2.1 lv [] ws → (∀ i, i < np → v i = v0 i) → (sb = 0 → v 2 = 0) → (0 < sb → v 2 = v0 2 + 6) → rb_dv v u.2.2.2 → ra_W p l e R s m args below meth c Q nL A D cl u.1 lv [] ws u.2.1.2.2.2.2.1 u.2.1.2.2.2.2.2) : rb_ok p l e R s m args below meth c Q nL A D cl b0 ad0 cT n0 v0 (pc, a, F) := by
  obtain ⟨env, lv, st, aw, ce, sl⟩ := a
  unfold rb_arrL at h
  simp only [Bool.and_eq_true, beq_iff_eq] at h
  obtain ⟨c1, c2, c3, c4, c5, c6, c7, c8, c9, c10, c11, c12, c14, c15, c13⟩ := h
  intro hn v lvv stv ws hg hv hdb hdv
  have hN := hg.1
  have hst := hg.2.2.1
  have hlv := hg.2.1
  dsimp only at hn hN hst hlv hdb hdv
  have hμl := ra_mok_len c6
  unfold rb_pk at c11
  split at c11
  · cases c11
  · rename_i cs hcs
    obtain ⟨wc, w1, w2⟩ := ra_pick_a2 hg.2.2.2.1 hcs
    obtain ⟨p1, p2⟩ := ra_pick_get w1
    have hads : ∀ (i j r : Nat), π[i]? = some j → (ws.map Prod.fst)[j]? = some r → (wc.map Prod.fst)[i]? = some r := by
      intro i j r h1 h2
      obtain ⟨q, q1, q2⟩ := p2 i j h1
      rw [List.getElem?_map, q1] at h2
      rw [List.getElem?_map, q2]
      exact h2
    obtain ⟨lvu, l1, l2⟩ := rb_lvs (π := (π, om)) hN hads hlv c7
    have est : stv = [] := by
      cases st with
      | nil =>
        cases stv with
        | nil => rfl
        | cons x y => exact hst.elim
      | cons x y => simp at c8
    have eu : u.2.1.2.2.1 = [] := by simpa using c9
    have hb2 : ra_bI b0 (ws.map Prod.fst) om 2 = b0 2 := by
      unfold rb_om2 at c12
      unfold ra_bI
      split at c12
      · rename_i ho
        rw [ra_veq_eq c12] at ho
        rw [ho]
      · cases c12
    intro H locs ls hP hD hS hl
    have hPwc : va_P D cl wc H := fun i q hq => by
      have hi : i < π.length := by rw [p1]; exact (List.getElem?_eq_some_iff.mp hq).1
      obtain ⟨q', q1, q2⟩ := p2 i _ (List.getElem?_eq_getElem hi)
      rw [hq] at q2
      cases q2
      exact hP _ _ q1
    have hDwc : va_D A wc := by
      refine ⟨fun i j x y hx hy hxy => ?_, fun i x hx => ?_⟩
      · have hi : i < π.length := by rw [p1]; exact (List.getElem?_eq_some_iff.mp hx).1
        have hj : j < π.length := by rw [p1]; exact (List.getElem?_eq_some_iff.mp hy).1
        obtain ⟨q, q1, q2⟩ := p2 i _ (List.getElem?_eq_getElem hi)
        obtain ⟨q', q3, q4⟩ := p2 j _ (List.getElem?_eq_getElem hj)
        rw [hx] at q2
        rw [hy] at q4
        cases q2
        cases q4
        have e0 := hD.1 _ _ x y q1 q3 hxy
        exact ra_nd_ok c10 (List.getElem?_eq_getElem hi) (by rw [e0]; exact List.getElem?_eq_getElem hj)
      · have hi : i < π.length := by rw [p1]; exact (List.getElem?_eq_some_iff.mp hx).1
        obtain ⟨q, q1, q2⟩ := p2 i _ (List.getElem?_eq_getElem hi)
        rw [hx] at q2
        cases q2
        exact hD.2 _ x q1
    show W p l e R s m args below meth c H locs ce sl Q (F0 m pc ls stv)
    rw [← c1, c2, c3, est]
    have hm2 : (sb = 0 → ra_vI v μ 2 = 0) ∧ (0 < sb → ra_vI v μ 2 = v0 2 + 6) := by
      unfold rb_m26 at c15
      unfold ra_vI
      split at c15
      · rename_i r hr
        rw [hr, rc_eq_ok c15]
        exact ⟨fun _ => by dsimp only; rw [hN.2.1]; rfl, fun h => absurd h (by omega)⟩
      · rename_i r k hr
        rw [hr, rc_eq_ok c15]
        exact ⟨fun h => absurd h (by omega), fun _ => by dsimp only; rw [hv 2 (by omega)]⟩
      · cases c15
    refine hC (ra_bI b0 (ws.map Prod.fst) om) (ra_vI v μ) lvu wc hb2 (fun j => rs_bI (Nat.le_of_ble_eq_true c14) j) ⟨ra_cN_map hN c4 c6, ?_, ?_, ?_, fun k r hk => by simp at hk⟩ (fun i hi => ?_) hm2.1 hm2.2 (rb_pre_ok hN hdv c13) H locs ls hPwc hDwc hS ⟨hl.1, hl.2.1, fun q hq => hl.2.2 q (l2 q hq)⟩
    · rw [← hμl]
      exact l1
    · rw [eu]
      trivial
    · rw [← hμl]
      exact ra_b2_ok (R := fun (c : ra_C) (x : Nat × va_E) => ra_cC env.length v (ws.map Prod.fst) b0 cT c x.2) (R' := fun (c : ra_C) (x : Nat × va_E) => ra_cC μ.length (ra_vI v μ) (wc.map Prod.fst) (ra_bI b0 (ws.map Prod.fst) om) cT c x.2) (fun a b c q1 q2 => ra_enC_ok (π := (π, om)) hN hads q1 q2) c11 w2
    · have := ra_idn_ok c5 i hi
      simp only [ra_vI, this]
      rw [Nat.zero_add, hv i (by omega)]
      omega
/-- an arrival -/
def rb_at (hs0 : Bool) (sb np : Nat) (cuts : List rb_U) (R0 : ra_L) (x : rb_T) (h : rb_Ht) : Bool := match ra_nth cuts h.1 with
  | none => false
  | some u => match hs0 with
    | true => rb_arrL sb np u x.1 h.2.1 h.2.2.1 h.2.2.2.1 h.2.2.2.2 x.2.1 x.2.2
    | false => rb_arr np R0 u x.1 h.2.1 h.2.2.2.2 x.2.1 x.2.2
def rb_chk (spl nL : Nat) (cl : List vw_C) (tyv : Nat → Nat → FieldType) (ini : Option Nat) (sci : Nat) (hs0 : Bool) (sb : Nat) (MT : List ra_M) (K : List rb_K) (RC RS RF RL : Nat) (I : ra_I) (sx : ra_Sx) (tb : ra_Tb) (lt : List (Nat × Int)) (rps : List Nat) (rt : Option FieldType) (np : Nat) (posts : List rb_P) (mc ms : Nat) (cuts : List rb_U) (cps lps : List Nat) (R0 : ra_L) : Nat → List (Bool × rb_T) → List rb_Ht → Bool
  | 0, _, _ => false
  | _ + 1, [], _ => true
  | f + 1, x :: w, tp => match ra_has lps x.2.1, tp with
    | true, [] => false
    | true, h :: tp => match h.1 with
      | 0 => match !x.1 && ra_has cps x.2.1, tp with
        | true, [] => false
        | true, h :: tp => match rb_at hs0 sb np cuts R0 x.2 h with
          | true => rb_chk spl nL cl tyv ini sci hs0 sb MT K RC RS RF RL I sx tb lt rps rt np posts mc ms cuts cps lps R0 f w tp
          | false => false
        | false, tp => match rb_one spl nL cl tyv ini sci hs0 sb MT K RC RS RF RL I sx tb lt rps rt np posts mc ms x.2.1 x.2.2.1 x.2.2.2 tp with
          | none => false
          | some r => rb_chk spl nL cl tyv ini sci hs0 sb MT K RC RS RF RL I sx tb lt rps rt np posts mc ms cuts cps lps R0 f (r.1.map (fun y => (false, y)) ++ w) r.2
      | n + 1 => match rb_lem (n + 1) h.2.1 h.2.2.1 h.2.2.2.2 x.2.2.1 x.2.2.2 with
        | none => false
        | some outs => rb_chk spl nL cl tyv ini sci hs0 sb MT K RC RS RF RL I sx tb lt rps rt np posts mc ms cuts cps lps R0 f (outs.map (fun o => (x.1, x.2.1, o.1, o.2)) ++ w) tp
    | false, tp => match !x.1 && ra_has cps x.2.1, tp with
      | true, [] => false
      | true, h :: tp => match rb_at hs0 sb np cuts R0 x.2 h with
        | true => rb_chk spl nL cl tyv ini sci hs0 sb MT K RC RS RF RL I sx tb lt rps rt np posts mc ms cuts cps lps R0 f w tp
        | false => false
      | false, tp => match rb_one spl nL cl tyv ini sci hs0 sb MT K RC RS RF RL I sx tb lt rps rt np posts mc ms x.2.1 x.2.2.1 x.2.2.2 tp with
        | none => false
        | some r => rb_chk spl nL cl tyv ini sci hs0 sb MT K RC RS RF RL I sx tb lt rps rt np posts mc ms cuts cps lps R0 f (r.1.map (fun y => (false, y)) ++ w) r.2
theorem rb_chk_ok {spl : Nat} {tyv : Nat → Nat → FieldType} {ini : Option Nat} {sci : Nat} {hs0 : Bool} {sb : Nat} {MT : List ra_M} {K : List rb_K} {RC RS RF RL : Nat} {I : ra_I} {tb : ra_Tb} {lt : List (Nat × Int)} {rps : List Nat} {rt : Option FieldType} {np : Nat} {posts : List rb_P} {mc ms : Nat} {cuts : List rb_U} {cps lps : List Nat} {R0 : ra_L} (X : ra_X p s m args c cc own nL A D cl (ra_T sc cT) Ts) (hEx : ra_Ex sc nw s) (hSx : rs_S SS A s) (hb0 : ∀ j, b0 (1000 + j) = SS.2 j) (hTb : rs_okT Ts own SS.1 MT tb) (hG : ∀ w ∈ Ts, goodWord w = true) (hI : ra_okI Ts own sc cl nw MT cc I) (hLt : rb_okL Ts own lt) (hC : ra_okC Ts cl tyv) (hIn : ∀ ci, ini = some ci → meth.name = "<init>" ∧ ∀ (rc : vw_C) (k : Nat), cl[ci]? = some rc → k < rc.2.2 → (rc.2.1 k).1 = own) {rsc : vw_C} (hsci : cl[sci]? = some rsc) (hsn : rsc.1 = sc) (hsc : hs0 = true → ra_scr s A b0 sb n0 v0) (hAr : ra_okA Ts) (hK : ∀ k ∈ K, rb_Hk l sc nw SS Ts MT D cl cT k) (hRC : RC ≤ R.cells) (hRS : RS ≤ R.slots) (hRF : RF ≤ R.frames) (hRL : RL ≤ R.locals) {vE : Nat → Int} {ws0 : va_W} (hE : np ≤ n0) (hEv : ∀ i, i < np → v0 i = vE i) (had : hs0 = false → ad0 = ws0.map Prod.fst) (hLaw : hs0 = true → ∀ (pc : Nat) (lv : List (Nat × Value)) (ws : va_W) (ce sl : Nat), decode cc pc = .ok (.ireturn, 1) → ce ≤ mc → sl ≤ ms → ra_W p l e R s m args below meth c Q nL A D cl pc lv [.int 1] ws ce sl)
    (hR : hs0 = false → ∀ (i : Instr) (pc : Nat) (lv : List (Nat × Value)) (st : List Value) (ws : va_W) (r : Option Value), decode cc pc = .ok (i, 1) → ra_rv rt i st r → rb_pv b0 cT vE np posts ws0 r ws → ra_W p l e R s m args below meth c Q nL A D cl pc lv st ws mc ms) (hR0 : ∀ t ∈ R0.1, t.1 < n0)
    (hCut : hs0 = false → ∀ u ∈ cuts, ∀ (v : Nat → Int) (lv : List (Nat × Value)) (st : List Value) (ws : va_W), ra_g b0 ad0 cT v u.2.1 lv st ws → (∀ i, i < np → v i = vE i) → rb_dv v u.2.2.2 → 0 ≤ ra_ev v u.2.2.1 → ra_ev v u.2.2.1 < ra_ev v0 R0 → ra_W p l e R s m args below meth c Q nL A D cl u.1 lv st ws u.2.1.2.2.2.2.1 u.2.1.2.2.2.2.2)
    (hCutL : hs0 = true → ∀ u ∈ cuts, ∀ (b1 : Nat → Nat) (v : Nat → Int) (lv : List (Nat × Value)) (ws : va_W), b1 2 = b0 2 → (∀ j, b1 (1000 + j) = b0 (1000 + j)) → ra_g b1 [] cT v u.2.1 lv [] ws → (∀ i, i < np → v i = v0 i) → (sb = 0 → v 2 = 0) → (0 < sb → v 2 = v0 2 + 6) → rb_dv v u.2.2.2 → ra_W p l e R s m args below meth c Q nL A D cl u.1 lv [] ws u.2.1.2.2.2.2.1 u.2.1.2.2.2.2.2) :
    ∀ {f : Nat} {w : List (Bool × rb_T)} {tp : List rb_Ht}, rb_chk spl nL cl tyv ini sci hs0 sb MT K RC RS RF RL I SS.1 tb lt rps rt np posts mc ms cuts cps lps R0 f w tp = true → ∀ x ∈ w, rb_ok p l e R s m args below meth c Q nL A D cl b0 ad0 cT n0 v0 x.2
  | 0, _, _, h, _, _ => by simp [rb_chk] at h
  | f + 1, [], _, _, x, hx => by cases hx
  | f + 1, y :: w, tp, h, x, hx => by
    have hat : ∀ (z : rb_T) (hh : rb_Ht), rb_at hs0 sb np cuts R0 z hh = true → rb_ok p l e R s m args below meth c Q nL A D cl b0 ad0 cT n0 v0 z := by
      intro z hh ha
      unfold rb_at at ha
      split at ha
      · cases ha
      · rename_i u hu
        rw [ra_nth_eq] at hu
        have hu := List.mem_of_getElem? hu
        split at ha
        · exact rb_arrL_ok ha hE (by obtain ⟨L, xs, -, -, -, -, h3, -⟩ := hsc rfl; exact h3) (hCutL rfl u hu)
        · exact rb_arr_ok ha hE hEv hR0 (hCut rfl u hu)
    have ih := fun {w : List (Bool × rb_T)} {tp : List rb_Ht} => rb_chk_ok (spl := spl) (rps := rps) (cps := cps) (lps := lps) X hEx hSx hb0 hTb hG hI hLt hC hIn hsci hsn hsc hAr hK hRC hRS hRF hRL hE hEv had hLaw hR hR0 hCut hCutL (f := f) (w := w) (tp := tp)
    have hone : ∀ {tp : List rb_Ht} {r : List rb_T × List rb_Ht}, rb_one spl nL cl tyv ini sci hs0 sb MT K RC RS RF RL I SS.1 tb lt rps rt np posts mc ms y.2.1 y.2.2.1 y.2.2.2 tp = some r → rb_chk spl nL cl tyv ini sci hs0 sb MT K RC RS RF RL I SS.1 tb lt rps rt np posts mc ms cuts cps lps R0 f (r.1.map (fun y => (false, y)) ++ w) r.2 = true → ∀ x ∈ y :: w, rb_ok p l e R s m args below meth c Q nL A D cl b0 ad0 cT n0 v0 x.2 := by
      intro tp r h1 h2 x hx
      have h3 := ih h2
      rcases List.mem_cons.mp hx with q | q
      · subst q
        exact rb_one2_ok X hEx hSx hb0 hTb hG hI hLt hC hIn hsci hsn hsc hAr hK hRC hRS hRF hRL hE hEv had hLaw hR h1 (fun z hz => h3 (false, z) (List.mem_append_left _ (List.mem_map.mpr ⟨z, hz, rfl⟩)))
      · exact h3 x (List.mem_append_right _ q)
    have harr : ∀ {hh : rb_Ht} {tp : List rb_Ht}, rb_at hs0 sb np cuts R0 y.2 hh = true → rb_chk spl nL cl tyv ini sci hs0 sb MT K RC RS RF RL I SS.1 tb lt rps rt np posts mc ms cuts cps lps R0 f w tp = true → ∀ x ∈ y :: w, rb_ok p l e R s m args below meth c Q nL A D cl b0 ad0 cT n0 v0 x.2 := by
      intro hh tp h1 h2 x hx
      rcases List.mem_cons.mp hx with q | q
      · subst q
        exact hat _ _ h1
      · exact ih h2 x q
    unfold rb_chk at h
    split at h
    · cases h
    · split at h
      · split at h
        · cases h
        · split at h
          · exact harr ‹_› h x hx
          · cases h
        · split at h
          · cases h
          · exact hone ‹_› h x hx
      · split at h
        · cases h
        · rename_i outs ho
          have h3 := ih h
          rcases List.mem_cons.mp hx with q | q
          · subst q
            exact rb_alt_ok (rb_lem_ok ho) (fun o hm => h3 (x.1, x.2.1, o.1, o.2) (List.mem_append_left _ (List.mem_map.mpr ⟨o, hm, rfl⟩)))
          · exact h3 x (List.mem_append_right _ q)
    · split at h
      · cases h
      · split at h
        · exact harr ‹_› h x hx
        · cases h
      · split at h
        · cases h
        · exact hone ‹_› h x hx
end
end
