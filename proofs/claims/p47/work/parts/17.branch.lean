noncomputable section
/-! branches and switches -/
section
variable {p : Program} {l : Launch} {e : Env} {R : Room} {s : State} {m : MethodId} {args : Array Value} {below : List Frame} {meth : Method} {c : Code} {Q : State → Prop}
variable {cc : ByteArray} {own : String} {nL : Nat} {A : Nat → Prop} {D : va_G} {cl : List vw_C} {tys : List (ClassId × FieldType)} {Ts : List Cond} {b0 : Nat → Nat} {ad0 : List Nat} {cT : Nat → ClassId} {n0 : Nat} {v0 : Nat → Int}

def ra_bs (pc : Nat) (es : List ra_N) (lv : List (Nat × ra_V)) (st : List ra_V) (aw : List ra_C) (ce sl : Nat) : List (Nat × ra_S) := es.map (fun e => (pc, (e, lv, st, aw, ce, sl)))
theorem ra_bs_ok {pc : Nat} {es : List ra_N} {lv : List (Nat × ra_V)} {st st1 : List ra_V} {aw : List ra_C} {ce sl : Nat} {env : ra_N} {v : Nat → Int} {lvv : List (Nat × Value)} {stv stv1 : List Value} {ws : va_W} (hg : ra_g b0 ad0 cT v (env, lv, st1, aw, ce, sl) lvv stv1 ws) (hst : ra_a2 (ra_cV env.length v (ws.map Prod.fst) b0) st stv) (hn : n0 ≤ env.length) (hv : ∀ i, i < n0 → v i = v0 i) (h : ∃ e ∈ es, ra_cN v e ∧ e.length = env.length) (hs : ∀ x ∈ ra_bs pc es lv st aw ce sl, ra_ok p l e R s m args below meth c Q nL A D cl b0 ad0 cT n0 v0 x) : ra_W p l e R s m args below meth c Q nL A D cl pc lvv stv ws ce sl := by
  obtain ⟨f, h1, h2, h3⟩ := h
  have hg' := ra_g_ext (ra_g_st (st' := st) (stv' := stv) (ce' := ce) (sl' := sl) hg hst) (Nat.le_of_eq h3.symm) (fun _ _ => rfl) h2
  exact hs _ (List.mem_map.mpr ⟨f, h1, rfl⟩) (by show n0 ≤ f.length; omega) v _ _ ws hg' hv
def ra_tabs (pc : Nat) (x : Nat × Int) (lv : List (Nat × ra_V)) (st : List ra_V) (aw : List ra_C) (ce sl : Nat) (env : ra_N) : Int → List Int → Option (List (Nat × ra_S))
  | _, [] => some []
  | k, o :: os => ra_gd (ra_inr k k && ra_leb 0 ((pc : Int) + o)) (match ra_tabs pc x lv st aw ce sl env (k + 1) os with
    | some r => some (ra_bs (ra_tg pc o) (ra_cmpT 2 env x (0, k)) lv st aw ce sl ++ r)
    | none => none)
theorem ra_tabs_ok {pc : Nat} {x : Nat × Int} {lv : List (Nat × ra_V)} {st : List ra_V} {aw : List ra_C} {ce sl : Nat} {env : ra_N} : ∀ {os : List Int} {k : Int} {r : List (Nat × ra_S)}, ra_tabs pc x lv st aw ce sl env k os = some r → ∀ (j : Nat) (o : Int), os[j]? = some o → ra_inr (k + j) (k + j) = true ∧ ra_leb 0 ((pc : Int) + o) = true ∧ ∀ y ∈ ra_bs (ra_tg pc o) (ra_cmpT 2 env x (0, k + j)) lv st aw ce sl, y ∈ r
  | [], _, _, _, j, o, h => by simp at h
  | o :: os, k, r, h, j, o', ho => by
    unfold ra_tabs at h
    obtain ⟨h1, h⟩ := ra_gd_ok h
    split at h
    · rename_i r' hr
      cases h
      rw [Bool.and_eq_true] at h1
      cases j with
      | zero =>
        simp at ho
        subst ho
        refine ⟨by simpa using h1.1, h1.2, fun y hy => List.mem_append_left _ (by simpa using hy)⟩
      | succ j =>
        simp at ho
        have := ra_tabs_ok hr j o' ho
        have e : k + ((j + 1 : Nat) : Int) = k + 1 + (j : Int) := by omega
        rw [e]
        exact ⟨this.1, this.2.1, fun y hy => List.mem_append_right _ (this.2.2 y hy)⟩
    · cases h
def ra_looks (pc : Nat) (x : Nat × Int) (lv : List (Nat × ra_V)) (st : List ra_V) (aw : List ra_C) (ce sl : Nat) (env : ra_N) (all : List (Int × Int)) (d : Int) : List (Int × Int) → Option (List (Nat × ra_S))
  | [] => some []
  | q :: qs => ra_gd (ra_inr q.1 q.1 && ra_leb 0 ((pc : Int) + Op.lookupswitch.offset all d q.1)) (match ra_looks pc x lv st aw ce sl env all d qs with
    | some r => some (ra_bs (ra_tg pc (Op.lookupswitch.offset all d q.1)) (ra_cmpT 2 env x (0, q.1)) lv st aw ce sl ++ r)
    | none => none)
theorem ra_looks_ok {pc : Nat} {x : Nat × Int} {lv : List (Nat × ra_V)} {st : List ra_V} {aw : List ra_C} {ce sl : Nat} {env : ra_N} {all : List (Int × Int)} {d : Int} : ∀ {qs : List (Int × Int)} {r : List (Nat × ra_S)}, ra_looks pc x lv st aw ce sl env all d qs = some r → ∀ q ∈ qs, ra_inr q.1 q.1 = true ∧ ra_leb 0 ((pc : Int) + Op.lookupswitch.offset all d q.1) = true ∧ ∀ y ∈ ra_bs (ra_tg pc (Op.lookupswitch.offset all d q.1)) (ra_cmpT 2 env x (0, q.1)) lv st aw ce sl, y ∈ r
  | [], _, _, q, h => by simp at h
  | q0 :: qs, r, h, q, hq => by
    unfold ra_looks at h
    obtain ⟨h1, h⟩ := ra_gd_ok h
    split at h
    · rename_i r' hr
      cases h
      rw [Bool.and_eq_true] at h1
      rcases List.mem_cons.mp hq with h2 | h2
      · subst h2
        exact ⟨h1.1, h1.2, fun y hy => List.mem_append_left _ hy⟩
      · have := ra_looks_ok hr q h2
        exact ⟨this.1, this.2.1, fun y hy => List.mem_append_right _ (this.2.2 y hy)⟩
    · cases h
/-- bounds behind 'none of these' -/
def ra_nes (x : Nat × Int) : List (Int × Int) → ra_N → List ra_N
  | [], e => [e]
  | q :: qs, e => (ra_cmpT 3 e x (0, q.1)).flatMap (ra_nes x qs)
theorem ra_ofInt {k : Int} (h : ra_inr k k = true) : (Int32.ofInt k).toInt = k := by
  rw [Int32.toInt_ofInt]
  exact ra_bmod (ra_inr_ok h)
theorem ra_nes_ok {v : Nat → Int} {q : Nat × Int} {y : Int32} (ey : y.toInt = v q.1 + q.2) : ∀ {qs : List (Int × Int)} {env : ra_N}, ra_cN v env → q.1 < env.length → (∀ z ∈ qs, ra_inr z.1 z.1 = true ∧ y.toInt ≠ z.1) → ∃ e ∈ ra_nes q qs env, ra_cN v e ∧ e.length = env.length
  | [], env, hN, _, _ => ⟨env, List.mem_singleton.mpr rfl, hN, rfl⟩
  | z :: qs, env, hN, hq, h => by
    have h0 := h z List.mem_cons_self
    have e0 := ra_ofInt h0.1
    obtain ⟨f, f1, f2, f3⟩ := ra_cmpT_ok (qy := (0, z.1)) (y := Int32.ofInt z.1) hN 3 hq hN.1 ey (by show _ = v 0 + _; rw [hN.2.1, e0]; omega) (fun hc => h0.2 (by rw [hc, e0]))
    obtain ⟨g, g1, g2, g3⟩ := ra_nes_ok ey (qs := qs) f2 (by omega) (fun w hw => h w (List.mem_cons_of_mem _ hw))
    exact ⟨g, List.mem_flatMap.mpr ⟨f, f1, g1⟩, g2, by omega⟩
theorem ra_off_none {d x : Int} : ∀ {qs : List (Int × Int)}, (∀ z ∈ qs, x ≠ z.1) → Op.lookupswitch.offset qs d x = d
  | [], _ => rfl
  | z :: qs, h => by
    rw [Op.lookupswitch.offset_cons, if_neg (fun q => h z List.mem_cons_self q.symm)]
    exact ra_off_none (fun w hw => h w (List.mem_cons_of_mem _ hw))
def ra_p2 (i : Instr) (n pc : Nat) (a : ra_S) : Option (List (Nat × ra_S)) := match a with
  | (env, lv, st, aw, ce, sl) => match i with
    | .ifCond k off => ra_gd (n == 3 && ra_leb 0 ((pc : Int) + off)) (match st with
      | .inl x :: st => some (ra_bs (ra_tg pc off) (ra_cmpT (ra_ck k) env x (0, 0)) lv st aw ce sl ++ ra_bs (pc + 3) (ra_cmpT (ra_nk k) env x (0, 0)) lv st aw ce sl)
      | _ => none)
    | .if_icmp k off => ra_gd (n == 3 && ra_leb 0 ((pc : Int) + off)) (match st with
      | .inl y :: .inl x :: st => some (ra_bs (ra_tg pc off) (ra_cmpT (ra_ck k) env x y) lv st aw ce sl ++ ra_bs (pc + 3) (ra_cmpT (ra_nk k) env x y) lv st aw ce sl)
      | _ => none)
    | .tableswitch d lo hi offs => match st with
      | .inl x :: st => ra_gd (ra_leb 0 ((pc : Int) + d) && (ra_inr lo lo && (ra_inr hi hi && ra_eqb (hi - lo + 1) offs.toList.length))) (match ra_tabs pc x lv st aw ce sl env lo offs.toList with
        | some r => some (ra_bs (ra_tg pc d) (ra_le 1 env x (0, lo)) lv st aw ce sl ++ (ra_bs (ra_tg pc d) (ra_le 1 env (0, hi) x) lv st aw ce sl ++ r))
        | none => none)
      | _ => none
    | .lookupswitch d ps => match st with
      | .inl x :: st => ra_gd (ra_leb 0 ((pc : Int) + d) && (ps.toList.zip (ps.toList.drop 1)).all (fun (a, next) => a.1 < next.1)) (match ra_looks pc x lv st aw ce sl env ps.toList d ps.toList with
        | some r => some (ra_bs (ra_tg pc d) (ra_nes x ps.toList env) lv st aw ce sl ++ r)
        | none => none)
      | _ => none
    | _ => none
set_option maxHeartbeats 4000000 in
theorem ra_p2_ok {i : Instr} {n pc : Nat} {a : ra_S} {out : List (Nat × ra_S)} (h : ra_p2 i n pc a = some out) (X : ra_X p s m args c cc own nL A D cl tys Ts) (hdg : decode cc pc = .ok (i, n)) (hs : ∀ x ∈ out, ra_ok p l e R s m args below meth c Q nL A D cl b0 ad0 cT n0 v0 x) : ra_ok p l e R s m args below meth c Q nL A D cl b0 ad0 cT n0 v0 (pc, a) := by
  obtain ⟨env, lv, st, aw, ce, sl⟩ := a
  intro hn v lvv stv ws hg hv
  have hN := hg.1
  dsimp only at hn hN
  have hst := hg.2.2.1
  dsimp only at hst
  obtain ⟨hx, hb, hml, hown, hts, hKK, hA⟩ := id X
  unfold ra_p2 at h
  dsimp only at h
  split at h
  · have hq0 := ra_gd_ok h; clear h; obtain ⟨h1, h⟩ := hq0
    simp only [Bool.and_eq_true, beq_iff_eq] at h1
    obtain ⟨h1, h2⟩ := h1
    subst h1
    split at h
    · cases h
      obtain ⟨x, stv1, rfl, g2, g4⟩ := ra_a2_cons hst
      obtain ⟨k1, y, rfl, k2⟩ := g2
      have e0 : (0 : Int32).toInt = v (0, (0 : Int)).1 + (0, (0 : Int)).2 := by show _ = v 0 + 0; rw [hN.2.1]; rfl
      exact ra_ifW X hdg (ra_tg_ok h2) (fun hc => ra_bs_ok hg g4 hn hv (ra_cmpT_ok hN _ k1 hN.1 k2 e0 hc) (fun z hz => hs z (List.mem_append_left _ hz))) (fun hc => ra_bs_ok hg g4 hn hv (ra_cmpT_ok hN _ k1 hN.1 k2 e0 hc) (fun z hz => hs z (List.mem_append_right _ hz)))
    · cases h
  · have hq0 := ra_gd_ok h; clear h; obtain ⟨h1, h⟩ := hq0
    simp only [Bool.and_eq_true, beq_iff_eq] at h1
    obtain ⟨h1, h2⟩ := h1
    subst h1
    split at h
    · cases h
      obtain ⟨x, stv1, rfl, g2, g4⟩ := ra_a2_cons hst
      obtain ⟨x2, stv2, rfl, g5, g6⟩ := ra_a2_cons g4
      obtain ⟨k1, y, rfl, k2⟩ := g2
      obtain ⟨k3, z, rfl, k4⟩ := g5
      exact ra_icmpW X hdg (ra_tg_ok h2) (fun hc => ra_bs_ok hg g6 hn hv (ra_cmpT_ok hN _ k3 k1 k4 k2 hc) (fun z hz => hs z (List.mem_append_left _ hz))) (fun hc => ra_bs_ok hg g6 hn hv (ra_cmpT_ok hN _ k3 k1 k4 k2 hc) (fun z hz => hs z (List.mem_append_right _ hz)))
    · cases h
  · rename_i d lo hi offs
    split at h
    · have hq0 := ra_gd_ok h; clear h; obtain ⟨h1, h⟩ := hq0
      rw [Bool.and_eq_true, Bool.and_eq_true, Bool.and_eq_true] at h1
      obtain ⟨h1, h2, h3, h4⟩ := h1
      have h4 := ra_eqb_eq h4
      split at h
      · rename_i r hr
        cases h
        obtain ⟨x, stv1, rfl, g2, g4⟩ := ra_a2_cons hst
        obtain ⟨k1, y, rfl, k2⟩ := g2
        intro H locs ls hP hD hS hl
        have elo := ra_ofInt h2
        have ehi := ra_ofInt h3
        by_cases hlo : y.toInt < lo
        · refine lv_tableOut hx hb hdg (Or.inl hlo) (ra_tg_ok h1) ?_
          exact ra_bs_ok hg g4 hn hv (ra_le_ok (qy := (0, lo)) (y := Int32.ofInt lo) hN k1 hN.1 k2 (by show _ = v 0 + _; rw [hN.2.1, elo]; omega) (by omega)) (fun z hz => hs z (List.mem_append_left _ hz)) H locs ls hP hD hS hl
        · by_cases hhi : hi < y.toInt
          · refine lv_tableOut hx hb hdg (Or.inr hhi) (ra_tg_ok h1) ?_
            exact ra_bs_ok hg g4 hn hv (ra_le_ok (qx := (0, hi)) (x := Int32.ofInt hi) hN hN.1 k1 (by show _ = v 0 + _; rw [hN.2.1, ehi]; omega) k2 (by omega)) (fun z hz => hs z (List.mem_append_right _ (List.mem_append_left _ hz))) H locs ls hP hD hS hl
          · have hj : (y.toInt - lo).toNat < offs.toList.length := by omega
            have ho : offs.toList[(y.toInt - lo).toNat]? = some offs.toList[(y.toInt - lo).toNat] := List.getElem?_eq_getElem hj
            have ht := ra_tabs_ok hr _ _ ho
            have e1 : lo + (((y.toInt - lo).toNat : Nat) : Int) = y.toInt := by omega
            rw [e1] at ht
            refine lv_tableIn hx hb hdg hlo hhi (by rw [← Array.getElem?_toList]; exact ho) (ra_tg_ok ht.2.1) ?_
            exact ra_bs_ok hg g4 hn hv (ra_cmpT_ok (qy := (0, y.toInt)) (y := y) hN 2 k1 hN.1 k2 (by show _ = v 0 + _; rw [hN.2.1]; omega) rfl) (fun z hz => hs z (List.mem_append_right _ (List.mem_append_right _ (ht.2.2 z hz)))) H locs ls hP hD hS hl
      · cases h
    · cases h
  · rename_i d ps
    split at h
    · have hq0 := ra_gd_ok h; clear h; obtain ⟨h1, h⟩ := hq0
      rw [Bool.and_eq_true] at h1
      obtain ⟨h1, h2⟩ := h1
      split at h
      · rename_i r hr
        cases h
        obtain ⟨x, stv1, rfl, g2, g4⟩ := ra_a2_cons hst
        obtain ⟨k1, y, rfl, k2⟩ := g2
        intro H locs ls hP hD hS hl
        by_cases hk : ∃ z ∈ ps.toList, y.toInt = z.1
        · obtain ⟨z, hz, hy⟩ := hk
          have ht := ra_looks_ok hr z hz
          have e0 := ra_ofInt ht.1
          refine lv_lookup hx hb hdg h2 (by rw [hy]) (ra_tg_ok ht.2.1) ?_
          exact ra_bs_ok hg g4 hn hv (ra_cmpT_ok (qy := (0, z.1)) (y := y) hN 2 k1 hN.1 k2 (by show _ = v 0 + _; rw [hN.2.1, hy]; omega) rfl) (fun z hz => hs z (List.mem_append_right _ (ht.2.2 z hz))) H locs ls hP hD hS hl
        · have hne : ∀ z ∈ ps.toList, y.toInt ≠ z.1 := fun z hz hy => hk ⟨z, hz, hy⟩
          refine lv_lookup hx hb hdg h2 (ra_off_none hne) (ra_tg_ok h1) ?_
          exact ra_bs_ok hg g4 hn hv (ra_nes_ok k2 hN k1 (fun z hz => ⟨(ra_looks_ok hr z hz).1, hne z hz⟩)) (fun z hz => hs z (List.mem_append_left _ hz)) H locs ls hP hD hS hl
      · cases h
    · cases h
  · cases h
end
end
