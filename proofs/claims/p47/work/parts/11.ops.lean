noncomputable section
/-! bounds of and, division, rest; comparisons refine bounds -/
theorem ra_toNat_of {x : Int32} (h : 0 ≤ x.toInt) : (x.toBitVec.toNat : Int) = x.toInt ∧ x.toBitVec.toNat < 2147483648 := by
  have h1 := x.toBitVec.isLt
  have h2 : x.toInt = x.toBitVec.toInt := rfl
  rw [BitVec.toInt_eq_toNat_cond] at h2
  split at h2
  · constructor <;> omega
  · have : (x.toBitVec.toNat : Int) < 4294967296 := by omega
    omega
theorem ra_toInt_of {x : Int32} (h : x.toBitVec.toNat < 2147483648) : x.toInt = (x.toBitVec.toNat : Int) := by
  have h2 : x.toInt = x.toBitVec.toInt := rfl
  rw [BitVec.toInt_eq_toNat_cond] at h2
  split at h2
  · exact h2
  · omega
def ra_gand (a b : Int × Int) : Int × Int := if ra_leb 0 b.1 then (0, b.2) else if ra_leb 0 a.1 then (0, a.2) else (ra_lo, ra_hi)
theorem ra_and_le {x y : Int32} (h : 0 ≤ y.toInt) : 0 ≤ (x &&& y).toInt ∧ (x &&& y).toInt ≤ y.toInt := by
  obtain ⟨h1, h2⟩ := ra_toNat_of h
  have h3 : (x &&& y).toBitVec.toNat = x.toBitVec.toNat &&& y.toBitVec.toNat := by
    rw [Int32.toBitVec_and, BitVec.toNat_and]
  have h4 : (x &&& y).toBitVec.toNat ≤ y.toBitVec.toNat := by
    rw [h3]
    exact Nat.and_le_right
  have h5 := ra_toInt_of (x := x &&& y) (by omega)
  omega
theorem ra_gand_ok : ra_gok (fun x y => x &&& y) ra_gand (fun _ _ => True) := by
  intro a b x y _ h1 h2 h3 h4
  unfold ra_gand
  split
  · rename_i h
    have g := ra_leb_le h
    have := ra_and_le (x := x) (y := y) (by omega)
    show 0 ≤ (x &&& y).toInt ∧ (x &&& y).toInt ≤ b.2
    omega
  · split
    · rename_i h
      have g := ra_leb_le h
      have := ra_and_le (x := y) (y := x) (by omega)
      have e : x &&& y = y &&& x := by
        rw [← Int32.toBitVec_inj, Int32.toBitVec_and, Int32.toBitVec_and, BitVec.and_comm]
      show 0 ≤ (x &&& y).toInt ∧ (x &&& y).toInt ≤ a.2
      rw [e]
      omega
    · exact ra_i32 _
theorem ra_tdiv {a b : Int} (h : 1 ≤ b) : (0 ≤ a → 0 ≤ a.tdiv b ∧ a.tdiv b ≤ a) ∧ (a ≤ 0 → a ≤ a.tdiv b ∧ a.tdiv b ≤ 0) := by
  constructor
  · intro ha
    exact ⟨Int.tdiv_nonneg ha (by omega), Int.tdiv_le_self b ha⟩
  · intro ha
    have h1 : 0 ≤ (-a).tdiv b := Int.tdiv_nonneg (by omega) (by omega)
    have h2 : (-a).tdiv b ≤ -a := Int.tdiv_le_self b (by omega)
    rw [Int.neg_tdiv] at h1 h2
    omega
theorem ra_toInt_div (x y : Int32) (h : 1 ≤ y.toInt) : (x / y).toInt = x.toInt.tdiv y.toInt := by
  rw [Int32.toInt_div]
  have h1 := ra_i32 x
  have h2 := ra_tdiv (a := x.toInt) h
  unfold ra_lo ra_hi at h1
  apply ra_bmod
  unfold ra_lo ra_hi
  rcases Int.le_total 0 x.toInt with h3 | h3
  · have := h2.1 h3
    omega
  · have := h2.2 h3
    omega
def ra_gdiv (a b : Int × Int) : Int × Int := if ra_leb 0 a.1 && ra_leb 1 b.1 then (a.1 / b.2, a.2 / b.1) else (ra_lo, ra_hi)
theorem ra_gdiv_ok : ra_gok (fun x y => x / y) ra_gdiv (fun _ _ => True) := by
  intro a b x y _ h1 h2 h3 h4
  unfold ra_gdiv
  split
  · rename_i h
    simp only [Bool.and_eq_true] at h
    have g1 := ra_leb_le h.1
    have g2 := ra_leb_le h.2
    have e := ra_toInt_div x y (by omega)
    rw [Int.tdiv_eq_ediv_of_nonneg (by omega)] at e
    show a.1 / b.2 ≤ (x / y).toInt ∧ (x / y).toInt ≤ a.2 / b.1
    rw [e]
    have hy : 0 < y.toInt := by omega
    have hb2 : 0 < b.2 := by omega
    have hb1 : 0 < b.1 := by omega
    constructor
    · rw [Int.le_ediv_iff_mul_le hy]
      have k1 : a.1 / b.2 * b.2 ≤ a.1 := Int.ediv_mul_le _ (by omega)
      have k2 : 0 ≤ a.1 / b.2 := Int.ediv_nonneg g1 (by omega)
      have k3 : a.1 / b.2 * y.toInt ≤ a.1 / b.2 * b.2 := Int.mul_le_mul_of_nonneg_left h4 k2
      omega
    · rw [Int.le_ediv_iff_mul_le hb1]
      have k1 : x.toInt / y.toInt * y.toInt ≤ x.toInt := Int.ediv_mul_le _ (by omega)
      have k2 : 0 ≤ x.toInt / y.toInt := Int.ediv_nonneg (by omega) (by omega)
      have k3 : x.toInt / y.toInt * b.1 ≤ x.toInt / y.toInt * y.toInt := Int.mul_le_mul_of_nonneg_left h3 k2
      omega
  · exact ra_i32 _
def ra_frem (x y : Int32) : Int32 := x - x / y * y
def ra_grem (a b : Int × Int) : Int × Int := if ra_leb 1 b.1 then (if ra_leb 0 a.1 then (0, b.2 - 1) else (1 - b.2, b.2 - 1)) else (ra_lo, ra_hi)
theorem ra_toInt_rem (x y : Int32) (h : 1 ≤ y.toInt) : (ra_frem x y).toInt = x.toInt.tmod y.toInt := by
  have h1 := ra_i32 x
  have hd := ra_toInt_div x y h
  have e : x.toInt.tdiv y.toInt * y.toInt + x.toInt.tmod y.toInt = x.toInt := Int.tdiv_mul_add_tmod _ _
  have h2 := Int.tmod_lt_of_pos x.toInt (b := y.toInt) (by omega)
  have h2' : - y.toInt < x.toInt.tmod y.toInt := by
    have := Int.tmod_lt_of_pos (-x.toInt) (b := y.toInt) (by omega)
    rw [Int.neg_tmod] at this
    omega
  have h3 : ra_lo ≤ x.toInt.tdiv y.toInt * y.toInt ∧ x.toInt.tdiv y.toInt * y.toInt ≤ ra_hi := by
    rcases Int.le_total 0 x.toInt with h4 | h4
    · have k1 := Int.tmod_nonneg y.toInt h4
      have k2 : 0 ≤ x.toInt.tdiv y.toInt * y.toInt := Int.mul_nonneg ((ra_tdiv h).1 h4).1 (by omega)
      unfold ra_lo ra_hi at *
      omega
    · have k1 := Int.tmod_nonneg (a := -x.toInt) y.toInt (by omega)
      rw [Int.neg_tmod] at k1
      have k2 : 0 ≤ (-(x.toInt.tdiv y.toInt)) * y.toInt := Int.mul_nonneg (by have := ((ra_tdiv h).2 h4).2; omega) (by omega)
      rw [Int.neg_mul] at k2
      unfold ra_lo ra_hi at *
      omega
  have hm : (x / y * y).toInt = x.toInt.tdiv y.toInt * y.toInt := by
    rw [ra_toInt_mul _ _ (by rw [hd]; exact h3), hd]
  unfold ra_frem
  rw [ra_toInt_sub _ _ (by rw [hm]; have := ra_i32 y; unfold ra_lo ra_hi at *; omega), hm]
  omega
theorem ra_grem_ok : ra_gok ra_frem ra_grem (fun _ _ => True) := by
  intro a b x y _ h1 h2 h3 h4
  unfold ra_grem
  split
  · rename_i h
    have g1 := ra_leb_le h
    have e := ra_toInt_rem x y (by omega)
    have k1 := Int.tmod_lt_of_pos x.toInt (b := y.toInt) (by omega)
    have k2 : - y.toInt < x.toInt.tmod y.toInt := by
      have := Int.tmod_lt_of_pos (-x.toInt) (b := y.toInt) (by omega)
      rw [Int.neg_tmod] at this
      omega
    split
    · rename_i h0
      have g2 := ra_leb_le h0
      have k3 := Int.tmod_nonneg (a := x.toInt) y.toInt (by omega)
      show 0 ≤ _ ∧ _ ≤ b.2 - 1
      omega
    · show 1 - b.2 ≤ _ ∧ _ ≤ b.2 - 1
      omega
  · exact ra_i32 _
/-- bounds of one symbol made narrower; none if nothing is left -/
def ra_meet (env : ra_N) (i : Nat) (lo hi : Int) : Option ra_N := match ra_nth env i with
  | none => none
  | some r =>
    let l := if ra_leb lo r.1 then r.1 else lo
    let h := if ra_leb r.2 hi then r.2 else hi
    if ra_leb l h then some (ra_st env (l, h) i) else none
theorem ra_meet_ok {v : Nat → Int} {env : ra_N} (hN : ra_cN v env) {i : Nat} {lo hi : Int} (hi0 : i < env.length) (h1 : lo ≤ v i) (h2 : v i ≤ hi) : ∃ e, ra_meet env i lo hi = some e ∧ ra_cN v e ∧ e.length = env.length := by
  have hr : env[i]? = some env[i] := List.getElem?_eq_getElem hi0
  have hb := hN.2.2 _ _ hr
  unfold ra_meet
  simp only [ra_nth_eq, ra_st_eq]
  rw [hr]
  dsimp only
  generalize hl : (if ra_leb lo (env[i]).1 = true then (env[i]).1 else lo) = l
  generalize hh : (if ra_leb (env[i]).2 hi = true then (env[i]).2 else hi) = h
  have el : l ≤ v i := by rw [← hl]; split <;> omega
  have eh : v i ≤ h := by rw [← hh]; split <;> omega
  rw [if_pos (ra_leb_of (by omega))]
  refine ⟨_, rfl, ⟨by simp; exact hN.1, hN.2.1, fun j q hq => ?_⟩, by simp⟩
  rw [List.getElem?_set] at hq
  split at hq
  · rename_i hij
    subst hij
    simp [hi0] at hq
    subst hq
    exact ⟨el, eh⟩
  · exact hN.2.2 j q hq
def ra_mU (env : ra_N) (i : Nat) (hi : Int) : Option ra_N := match ra_nth env i with
  | none => none
  | some r => ra_meet env i r.1 hi
def ra_mL (env : ra_N) (i : Nat) (lo : Int) : Option ra_N := match ra_nth env i with
  | none => none
  | some r => ra_meet env i lo r.2
theorem ra_mU_ok {v : Nat → Int} {env : ra_N} (hN : ra_cN v env) {i : Nat} {hi : Int} (hi0 : i < env.length) (h2 : v i ≤ hi) : ∃ e, ra_mU env i hi = some e ∧ ra_cN v e ∧ e.length = env.length := by
  have hr : env[i]? = some env[i] := List.getElem?_eq_getElem hi0
  unfold ra_mU
  rw [ra_nth_eq, hr]
  exact ra_meet_ok hN hi0 (hN.2.2 _ _ hr).1 h2
theorem ra_mL_ok {v : Nat → Int} {env : ra_N} (hN : ra_cN v env) {i : Nat} {lo : Int} (hi0 : i < env.length) (h2 : lo ≤ v i) : ∃ e, ra_mL env i lo = some e ∧ ra_cN v e ∧ e.length = env.length := by
  have hr : env[i]? = some env[i] := List.getElem?_eq_getElem hi0
  unfold ra_mL
  rw [ra_nth_eq, hr]
  exact ra_meet_ok hN hi0 h2 (hN.2.2 _ _ hr).2
/-- x + d ≤ y -/
def ra_le (d : Int) (env : ra_N) (x y : Nat × Int) : List ra_N :=
  if x.1 = y.1 then (if ra_leb (x.2 + d) y.2 then [env] else []) else
  match (if x.1 = 0 then (if ra_leb (x.2 + d) (ra_rg env y).2 then some env else none) else ra_mU env x.1 ((ra_rg env y).2 - d - x.2)) with
  | none => []
  | some e => match (if y.1 = 0 then some e else ra_mL e y.1 ((ra_rg e x).1 + d - y.2)) with
    | none => []
    | some e2 => [e2]
theorem ra_le_ok {v : Nat → Int} {env : ra_N} (hN : ra_cN v env) {qx qy : Nat × Int} {x y : Int32} {d : Int} (hx : qx.1 < env.length) (hy : qy.1 < env.length) (ex : x.toInt = v qx.1 + qx.2) (ey : y.toInt = v qy.1 + qy.2) (h : x.toInt + d ≤ y.toInt) : ∃ e ∈ ra_le d env qx qy, ra_cN v e ∧ e.length = env.length := by
  unfold ra_le
  split
  · rename_i h0
    rw [h0] at ex
    rw [if_pos (ra_leb_of (by omega))]
    exact ⟨env, List.mem_singleton.mpr rfl, hN, rfl⟩
  · have h1 := ra_rg_ok hN ey
    have s1 : ∃ e, (if qx.1 = 0 then (if ra_leb (qx.2 + d) (ra_rg env qy).2 then some env else none) else ra_mU env qx.1 ((ra_rg env qy).2 - d - qx.2)) = some e ∧ ra_cN v e ∧ e.length = env.length := by
      split
      · rename_i h0
        have e0 : x.toInt = qx.2 := by rw [ex, h0, hN.2.1]; omega
        rw [if_pos (ra_leb_of (by omega))]
        exact ⟨env, rfl, hN, rfl⟩
      · exact ra_mU_ok hN hx (by omega)
    obtain ⟨e, e1, e2, e3⟩ := s1
    rw [e1]
    dsimp only
    have h2 := ra_rg_ok e2 ex
    have s2 : ∃ f, (if qy.1 = 0 then some e else ra_mL e qy.1 ((ra_rg e qx).1 + d - qy.2)) = some f ∧ ra_cN v f ∧ f.length = e.length := by
      split
      · exact ⟨e, rfl, e2, rfl⟩
      · exact ra_mL_ok e2 (by omega) (by omega)
    obtain ⟨f, f1, f2, f3⟩ := s2
    rw [f1]
    exact ⟨f, List.mem_singleton.mpr rfl, f2, by omega⟩
/-- both ways of a comparison: 0 lt, 1 ge, 2 eq, 3 ne, 4 gt, 5 le -/
def ra_cmpT (k : Nat) (env : ra_N) (x y : Nat × Int) : List ra_N := match k with
  | 0 => ra_le 1 env x y
  | 1 => ra_le 0 env y x
  | 2 => (ra_le 0 env x y).flatMap (fun e => ra_le 0 e y x)
  | 3 => ra_le 1 env x y ++ ra_le 1 env y x
  | 4 => ra_le 1 env y x
  | _ => ra_le 0 env x y
def ra_cmpP (k : Nat) (x y : Int32) : Prop := match k with
  | 0 => x < y
  | 1 => y ≤ x
  | 2 => x = y
  | 3 => ¬ x = y
  | 4 => y < x
  | _ => x ≤ y
theorem ra_cmpT_ok {v : Nat → Int} {env : ra_N} (hN : ra_cN v env) {qx qy : Nat × Int} {x y : Int32} (k : Nat) (hx : qx.1 < env.length) (hy : qy.1 < env.length) (ex : x.toInt = v qx.1 + qx.2) (ey : y.toInt = v qy.1 + qy.2) (h : ra_cmpP k x y) : ∃ e ∈ ra_cmpT k env qx qy, ra_cN v e ∧ e.length = env.length := by
  unfold ra_cmpP at h
  unfold ra_cmpT
  split at h
  · exact ra_le_ok hN hx hy ex ey (by have := Int32.lt_iff_toInt_lt.mp h; omega)
  · exact ra_le_ok hN hy hx ey ex (by have := Int32.le_iff_toInt_le.mp h; omega)
  · subst h
    obtain ⟨e, h1, h2, h3⟩ := ra_le_ok (d := 0) hN hx hy ex ey (by omega)
    obtain ⟨f, g1, g2, g3⟩ := ra_le_ok (d := 0) (env := e) h2 (by omega) (by omega) ey ex (by omega)
    exact ⟨f, List.mem_flatMap.mpr ⟨e, h1, g1⟩, g2, by omega⟩
  · have hne : x.toInt ≠ y.toInt := fun q => h (Int32.toInt_inj.mp q)
    rcases Int.lt_or_gt_of_ne hne with q | q
    · obtain ⟨e, h1, h2⟩ := ra_le_ok (d := 1) hN hx hy ex ey (by omega)
      exact ⟨e, List.mem_append_left _ h1, h2⟩
    · obtain ⟨e, h1, h2⟩ := ra_le_ok (d := 1) hN hy hx ey ex (by omega)
      exact ⟨e, List.mem_append_right _ h1, h2⟩
  · exact ra_le_ok hN hy hx ey ex (by have := Int32.lt_iff_toInt_lt.mp h; omega)
  · exact ra_le_ok hN hx hy ex ey (by have := Int32.le_iff_toInt_le.mp h; omega)
/-- the least number of ones from m on -/
def ra_ub (m : Int) : Int := ((2 ^ (Nat.log2 m.toNat + 1) : Nat) : Int) - 1
theorem ra_ub_lt {z m : Int} (h1 : 0 ≤ z) (h2 : z ≤ m) : z.toNat < 2 ^ (Nat.log2 m.toNat + 1) := by
  have : m.toNat < 2 ^ (Nat.log2 m.toNat + 1) := Nat.lt_log2_self
  omega
def ra_gor (a b : Int × Int) : Int × Int := if ra_leb 0 a.1 && ra_leb 0 b.1 then (0, ra_ub (if ra_leb a.2 b.2 then b.2 else a.2)) else (ra_lo, ra_hi)
theorem ra_gor_ok : ra_gok (fun x y => x ||| y) ra_gor (fun _ _ => True) := by
  intro a b x y _ h1 h2 h3 h4
  unfold ra_gor
  split
  · rename_i h
    rw [Bool.and_eq_true] at h
    have g1 := ra_leb_le h.1
    have g2 := ra_leb_le h.2
    obtain ⟨M, hM, m1, m2⟩ : ∃ M, M = (if ra_leb a.2 b.2 = true then b.2 else a.2) ∧ a.2 ≤ M ∧ b.2 ≤ M := by
      refine ⟨_, rfl, ?_⟩
      split
      · rename_i q
        have := ra_leb_le q
        omega
      · rename_i q
        have := ra_leb_lt q
        omega
    rw [← hM]
    obtain ⟨x1, x2⟩ := ra_toNat_of (x := x) (by omega)
    obtain ⟨y1, y2⟩ := ra_toNat_of (x := y) (by omega)
    have e : (x ||| y).toBitVec.toNat = x.toBitVec.toNat ||| y.toBitVec.toNat := by rw [Int32.toBitVec_or, BitVec.toNat_or]
    have l1 : (x ||| y).toBitVec.toNat < 2 ^ 31 := by rw [e]; exact Nat.or_lt_two_pow (by omega) (by omega)
    have k1 := ra_ub_lt (z := x.toInt) (m := M) (by omega) (by omega)
    have k2 := ra_ub_lt (z := y.toInt) (m := M) (by omega) (by omega)
    have l2 : (x ||| y).toBitVec.toNat < 2 ^ (Nat.log2 M.toNat + 1) := by
      rw [e]
      exact Nat.or_lt_two_pow (by have : x.toBitVec.toNat = x.toInt.toNat := by omega
                                  rw [this]; exact k1) (by have : y.toBitVec.toNat = y.toInt.toNat := by omega
                                                           rw [this]; exact k2)
    have e2 := ra_toInt_of (x := x ||| y) (by omega)
    show 0 ≤ (x ||| y).toInt ∧ (x ||| y).toInt ≤ ra_ub M
    unfold ra_ub
    omega
  · exact ra_i32 _
def ra_gshl (a b : Int × Int) : Int × Int := if ra_leb 0 a.1 && (ra_leb 0 b.1 && (ra_leb b.2 30 && ra_leb (a.2 * ((2 ^ b.2.toNat : Nat) : Int)) ra_hi)) then (0, a.2 * ((2 ^ b.2.toNat : Nat) : Int)) else (ra_lo, ra_hi)
theorem ra_shk : ∀ n, n < 31 → ((Int32.ofNat n &&& 31).toBitVec.smod 32).toNat = n := by decide +kernel
theorem ra_gshl_ok : ra_gok (fun x y => x <<< (y &&& 31)) ra_gshl (fun _ _ => True) := by
  intro a b x y _ h1 h2 h3 h4
  unfold ra_gshl
  split
  · rename_i h
    rw [Bool.and_eq_true, Bool.and_eq_true, Bool.and_eq_true] at h
    have g1 := ra_leb_le h.1
    have g2 := ra_leb_le h.2.1
    have g3 := ra_leb_le h.2.2.1
    have g4 := ra_leb_le h.2.2.2
    obtain ⟨x1, x2⟩ := ra_toNat_of (x := x) (by omega)
    have ey : y = Int32.ofNat y.toInt.toNat := by
      apply Int32.toInt_inj.mp
      have : (Int32.ofNat y.toInt.toNat).toInt = (y.toInt.toNat : Int) := nI_toInt (n := y.toInt.toNat) (by omega)
      rw [this]
      omega
    have hk := ra_shk y.toInt.toNat (by omega)
    rw [← ey] at hk
    have e := pk_shl x (y &&& 31) _ hk
    have hp : 2 ^ y.toInt.toNat ≤ 2 ^ b.2.toNat := Nat.pow_le_pow_right (by decide) (by omega)
    have hm : x.toBitVec.toNat * 2 ^ y.toInt.toNat ≤ a.2.toNat * 2 ^ b.2.toNat := Nat.mul_le_mul (by omega) hp
    have ha : ((a.2.toNat * 2 ^ b.2.toNat : Nat) : Int) = a.2 * ((2 ^ b.2.toNat : Nat) : Int) := by
      rw [Int.natCast_mul, Int.toNat_of_nonneg (by omega)]
    unfold ra_hi at g4
    have e3 : x.toBitVec.toNat * 2 ^ y.toInt.toNat % 2 ^ 32 = x.toBitVec.toNat * 2 ^ y.toInt.toNat := Nat.mod_eq_of_lt (by omega)
    rw [e3] at e
    have e2 := ra_toInt_of (x := x <<< (y &&& 31)) (by omega)
    show 0 ≤ (x <<< (y &&& 31)).toInt ∧ (x <<< (y &&& 31)).toInt ≤ _
    dsimp only
    omega
  · exact ra_i32 _
/-- and with 255, exactly -/
def ra_and (env : ra_N) (x y : Nat × Int) : ra_N × (Nat × Int) := let k := ra_nm env y; let r := ra_rg env x
  if k.1 = 0 ∧ ra_eqb k.2 255 = true ∧ ra_leb 0 r.1 = true ∧ ra_leb r.2 255 = true then (env, x) else
  if k.1 = 0 ∧ ra_eqb k.2 255 = true ∧ ra_leb (-128) r.1 = true ∧ ra_leb r.2 (-1) = true then (env, (x.1, x.2 + 256)) else
  ra_bin (fun x y => x &&& y) ra_gand env x y
theorem ra_and255 (x : Int32) : (x &&& 255).toInt = x.toInt % 256 := by
  have h : (x &&& 255).toBitVec.toNat = x.toBitVec.toNat % 256 := by
    rw [Int32.toBitVec_and, BitVec.toNat_and]
    exact Nat.and_two_pow_sub_one_eq_mod x.toBitVec.toNat 8
  have e := ra_toInt_of (x := x &&& 255) (by omega)
  have h2 : x.toInt = x.toBitVec.toInt := rfl
  rw [BitVec.toInt_eq_toNat_cond] at h2
  split at h2 <;> omega
theorem ra_and_ok {v : Nat → Int} {env : ra_N} (hN : ra_cN v env) {qx qy : Nat × Int} {x y : Int32} (hx : qx.1 < env.length) (hy : qy.1 < env.length) (ex : x.toInt = v qx.1 + qx.2) (ey : y.toInt = v qy.1 + qy.2) : ra_res v env (ra_and env qx qy) (x &&& y).toInt := by
  unfold ra_and
  dsimp only
  have h1 := ra_nm_ok hN hy ey
  have h2 := ra_rg_ok hN ex
  have key : (ra_nm env qy).1 = 0 → ra_eqb (ra_nm env qy).2 255 = true → y = 255 := by
    intro k1 k2
    have := ra_eqb_eq k2
    apply Int32.toInt_inj.mp
    rw [h1.2, k1, hN.2.1, this]
    rfl
  split
  · rename_i h
    obtain ⟨a1, a2, a3, a4⟩ := h
    have e := key a1 a2
    subst e
    have b1 := ra_leb_le a3
    have b2 := ra_leb_le a4
    refine ra_res_same hN hx ?_
    rw [ra_and255, ← ex]
    omega
  · split
    · rename_i h
      obtain ⟨a1, a2, a3, a4⟩ := h
      have e := key a1 a2
      subst e
      have b1 := ra_leb_le a3
      have b2 := ra_leb_le a4
      refine ra_res_same hN hx ?_
      rw [ra_and255]
      dsimp only
      omega
    · exact ra_bin_ok ra_gand_ok hN hx hy ex ey trivial
end
