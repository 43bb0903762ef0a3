noncomputable section
/-! piles of signs, and what is written of them -/
section
theorem rc_ct_congr {b : Bool} {G H : Nat} : ∀ {p : Nat}, (∀ j, 1 ≤ j → j < p → G.testBit j = H.testBit j) → ra_ct b G p = ra_ct b H p
  | 0, _ => rfl
  | 1, _ => rfl
  | p + 2, h => by
    unfold ra_ct
    rw [rc_ct_congr (p := p + 1) (fun j h1 h2 => h j h1 (by omega)), h (p + 1) (by omega) (by omega)]
theorem rc_ct_nn {b : Bool} {G : Nat} : ∀ {p : Nat}, 0 ≤ ra_ct b G p
  | 0 => Int.le_refl _
  | 1 => Int.le_refl _
  | p + 2 => by
    unfold ra_ct
    have := rc_ct_nn (b := b) (G := G) (p := p + 1)
    split <;> omega
theorem rc_ct_sum {G : Nat} : ∀ {p : Nat}, ra_ct false G (p + 1) + ra_ct true G (p + 1) = p
  | 0 => rfl
  | p + 1 => by
    have ih := rc_ct_sum (G := G) (p := p)
    unfold ra_ct
    cases G.testBit (p + 1) <;> simp <;> omega
theorem rc_ct_pop {b : Bool} {G p : Nat} (h : 1 ≤ p) : ra_ct b G (p + 1) = ra_ct b G p + (if G.testBit p = b then 1 else 0) := by
  obtain ⟨q, rfl⟩ : ∃ q, p = q + 1 := ⟨p - 1, by omega⟩
  rfl
/-- a mark is put at p -/
theorem rc_mark (G p : Nat) (b : Bool) : ∃ H : Nat, H < 2 ^ (p + 1) ∧ H.testBit p = b ∧ ∀ j, j < p → H.testBit j = G.testBit j := by
  have hlt : G % 2 ^ p < 2 ^ p := Nat.mod_lt _ (Nat.two_pow_pos p)
  have hb : ∀ j, j < p → (G % 2 ^ p).testBit j = G.testBit j := fun j hj => by rw [Nat.testBit_mod_two_pow]; simp [hj]
  have h0 : (G % 2 ^ p).testBit p = false := Nat.testBit_lt_two_pow hlt
  have he : 2 ^ (p + 1) = 2 ^ p + 2 ^ p := by rw [Nat.pow_succ]; omega
  cases b with
  | false => exact ⟨G % 2 ^ p, by omega, h0, hb⟩
  | true => exact ⟨2 ^ p + G % 2 ^ p, by omega, by rw [Nat.testBit_two_pow_add_eq, h0]; rfl, fun j hj => by rw [Nat.testBit_two_pow_add_gt hj]; exact hb j hj⟩
/-- 0: a letter, 1: not, 2: a sign between two -/
def rc_cls (env : ra_N) (x : Nat × Int) : Option Nat := let r := ra_rg env x
  if ra_leb 97 r.1 && ra_leb r.2 122 then some 0 else if ra_leb 126 r.1 && ra_leb r.2 126 then some 1 else if (ra_leb 37 r.1 && ra_leb r.2 62) || (ra_leb 124 r.1 && ra_leb r.2 124) then some 2 else none
theorem rc_cls_ok {v : Nat → Int} {env : ra_N} (hN : ra_cN v env) {x : Nat × Int} (hx : x.1 < env.length) {k : Nat} (h : rc_cls env x = some k) : (k = 0 ∧ ra_isL (v x.1 + x.2)) ∨ (k = 1 ∧ v x.1 + x.2 = 126) ∨ (k = 2 ∧ ra_isO (v x.1 + x.2)) := by
  have hr := rb_rgI hN hx
  unfold rc_cls at h
  dsimp only at h
  unfold ra_isL ra_isO
  split at h
  · rename_i q
    cases h
    rw [Bool.and_eq_true] at q
    have := ra_leb_le q.1
    have := ra_leb_le q.2
    exact Or.inl ⟨rfl, by omega, by omega⟩
  · split at h
    · rename_i q
      cases h
      rw [Bool.and_eq_true] at q
      have := ra_leb_le q.1
      have := ra_leb_le q.2
      exact Or.inr (Or.inl ⟨rfl, by omega⟩)
    · split at h
      · rename_i q
        cases h
        rw [Bool.or_eq_true, Bool.and_eq_true, Bool.and_eq_true] at q
        refine Or.inr (Or.inr ⟨rfl, ?_⟩)
        rcases q with q | q
        · have := ra_leb_le q.1
          have := ra_leb_le q.2
          exact Or.inl ⟨by omega, by omega⟩
        · have := ra_leb_le q.1
          have := ra_leb_le q.2
          exact Or.inr (by omega)
      · cases h
/-- 0: brackets and nots, 1: what joins two -/
def rc_knd (env : ra_N) (x : Nat × Int) : Option Nat := let r := ra_rg env x
  if (ra_leb 3 r.1 && ra_leb r.2 3) || (ra_leb 7 r.1 && ra_leb r.2 7) then some 0 else if (ra_leb 1 r.1 && ra_leb r.2 2) || (ra_leb 4 r.1 && ra_leb r.2 6) then some 1 else none
theorem rc_knd_ok {v : Nat → Int} {env : ra_N} (hN : ra_cN v env) {x : Nat × Int} (hx : x.1 < env.length) {k : Nat} (h : rc_knd env x = some k) : (k = 0 ∧ (v x.1 + x.2 = 3 ∨ v x.1 + x.2 = 7)) ∨ (k = 1 ∧ ((1 ≤ v x.1 + x.2 ∧ v x.1 + x.2 ≤ 2) ∨ (4 ≤ v x.1 + x.2 ∧ v x.1 + x.2 ≤ 6))) := by
  have hr := rb_rgI hN hx
  unfold rc_knd at h
  dsimp only at h
  split at h
  · rename_i q
    cases h
    rw [Bool.or_eq_true, Bool.and_eq_true, Bool.and_eq_true] at q
    refine Or.inl ⟨rfl, ?_⟩
    rcases q with q | q
    · have := ra_leb_le q.1
      have := ra_leb_le q.2
      exact Or.inl (by omega)
    · have := ra_leb_le q.1
      have := ra_leb_le q.2
      exact Or.inr (by omega)
  · split at h
    · rename_i q
      cases h
      rw [Bool.or_eq_true, Bool.and_eq_true, Bool.and_eq_true] at q
      refine Or.inr ⟨rfl, ?_⟩
      rcases q with q | q
      · have := ra_leb_le q.1
        have := ra_leb_le q.2
        exact Or.inl ⟨by omega, by omega⟩
      · have := ra_leb_le q.1
        have := ra_leb_le q.2
        exact Or.inr ⟨by omega, by omega⟩
    · cases h
/-- the pile's two rows -/
abbrev rc_P (p r w G : Int) (n : Nat) (f : Nat → Int) : Prop := ra_base 1 [p, r, w, G] n f
abbrev rc_Q (p G : Int) (n : Nat) (f : Nat → Int) : Prop := ra_base 2 [p, G] n f
theorem rc_init {f : Nat → Int} {n : Nat} (h : f 0 = 8) : rc_P 1 0 0 0 n f := ⟨by decide, by decide, h, fun j h1 h2 => by omega, rfl, rfl⟩
theorem rc_initQ {f : Nat → Int} {n : Nat} : rc_Q 1 0 n f := ⟨by decide, by decide, fun j h1 h2 => by omega⟩
theorem rc_lin {p r w G : Int} {n : Nat} {f : Nat → Int} (h : rc_P p r w G n f) : p = 1 + r + w ∧ 0 ≤ r ∧ 0 ≤ w := by
  obtain ⟨h1, h2, h3, h4, h5, h6⟩ := h
  obtain ⟨q, hq⟩ : ∃ q : Nat, p.toNat = q + 1 := ⟨p.toNat - 1, by omega⟩
  rw [hq] at h5 h6
  have := rc_ct_sum (G := G.toNat) (p := q)
  have a := rc_ct_nn (b := false) (G := G.toNat) (p := q + 1)
  have b := rc_ct_nn (b := true) (G := G.toNat) (p := q + 1)
  omega
/-- what lies on top -/
theorem rc_top {p r w G : Int} {n n' : Nat} {f g : Nat → Int} (h : rc_P p r w G n f) (h' : rc_Q p G n' g) : (p = 1 ∧ f (p - 1).toNat = 8) ∨ (2 ≤ p ∧ 1 ≤ w ∧ (f (p - 1).toNat = 3 ∨ f (p - 1).toNat = 7) ∧ g (p - 1).toNat = 126) ∨ (2 ≤ p ∧ 1 ≤ r ∧ ((1 ≤ f (p - 1).toNat ∧ f (p - 1).toNat ≤ 2) ∨ (4 ≤ f (p - 1).toNat ∧ f (p - 1).toNat ≤ 6)) ∧ ra_isO (g (p - 1).toNat)) := by
  obtain ⟨h1, h2, h3, h4, h5, h6⟩ := h
  obtain ⟨g1, g2, g3⟩ := h'
  by_cases hp : p = 1
  · subst hp
    exact Or.inl ⟨rfl, h3⟩
  · have ht : (((p - 1).toNat : Nat) : Int) = p - 1 := by omega
    have k := h4 (p - 1).toNat (by omega) (by omega)
    have k' := g3 (p - 1).toNat (by omega) (by omega)
    have ep : p.toNat = (p - 1).toNat + 1 := by omega
    rw [ep, rc_ct_pop (by omega)] at h5 h6
    have a := rc_ct_nn (b := false) (G := G.toNat) (p := (p - 1).toNat)
    have b := rc_ct_nn (b := true) (G := G.toNat) (p := (p - 1).toNat)
    refine Or.inr ?_
    cases hb : G.toNat.testBit (p - 1).toNat with
    | true =>
      rw [hb] at h5 h6 k k'
      rw [if_neg (by decide)] at h5
      rw [if_pos rfl] at h6
      exact Or.inl ⟨by omega, by omega, k.2.2.mp rfl, k'.1 rfl⟩
    | false =>
      rw [hb] at h5 h6 k k'
      rw [if_pos rfl] at h5
      rw [if_neg (by decide)] at h6
      have h7 : ¬ (f (p - 1).toNat = 3 ∨ f (p - 1).toNat = 7) := fun q => by
        have := k.2.2.mpr q
        cases this
      exact Or.inr ⟨by omega, by omega, by omega, k'.2 rfl⟩
theorem rc_pop {p r w G : Int} {n : Nat} {f : Nat → Int} (h : rc_P p r w G n f) (hp : 2 ≤ p) : ((f (p - 1).toNat = 3 ∨ f (p - 1).toNat = 7) → rc_P (p - 1) r (w - 1) G n f) ∧ (((1 ≤ f (p - 1).toNat ∧ f (p - 1).toNat ≤ 2) ∨ (4 ≤ f (p - 1).toNat ∧ f (p - 1).toNat ≤ 6)) → rc_P (p - 1) (r - 1) w G n f) := by
  obtain ⟨h1, h2, h3, h4, h5, h6⟩ := h
  have k := h4 (p - 1).toNat (by omega) (by omega)
  have ep : p.toNat = (p - 1).toNat + 1 := by omega
  rw [ep, rc_ct_pop (by omega)] at h5 h6
  have h4' : ∀ j : Nat, 1 ≤ j → (j : Int) < p - 1 → 1 ≤ f j ∧ f j ≤ 7 ∧ (G.toNat.testBit j = true ↔ (f j = 3 ∨ f j = 7)) := fun j a b => h4 j a (by omega)
  constructor
  · intro q
    have hb := k.2.2.mpr q
    rw [hb] at h5 h6
    rw [if_neg (by decide)] at h5
    rw [if_pos rfl] at h6
    exact ⟨by omega, h2, h3, h4', by omega, by omega⟩
  · intro q
    have hb : G.toNat.testBit (p - 1).toNat = false := by
      cases hb : G.toNat.testBit (p - 1).toNat with
      | false => rfl
      | true => have := k.2.2.mp hb; omega
    rw [hb] at h5 h6
    rw [if_pos rfl] at h5
    rw [if_neg (by decide)] at h6
    exact ⟨by omega, h2, h3, h4', by omega, by omega⟩
theorem rc_popQ {p G : Int} {n : Nat} {g : Nat → Int} (h : rc_Q p G n g) (hp : 2 ≤ p) : rc_Q (p - 1) G n g := ⟨by omega, h.2.1, fun j a b => h.2.2 j a (by omega)⟩
theorem rc_push {p r w G : Int} {n n' : Nat} {f g : Nat → Int} (h : rc_P p r w G n f) (h' : rc_Q p G n' g) (hp : p ≤ 99) {x y : Int} (b : Bool) (hx : if b then x = 3 ∨ x = 7 else (1 ≤ x ∧ x ≤ 2) ∨ (4 ≤ x ∧ x ≤ 6)) (hy : if b then y = 126 else ra_isO y) : ∃ H : Int, 0 ≤ H ∧ H ≤ 1267650600228229401496703205376 ∧ rc_P (p + 1) (if b then r else r + 1) (if b then w + 1 else w) H n (ra_upi f p.toNat x) ∧ rc_Q (p + 1) H n' (ra_upi g p.toNat y) := by
  obtain ⟨h1, h2, h3, h4, h5, h6⟩ := h
  obtain ⟨g1, g2, g3⟩ := h'
  obtain ⟨H, H1, H2, H3⟩ := rc_mark G.toNat p.toNat b
  have hbd : H < 2 ^ 100 := Nat.lt_of_lt_of_le H1 (Nat.pow_le_pow_right (by decide) (by omega))
  have ep : (p + 1).toNat = p.toNat + 1 := by omega
  have hc : ∀ b', ra_ct b' H p.toNat = ra_ct b' G.toNat p.toNat := fun b' => rc_ct_congr (fun j _ hj => H3 j hj)
  refine ⟨(H : Int), by omega, by omega, ⟨by omega, by omega, ?_, fun j a c => ?_, ?_, ?_⟩, ⟨by omega, by omega, fun j a c => ?_⟩⟩
  · unfold ra_upi
    rw [if_neg (by omega)]
    exact h3
  · rw [Int.toNat_natCast]
    by_cases hj : j = p.toNat
    · subst hj
      rw [H2]
      unfold ra_upi
      rw [if_pos rfl]
      cases b <;> simp at hx ⊢ <;> omega
    · rw [H3 j (by omega)]
      unfold ra_upi
      rw [if_neg hj]
      exact h4 j a (by omega)
  · rw [ep, rc_ct_pop (by omega), Int.toNat_natCast, hc, H2, ← h5]
    cases b <;> simp
  · rw [ep, rc_ct_pop (by omega), Int.toNat_natCast, hc, H2, ← h6]
    cases b <;> simp
  · rw [Int.toNat_natCast]
    by_cases hj : j = p.toNat
    · subst hj
      rw [H2]
      unfold ra_upi
      rw [if_pos rfl]
      cases b <;> simp at hy ⊢ <;> exact hy
    · rw [H3 j (by omega)]
      unfold ra_upi
      rw [if_neg hj]
      exact g3 j a (by omega)
/-- below the top -/
theorem rc_below {p r w G k : Int} {n : Nat} {f : Nat → Int} (h : rc_P p r w G n f) (h0 : 0 ≤ k) (hk : k < p) : (k = 0 ∧ f k.toNat = 8) ∨ (1 ≤ k ∧ 1 ≤ f k.toNat ∧ f k.toNat ≤ 7) := by
  obtain ⟨h1, h2, h3, h4, h5, h6⟩ := h
  by_cases hz : k = 0
  · subst hz
    exact Or.inl ⟨rfl, h3⟩
  · have := h4 k.toNat (by omega) (by omega)
    exact Or.inr ⟨by omega, this.1, this.2.1⟩
/-- signs written down -/
theorem rc_dp_congr {f g : Nat → Int} {a : Nat} : ∀ {m : Nat}, (∀ j, j < m → g (a + j) = f (a + j)) → ra_dp g a m = ra_dp f a m
  | 0, _ => rfl
  | m + 1, h => by
    unfold ra_dp
    rw [rc_dp_congr (m := m) (fun j hj => h j (by omega)), h m (by omega)]
theorem rc_wf_congr {f g : Nat → Int} {a m : Nat} (h : ∀ j, j < m → g (a + j) = f (a + j)) (hw : ra_wf f a m) : ra_wf g a m := fun j hj => by
  rw [h j hj, rc_dp_congr (fun i hi => h i (by omega))]
  exact hw j hj
def rc_dl (k : Nat) : Int := match k with
  | 0 => 1
  | 1 => 0
  | _ => -1
theorem rc_put {f : Nat → Int} {a m : Nat} {x e : Int} {k : Nat} (hw : ra_wf f a m) (he : ra_dp f a m = e) (hk : (k = 0 ∧ ra_isL x ∧ e ≤ 29) ∨ (k = 1 ∧ x = 126 ∧ 1 ≤ e) ∨ (k = 2 ∧ ra_isO x ∧ 2 ≤ e)) : ra_wf (ra_upi f (a + m) x) a (m + 1) ∧ ra_dp (ra_upi f (a + m) x) a (m + 1) = e + rc_dl k := by
  have hc : ∀ j, j < m → ra_upi f (a + m) x (a + j) = f (a + j) := fun j hj => if_neg (by omega)
  have ht : ra_upi f (a + m) x (a + m) = x := if_pos rfl
  have hd := rc_dp_congr hc
  have hw' := rc_wf_congr hc hw
  constructor
  · intro j hj
    by_cases h : j = m
    · subst h
      rw [ht, hd, he]
      rcases hk with ⟨-, h1, h2⟩ | ⟨-, h1, h2⟩ | ⟨-, h1, h2⟩
      · exact Or.inl ⟨h1, h2⟩
      · exact Or.inr (Or.inl ⟨h1, h2⟩)
      · exact Or.inr (Or.inr ⟨h1, h2⟩)
    · exact hw' j (by omega)
  · unfold ra_dp
    rw [hd, he, ht]
    unfold ra_isL ra_isO at hk
    rcases hk with ⟨rfl, h1, h2⟩ | ⟨rfl, h1, h2⟩ | ⟨rfl, h1, h2⟩
    · rw [if_pos h1]; rfl
    · rw [if_neg (by omega), if_pos h1]; rfl
    · rw [if_neg (by omega), if_neg (by omega)]; rfl
/-- one sign worked off -/
theorem rc_go {f : Nat → Int} {a m j : Nat} {e : Int} (hw : ra_wf f a m) (hj : j < m) (he : ra_dp f a j = e) : (ra_isL (f (a + j)) ∧ e ≤ 29 ∧ ra_dp f a (j + 1) = e + 1) ∨ (f (a + j) = 126 ∧ 1 ≤ e ∧ ra_dp f a (j + 1) = e) ∨ (ra_isO (f (a + j)) ∧ 2 ≤ e ∧ ra_dp f a (j + 1) = e - 1) := by
  have h := hw j hj
  rw [he] at h
  have hd : ra_dp f a (j + 1) = ra_dp f a j + (if 97 ≤ f (a + j) ∧ f (a + j) ≤ 122 then 1 else if f (a + j) = 126 then 0 else -1) := rfl
  rw [he] at hd
  rcases h with ⟨h1, h2⟩ | ⟨h1, h2⟩ | ⟨h1, h2⟩
  · unfold ra_isL at h1
    rw [if_pos h1] at hd
    exact Or.inl ⟨h1, h2, hd⟩
  · rw [if_neg (by omega), if_pos h1] at hd
    exact Or.inr (Or.inl ⟨h1, h2, by omega⟩)
  · have h3 : ra_isO (f (a + j)) := h1
    unfold ra_isO at h3
    rw [if_neg (by omega), if_neg (by omega)] at hd
    exact Or.inr (Or.inr ⟨h1, h2, by omega⟩)
end
end
