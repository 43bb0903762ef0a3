/-! what an array's contents may be said to be, by a number of a saying and by numbers -/
def ra_upi (f : Nat → Int) (i : Nat) (x : Int) : Nat → Int := fun j => if j = i then x else f j
def ra_isL (c : Int) : Prop := 97 ≤ c ∧ c ≤ 122
def ra_isO (c : Int) : Prop := (37 ≤ c ∧ c ≤ 62) ∨ c = 124
/-- how deep the pile is behind m signs from a on -/
def ra_dp (f : Nat → Int) (a : Nat) : Nat → Int
  | 0 => 0
  | m + 1 => ra_dp f a m + (if 97 ≤ f (a + m) ∧ f (a + m) ≤ 122 then 1 else if f (a + m) = 126 then 0 else -1)
/-- m signs from a on can be worked off -/
def ra_wf (f : Nat → Int) (a m : Nat) : Prop := ∀ j, j < m → (ra_isL (f (a + j)) ∧ ra_dp f a j ≤ 29) ∨ (f (a + j) = 126 ∧ 1 ≤ ra_dp f a j) ∨ (ra_isO (f (a + j)) ∧ 2 ≤ ra_dp f a j)
/-- how many of 1 .. p - 1 are marked (b) in G -/
def ra_ct (b : Bool) (G : Nat) : Nat → Int
  | 0 => 0
  | 1 => 0
  | p + 2 => ra_ct b G (p + 1) + (if G.testBit (p + 1) = b then 1 else 0)
/-- the j-th number that c codes -/
def rd_dig : Nat → Nat → Int
  | c, 0 => ((c % 4294967296 : Nat) : Int) - 2147483648
  | c, j + 1 => rd_dig (c / 4294967296) j
def rd_ok1 (f : Nat → Int) (t u s p m i k w : Int) (n : Nat) : Prop := k < rd_dig t.toNat n ∨ (0 ≤ rd_dig u.toNat n ∧ rd_dig u.toNat n ≤ k) ∨ ((if rd_dig m.toNat n ≤ f (120 * w + 12 * rd_dig s.toNat n + rd_dig p.toNat n).toNat then (1 : Int) else 0) = rd_dig i.toNat n)
def rd_fit (f : Nat → Int) (t u s p m i k w d : Int) : Prop := ∀ n : Nat, (n : Int) < d → rd_ok1 f t u s p m i k w n
def rd_b8 (ps : List Int) (n : Nat) (f : Nat → Int) : Prop := match ps with
  | lo :: hi :: t :: u :: s :: p :: m :: i :: d :: k :: g => (∀ j, j < n → lo ≤ f j ∧ f j ≤ hi) ∧ ∀ (w : Nat) (x : Int), g[w]? = some x → (x = 1 ∧ rd_fit f t u s p m i k w d) ∨ (x = 0 ∧ ¬ rd_fit f t u s p m i k w d)
  | _ => False
def rd_b9 (ps : List Int) (w q : Int) (f : Nat → Int) : Prop := match ps with
  | _ :: _ :: t :: u :: s :: p :: m :: i :: _ :: k :: _ => ∀ j : Nat, (j : Int) < q → rd_ok1 f t u s p m i k w j
  | _ => False
def ra_base (k : Nat) (ps : List Int) (n : Nat) (f : Nat → Int) : Prop := match k, ps with
  | 0, [lo, hi] => ∀ j, j < n → lo ≤ f j ∧ f j ≤ hi
  | 1, [p, r, w, G] => 1 ≤ p ∧ 0 ≤ G ∧ f 0 = 8 ∧ (∀ j : Nat, 1 ≤ j → (j : Int) < p → 1 ≤ f j ∧ f j ≤ 7 ∧ (G.toNat.testBit j = true ↔ (f j = 3 ∨ f j = 7))) ∧ r = ra_ct false G.toNat p.toNat ∧ w = ra_ct true G.toNat p.toNat
  | 2, [p, G] => 1 ≤ p ∧ 0 ≤ G ∧ ∀ j : Nat, 1 ≤ j → (j : Int) < p → (G.toNat.testBit j = true → f j = 126) ∧ (G.toNat.testBit j = false → ra_isO (f j))
  | 3, [a, b, c, d] => 0 ≤ a ∧ b ≤ 560 ∧ 0 ≤ c ∧ (d ≤ c ∨ 560 ≤ c) ∧ ra_wf f a.toNat (b - a).toNat ∧ ra_wf f c.toNat (d - c).toNat
  | 4, [a, b, e, c, d, w] => 0 ≤ a ∧ a ≤ b ∧ 0 ≤ c ∧ ((w = 0 ∧ (d ≤ c ∨ 560 ≤ c)) ∨ (w = 1 ∧ 560 ≤ a ∧ d ≤ 560)) ∧ ra_wf f a.toNat (b - a).toNat ∧ ra_dp f a.toNat (b - a).toNat = e ∧ ra_wf f c.toNat (d - c).toNat
  | 5, [a, b, k, e, c, d, w] => 0 ≤ a ∧ a ≤ k ∧ 0 ≤ c ∧ ((w = 0 ∧ b ≤ 560 ∧ (d ≤ c ∨ 560 ≤ c)) ∨ (w = 1 ∧ (b ≤ a ∨ 560 ≤ a) ∧ d ≤ 560)) ∧ ra_wf f a.toNat (b - a).toNat ∧ ra_dp f a.toNat (k - a).toNat = e ∧ ra_wf f c.toNat (d - c).toNat
  | 6, [] => ∀ j, j < n → 12 ≤ j % 29 → j % 29 ≤ 16 → -1 ≤ f j ∧ f j ≤ 11
  | 7, [c, lo, hi] => 0 ≤ c ∧ ∀ j, j < n → f j = rd_dig c.toNat j ∧ lo ≤ f j ∧ f j ≤ hi
  | 8, ps => rd_b8 ps n f
  | 9, w :: q :: ps => 0 ≤ w ∧ w ≤ 99 ∧ 0 ≤ q ∧ rd_b8 ps n f ∧ rd_b9 ps w q f
  | 10, w :: r :: ps => 0 ≤ w ∧ w ≤ 99 ∧ rd_b8 ps n f ∧ (∀ x, (ps.drop 10)[w.toNat]? = some x → x = r)
  | _, _ => False
/-- 0: one place is known; 1: one place was written; from 2 on: a saying of its own -/
def ra_phi : List Nat → List Int → Nat → (Nat → Int) → Prop
  | [], _, _, _ => True
  | 0 :: t, i :: x :: ps, n, f => 0 ≤ i ∧ f i.toNat = x ∧ ra_phi t ps n f
  | 1 :: t, i :: x :: ps, n, f => 0 ≤ i ∧ ∃ f0, f = ra_upi f0 i.toNat x ∧ ra_phi t ps n f0
  | (k + 2) :: _, ps, n, f => ra_base k ps n f
  | _, _, _, _ => False
