def iI : Int × Int := (-2147483648, 2147483647)
def cZ (k : Int) : ra_V := .inl (0, k)
def cY (s : Nat) (k : Int) : ra_V := .inl (s, k)
def cR (i : Nat) : ra_V := .inr (.inl i)
def cO (k : Nat) : ra_V := .inr (.inr (.inl k))
def cL (s : Nat) : ra_V := .inr (.inr (.inr s))
def eZ (k : Int) : ra_E := .inl (.inl (0, k))
def eY (s : Nat) (k : Int) : ra_E := .inl (.inl (s, k))
def eR (i : Nat) : ra_E := .inl (.inr (.inl i))
def eO (k : Nat) : ra_E := .inl (.inr (.inr (.inl k)))
def eB (lo hi : Int) : ra_E := .inr (lo, hi)
theorem pSci : vwCl[6]? = some (RX6, TX6, 6) := rfl
theorem pLt0 {own : String} : rb_okL pT own [] := fun _ h => absurd h List.not_mem_nil
theorem pIni {ci : Nat} {rc : vw_C} {own nm : String} (h : vwCl[ci]? = some rc) (hn : nm = "<init>") (h2 : (List.range rc.2.2).all (fun k => (rc.2.1 k).1 == own) = true) : ∀ cj, (some ci : Option Nat) = some cj → nm = "<init>" ∧ ∀ (rc' : vw_C) (k : Nat), vwCl[cj]? = some rc' → k < rc'.2.2 → (rc'.2.1 k).1 = own := by
  intro cj hc
  cases hc
  refine ⟨hn, fun rc' k h3 h4 => ?_⟩
  have e : rc' = rc := Option.some.inj (h3.symm.trans h)
  subst e
  have := List.all_eq_true.mp h2 k (List.mem_range.mpr h4)
  exact eq_of_beq this
theorem pNo {nm own : String} : ∀ cj, (none : Option Nat) = some cj → nm = "<init>" ∧ ∀ (rc' : vw_C) (k : Nat), vwCl[cj]? = some rc' → k < rc'.2.2 → (rc'.2.1 k).1 = own := fun _ h => by cases h
