def iI : Int × Int := (-2147483648, 2147483647)
def cZ (k : Int) : ra_V := .inl (0, k)
def cY (s : Nat) (k : Int) : ra_V := .inl (s, k)
def cR (i : Nat) : ra_V := .inr (.inl i)
def cO (k : Nat) : ra_V := .inr (.inr (.inl k))
def cL (s : Nat) : ra_V := .inr (.inr (.inr s))
def eZ (k : Int) : ra_E := .inl (.inl (0, k))
def eY (s : Nat) (k : Int) : ra_E := .inl (.inl (s, k))
def eR (i : Nat) : ra_E := .inl (.inr (.inl i))
def eO (k : Nat) : ra_E := .inl (.inr (.inr (.inl k)))
def eB (lo hi : Int) : ra_E := .inr (lo, hi)
theorem pSci : vwCl[6]? = some (RX6, TX6, 6) := rfl
theorem pLt0 {own : String} : rb_okL pT own [] := fun _ h => absurd h List.not_mem_nil
theorem pIni {ci : Nat} {rc : vw_C} {own nm : String} (h : vwCl[ci]? = some rc) (hn : nm = "<init>") (h2 : (List.range rc.2.2).all (fun k => (rc.2.1 k).1 == own) = true) : ∀ cj, (some ci : Option Nat) = some cj → nm = "<init>" ∧ ∀ (rc' : vw_C) (k : Nat), vwCl[cj]? = some rc' → k < rc'.2.2 → (rc'.2.1 k).1 = own := by
  intro cj hc
  cases hc
  refine ⟨hn, fun rc' k h3 h4 => ?_⟩
  have e : rc' = rc := Option.some.inj (h3.symm.trans h)
  subst e
  have := List.all_eq_true.mp h2 k (List.mem_range.mpr h4)
  exact eq_of_beq this
theorem pNo {nm own : String} : ∀ cj, (none : Option Nat) = some cj → nm = "<init>" ∧ ∀ (rc' : vw_C) (k : Nat), vwCl[cj]? = some rc' → k < rc'.2.2 → (rc'.2.1 k).1 = own := fun _ h => by cases h
theorem pm {l : Launch} {D : va_G} {cT : Nat → ClassId} {sa : Nat → Nat} {spl : Nat} {ini : Option Nat} {K : List rb_K} {I : ra_I} {tb : ra_Tb} {lt : List (Nat × Int)} {rps : List Nat} {k : rb_K} {mm : ra_M} {cuts : List rb_U} {cps lps : List Nat} (hmm : pMT[k.1]? = some mm) (hpl : plainName mm.1.cls = true) (hI : ra_okI pT mm.1.cls "BathWater$Scene" vwCl pNW pMT mm.2.1 I) (hTb : rs_okT pT mm.1.cls pSX pMT tb) (hLt : rb_okL pT mm.1.cls lt) (hIn : ∀ ci, ini = some ci → mm.1.name = "<init>" ∧ ∀ (rc : vw_C) (k : Nat), vwCl[ci]? = some rc → k < rc.2.2 → (rc.2.1 k).1 = mm.1.cls) (hK : ∀ k' ∈ K, rb_Hk l "BathWater$Scene" pNW (pSX, sa) pT pMT D vwCl cT k')
    (hcuts : ∀ u ∈ cuts, ∃ (f : Nat) (tp : List rb_Ht), rb_seg spl mm.2.2.1 vwCl tyv ini 6 false 0 pMT K k.2.2.2.2.2.2.1 k.2.2.2.2.2.2.2.1 k.2.2.2.2.2.2.2.2.1 k.2.2.2.2.2.2.2.2.2 I pSX tb lt rps mm.2.2.2.1 k.2.1.length k.2.2.2.2.2.1 k.2.2.2.2.2.2.1 k.2.2.2.2.2.2.2.1 cuts cps lps f u tp = true)
    (hdb : rb_db k.2.1.length k.2.2.2.2.1 = true)
    (hent : ∃ (f : Nat) (tp : List rb_Ht), rb_chk spl mm.2.2.1 vwCl tyv ini 6 false 0 pMT K k.2.2.2.2.2.2.1 k.2.2.2.2.2.2.2.1 k.2.2.2.2.2.2.2.2.1 k.2.2.2.2.2.2.2.2.2 I pSX tb lt rps mm.2.2.2.1 k.2.1.length k.2.2.2.2.2.1 k.2.2.2.2.2.2.1 k.2.2.2.2.2.2.2.1 cuts cps lps ra_big f [(false, (0, (k.2.1, ra_la 0 k.2.2.1, [], k.2.2.2.1, 0, 0), k.2.2.2.2.1))] tp = true)
    (hroom : Nat.ble (ra_cats k.2.2.1) mm.2.2.1 = true) : rb_Hk l "BathWater$Scene" pNW (pSX, sa) pT pMT D vwCl cT k := rb_meth (SS := (pSX, sa)) hmm hpl pT_good hI hTb hLt pOkC hIn pSci rfl pOkA hK hcuts hdb (Or.inl hent) hroom
theorem pmC {l : Launch} {D : va_G} {cT : Nat → ClassId} {sa : Nat → Nat} {spl : Nat} {ini : Option Nat} {K : List rb_K} {I : ra_I} {tb : ra_Tb} {lt : List (Nat × Int)} {rps : List Nat} {k : rb_K} {mm : ra_M} {cuts : List rb_U} {cps lps : List Nat} (hmm : pMT[k.1]? = some mm) (hpl : plainName mm.1.cls = true) (hI : ra_okI pT mm.1.cls "BathWater$Scene" vwCl pNW pMT mm.2.1 I) (hTb : rs_okT pT mm.1.cls pSX pMT tb) (hLt : rb_okL pT mm.1.cls lt) (hIn : ∀ ci, ini = some ci → mm.1.name = "<init>" ∧ ∀ (rc : vw_C) (k : Nat), vwCl[ci]? = some rc → k < rc.2.2 → (rc.2.1 k).1 = mm.1.cls) (hK : ∀ k' ∈ K, rb_Hk l "BathWater$Scene" pNW (pSX, sa) pT pMT D vwCl cT k')
    (hcuts : ∀ u ∈ cuts, ∃ (f : Nat) (tp : List rb_Ht), rb_seg spl mm.2.2.1 vwCl tyv ini 6 false 0 pMT K k.2.2.2.2.2.2.1 k.2.2.2.2.2.2.2.1 k.2.2.2.2.2.2.2.2.1 k.2.2.2.2.2.2.2.2.2 I pSX tb lt rps mm.2.2.2.1 k.2.1.length k.2.2.2.2.2.1 k.2.2.2.2.2.2.1 k.2.2.2.2.2.2.2.1 cuts cps lps f u tp = true)
    (hdb : rb_db k.2.1.length k.2.2.2.2.1 = true)
    (hent : rb_pcs spl mm.2.2.1 vwCl tyv ini 6 false 0 pMT K k.2.2.2.2.2.2.1 k.2.2.2.2.2.2.2.1 k.2.2.2.2.2.2.2.2.1 k.2.2.2.2.2.2.2.2.2 I pSX tb lt rps mm.2.2.2.1 k.2.1.length k.2.2.2.2.2.1 k.2.2.2.2.2.2.1 k.2.2.2.2.2.2.2.1 cuts cps lps ra_big [(false, (0, (k.2.1, ra_la 0 k.2.2.1, [], k.2.2.2.1, 0, 0), k.2.2.2.2.1))])
    (hroom : Nat.ble (ra_cats k.2.2.1) mm.2.2.1 = true) : rb_Hk l "BathWater$Scene" pNW (pSX, sa) pT pMT D vwCl cT k := rb_meth (SS := (pSX, sa)) hmm hpl pT_good hI hTb hLt pOkC hIn pSci rfl pOkA hK hcuts hdb hent hroom
