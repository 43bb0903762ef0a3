def lK_x0 : List rb_K := []
theorem lH_x0 (l : Launch) (D : va_G) (cT : Nat → ClassId) (sa : Nat → Nat) : ∀ k ∈ lK_x0, rb_Hk l "BathWater$Scene" pNW (pSX, sa) pT pMT D vwCl cT k := (fun _ h => absurd h List.not_mem_nil)
def lP_x0 : List Nat := [27]
theorem lC_x0 : rb_pcs 6 4 vwCl tyv none 6 true 0 pMT lK_x0 600000 7302250 2048 84000 I_law pSX ([], [], [], [], []) [] [24, 1635] (some .boolean) 2 [] 600000 7302250 [] [18] lP_x0 ra_big [(true, (18, (lawE0, lawT0), lawF0 ++ [([(2, 1), (1, (-1))], 5)]))] := Or.inl ⟨19, [ch_7300], by decide +kernel⟩
