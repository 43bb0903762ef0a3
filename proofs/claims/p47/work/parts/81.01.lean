def lK_x0 : List rb_K := []
theorem lH_x0 (l : Launch) (D : va_G) (cT : Nat → ClassId) (sa : Nat → Nat) : ∀ k ∈ lK_x0, rb_Hk l "BathWater$Scene" pNW (pSX, sa) pT pMT D vwCl cT k := (fun _ h => absurd h List.not_mem_nil)
def lP_x0 : List Nat := [27]
theorem lC_x0 : ∃ (f : Nat) (tp : List rb_Ht), rb_chk 6 4 vwCl tyv none 6 true 0 pMT lK_x0 600000 7302250 2048 84000 I_law pSX ([], [], [], [], []) [] [24, 1635] (some .boolean) 2 [] 600000 7302250 [] [18] lP_x0 ra_big f [(true, (18, (lawE0, lawT0), lawF0 ++ [([cp_34, cp_1], cz_20)]))] tp = true := ⟨19, [ch_7300], by decide +kernel⟩
