def lK_e : List rb_K := []
theorem lH_e (l : Launch) (D : va_G) (cT : Nat → ClassId) (sa : Nat → Nat) : ∀ k ∈ lK_e, rb_Hk l "BathWater$Scene" pNW (pSX, sa) pT pMT D vwCl cT k := fun _ h => absurd h List.not_mem_nil
def lP_e : List Nat := []
theorem lC_e : ∃ (f : Nat) (tp : List rb_Ht), rb_chk 6 4 vwCl tyv none 6 true 0 pMT lK_e 600000 7302250 2048 84000 I_law pSX ([], [], [], [], []) [] [24, 1635] (some .boolean) 2 [] 600000 7302250 lawU [18] lP_e ra_big f [(false, (0, ([(0, 0), (0, 3072), (0, 3072)], [(0, cO 2)], [], [], 0, 0), []))] tp = true := sorry
def lK_x0 : List rb_K := []
theorem lH_x0 (l : Launch) (D : va_G) (cT : Nat → ClassId) (sa : Nat → Nat) : ∀ k ∈ lK_x0, rb_Hk l "BathWater$Scene" pNW (pSX, sa) pT pMT D vwCl cT k := fun _ h => absurd h List.not_mem_nil
def lP_x0 : List Nat := [27]
theorem lC_x0 : ∃ (f : Nat) (tp : List rb_Ht), rb_chk 6 4 vwCl tyv none 6 true 0 pMT lK_x0 600000 7302250 2048 84000 I_law pSX ([], [], [], [], []) [] [24, 1635] (some .boolean) 2 [] 600000 7302250 [] [18] lP_x0 ra_big f [(true, (18, (lawE0, lawT0), lawF0 ++ [([(2, 1), (1, (-1))], 5)]))] tp = true := sorry
def lK_r0 : List rb_K := []
theorem lH_r0 (l : Launch) (D : va_G) (cT : Nat → ClassId) (sa : Nat → Nat) : ∀ k ∈ lK_r0, rb_Hk l "BathWater$Scene" pNW (pSX, sa) pT pMT D vwCl cT k := fun _ h => absurd h List.not_mem_nil
def lP_r0 : List Nat := [1617, 1635, 1638, 1808]
theorem lC_r0 : ∃ (f : Nat) (tp : List rb_Ht), rb_chk 6 4 vwCl tyv none 6 true 475 pMT lK_r0 600000 7302250 2048 84000 I_law pSX ([], [], [], [], []) [] [24, 1635] (some .boolean) 2 [] 600000 7302250 lawU [18] lP_r0 ra_big f [(true, (18, (lawE0 ++ List.replicate 6 iI, lawT0), lawF0))] tp = true := sorry
def lK_x1 : List rb_K := []
theorem lH_x1 (l : Launch) (D : va_G) (cT : Nat → ClassId) (sa : Nat → Nat) : ∀ k ∈ lK_x1, rb_Hk l "BathWater$Scene" pNW (pSX, sa) pT pMT D vwCl cT k := fun _ h => absurd h List.not_mem_nil
def lP_x1 : List Nat := [27]
theorem lC_x1 : ∃ (f : Nat) (tp : List rb_Ht), rb_chk 6 4 vwCl tyv none 6 true 0 pMT lK_x1 600000 7302250 2048 84000 I_law pSX ([], [], [], [], []) [] [24, 1635] (some .boolean) 2 [] 600000 7302250 [] [18] lP_x1 ra_big f [(true, (18, (lawE1, lawT1), lawF1 ++ [([(2, 1), (1, (-1))], 5)]))] tp = true := sorry
def lK_r1 : List rb_K := []
theorem lH_r1 (l : Launch) (D : va_G) (cT : Nat → ClassId) (sa : Nat → Nat) : ∀ k ∈ lK_r1, rb_Hk l "BathWater$Scene" pNW (pSX, sa) pT pMT D vwCl cT k := fun _ h => absurd h List.not_mem_nil
def lP_r1 : List Nat := [1617, 1635, 1638, 1808]
theorem lC_r1 : ∃ (f : Nat) (tp : List rb_Ht), rb_chk 6 4 vwCl tyv none 6 true 475 pMT lK_r1 600000 7302250 2048 84000 I_law pSX ([], [], [], [], []) [] [24, 1635] (some .boolean) 2 [] 600000 7302250 lawU [18] lP_r1 ra_big f [(true, (18, (lawE1 ++ List.replicate 6 iI, lawT1), lawF1))] tp = true := sorry
