def lK_e : List rb_K := [k_14, k_19]
theorem lH_e (l : Launch) (D : va_G) (cT : Nat → ClassId) (sa : Nat → Nat) : ∀ k ∈ lK_e, rb_Hk l "BathWater$Scene" pNW (pSX, sa) pT pMT D vwCl cT k := List.forall_mem_cons.mpr ⟨h_14 l D cT sa, List.forall_mem_cons.mpr ⟨h_19 l D cT sa, (fun _ h => absurd h List.not_mem_nil)⟩⟩
def lP_e : List Nat := []
theorem lC_e : rb_pcs 6 4 vwCl tyv none 6 true 0 pMT lK_e 600000 7302250 2048 84000 I_law pSX ([], [], [], [], []) [] [24, 1635] (some .boolean) 2 [] 600000 7302250 lawU [18] lP_e ra_big [(false, (0, ([(0, 0), (0, 3072), (0, 3072)], [(0, cO 2)], [], [], 0, 0), []))] := Or.inl ⟨21, [ch_7297, ch_7298, ch_7299], by decide +kernel⟩
