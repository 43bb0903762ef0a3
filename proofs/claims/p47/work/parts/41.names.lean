def RX0 : String := "BathWater$Acts"
def TX0 : u_T := fun k => match k with
  | 0 => ("BathWater$Acts", "scenes", "[LBathWater$Scene;", true)
  | 1 => ("BathWater$Acts", "start", "I", false)
  | 2 => ("BathWater$Acts", "current", "I", false)
  | _ => ("BathWater$Acts", "latest", "I", false)
def tyX0 : Nat → FieldType := fun k => match k with
  | 0 => .array (.object "BathWater$Scene")
  | 1 => .int
  | 2 => .int
  | _ => .int
def RX1 : String := "BathWater$Course"
def TX1 : u_T := fun k => match k with
  | 0 => ("BathWater$Course", "plan", "LBathWater$Plan;", false)
  | 1 => ("BathWater$Course", "scene", "LBathWater$Scene;", true)
  | 2 => ("BathWater$Course", "swims", "[I", true)
  | 3 => ("BathWater$Course", "chosen", "[I", true)
  | 4 => ("BathWater$Course", "most", "[I", true)
  | 5 => ("BathWater$Course", "coming", "[I", true)
  | 6 => ("BathWater$Course", "facts", "[I", true)
  | 7 => ("BathWater$Course", "swimming", "I", false)
  | _ => ("BathWater$Course", "moving", "Z", false)
def tyX1 : Nat → FieldType := fun k => match k with
  | 0 => .object "BathWater$Plan"
  | 1 => .object "BathWater$Scene"
  | 2 => .array .int
  | 3 => .array .int
  | 4 => .array .int
  | 5 => .array .int
  | 6 => .array .int
  | 7 => .int
  | _ => .boolean
def RX2 : String := "BathWater$Damps"
def TX2 : u_T := fun k => match k with
  | 0 => ("BathWater$Damps", "steps", "[I", true)
  | 1 => ("BathWater$Damps", "spots", "[I", true)
  | 2 => ("BathWater$Damps", "waters", "[I", true)
  | 3 => ("BathWater$Damps", "so", "[Z", true)
  | 4 => ("BathWater$Damps", "toldAt", "[I", true)
  | 5 => ("BathWater$Damps", "untoldAt", "[I", true)
  | 6 => ("BathWater$Damps", "count", "I", false)
  | 7 => ("BathWater$Damps", "fittingWater", "[I", true)
  | 8 => ("BathWater$Damps", "fitting", "I", false)
  | _ => ("BathWater$Damps", "tally", "[I", true)
def tyX2 : Nat → FieldType := fun k => match k with
  | 0 => .array .int
  | 1 => .array .int
  | 2 => .array .int
  | 3 => .array .boolean
  | 4 => .array .int
  | 5 => .array .int
  | 6 => .int
  | 7 => .array .int
  | 8 => .int
  | _ => .array .int
def RX3 : String := "BathWater$Formula"
def TX3 : u_T := fun k => match k with
  | 0 => ("BathWater$Formula", "code", "[I", true)
  | 1 => ("BathWater$Formula", "numbers", "[I", true)
  | 2 => ("BathWater$Formula", "stack", "[I", true)
  | 3 => ("BathWater$Formula", "length", "I", false)
  | 4 => ("BathWater$Formula", "units", "I", false)
  | _ => ("BathWater$Formula", "restless", "Z", false)
def tyX3 : Nat → FieldType := fun k => match k with
  | 0 => .array .int
  | 1 => .array .int
  | 2 => .array .int
  | 3 => .int
  | 4 => .int
  | _ => .boolean
def RX4 : String := "BathWater$Plan"
def TX4 : u_T := fun k => match k with
  | 0 => ("BathWater$Plan", "first", "LBathWater$Scene;", true)
  | 1 => ("BathWater$Plan", "wants", "[I", true)
  | 2 => ("BathWater$Plan", "likes", "LBathWater$Formula;", true)
  | 3 => ("BathWater$Plan", "spots", "I", false)
  | 4 => ("BathWater$Plan", "flow", "I", false)
  | 5 => ("BathWater$Plan", "swimmers", "I", false)
  | 6 => ("BathWater$Plan", "gala", "I", false)
  | _ => ("BathWater$Plan", "toldSpots", "I", false)
def tyX4 : Nat → FieldType := fun k => match k with
  | 0 => .object "BathWater$Scene"
  | 1 => .array .int
  | 2 => .object "BathWater$Formula"
  | 3 => .int
  | 4 => .int
  | 5 => .int
  | 6 => .int
  | _ => .int
def RX5 : String := "BathWater$Reader"
def TX5 : u_T := fun k => match k with
  | 0 => ("BathWater$Reader", "tokens", "LBathWater$Tokens;", true)
  | 1 => ("BathWater$Reader", "index", "I", false)
  | 2 => ("BathWater$Reader", "token", "I", false)
  | 3 => ("BathWater$Reader", "number", "I", false)
  | 4 => ("BathWater$Reader", "names", "[J", true)
  | 5 => ("BathWater$Reader", "sorts", "I", false)
  | 6 => ("BathWater$Reader", "waters", "I", false)
  | 7 => ("BathWater$Reader", "plan", "LBathWater$Plan;", false)
  | 8 => ("BathWater$Reader", "fault", "I", false)
  | _ => ("BathWater$Reader", "place", "I", false)
def tyX5 : Nat → FieldType := fun k => match k with
  | 0 => .object "BathWater$Tokens"
  | 1 => .int
  | 2 => .int
  | 3 => .int
  | 4 => .array .long
  | 5 => .int
  | 6 => .int
  | 7 => .object "BathWater$Plan"
  | 8 => .int
  | _ => .int
def RX6 : String := "BathWater$Scene"
def TX6 : u_T := fun k => match k with
  | 0 => ("BathWater$Scene", "water", "[I", true)
  | 1 => ("BathWater$Scene", "place", "[I", true)
  | 2 => ("BathWater$Scene", "manners", "[I", true)
  | 3 => ("BathWater$Scene", "swam", "[I", true)
  | 4 => ("BathWater$Scene", "steps", "I", false)
  | _ => ("BathWater$Scene", "seed", "I", false)
def tyX6 : Nat → FieldType := fun k => match k with
  | 0 => .array .int
  | 1 => .array .int
  | 2 => .array .int
  | 3 => .array .int
  | 4 => .int
  | _ => .int
def RX7 : String := "BathWater$Tokens"
def TX7 : u_T := fun k => match k with
  | 0 => ("BathWater$Tokens", "kinds", "[I", true)
  | 1 => ("BathWater$Tokens", "starts", "[I", true)
  | 2 => ("BathWater$Tokens", "values", "[J", true)
  | _ => ("BathWater$Tokens", "count", "I", false)
def tyX7 : Nat → FieldType := fun k => match k with
  | 0 => .array .int
  | 1 => .array .int
  | 2 => .array .long
  | _ => .int
def RX8 : String := "BathWater"
def TX8 : u_T := fun k => match k with
  | 0 => ("BathWater", "tape", "[I", true)
  | 1 => ("BathWater", "tapeLength", "I", false)
  | 2 => ("BathWater", "reader", "LBathWater$Reader;", true)
  | 3 => ("BathWater", "plan", "LBathWater$Plan;", false)
  | 4 => ("BathWater", "draft", "LBathWater$Plan;", false)
  | 5 => ("BathWater", "now", "LBathWater$Scene;", true)
  | 6 => ("BathWater", "acts", "LBathWater$Acts;", true)
  | 7 => ("BathWater", "course", "LBathWater$Course;", true)
  | 8 => ("BathWater", "boxes", "[LBathWater$Scene;", true)
  | 9 => ("BathWater", "fullBoxes", "I", false)
  | 10 => ("BathWater", "lying", "[I", true)
  | 11 => ("BathWater", "lyingCount", "I", false)
  | 12 => ("BathWater", "order", "[I", true)
  | 13 => ("BathWater", "firstGains", "[I", true)
  | 14 => ("BathWater", "otherGains", "[I", true)
  | 15 => ("BathWater", "damps", "LBathWater$Damps;", true)
  | _ => ("BathWater", "time", "I", false)
def tyX8 : Nat → FieldType := fun k => match k with
  | 0 => .array .int
  | 1 => .int
  | 2 => .object "BathWater$Reader"
  | 3 => .object "BathWater$Plan"
  | 4 => .object "BathWater$Plan"
  | 5 => .object "BathWater$Scene"
  | 6 => .object "BathWater$Acts"
  | 7 => .object "BathWater$Course"
  | 8 => .array (.object "BathWater$Scene")
  | 9 => .int
  | 10 => .array .int
  | 11 => .int
  | 12 => .array .int
  | 13 => .array .int
  | 14 => .array .int
  | 15 => .object "BathWater$Damps"
  | _ => .int
def RX9 : String := "BathWaterModel"
def TX9 : u_T := fun k => match k with
  | 0 => ("BathWaterModel", "tape", "[B", true)
  | 1 => ("BathWaterModel", "text", "[B", true)
  | 2 => ("BathWaterModel", "taped", "I", false)
  | 3 => ("BathWaterModel", "size", "I", false)
  | 4 => ("BathWaterModel", "faultKind", "I", false)
  | 5 => ("BathWaterModel", "faultPlace", "I", false)
  | 6 => ("BathWaterModel", "at", "I", false)
  | 7 => ("BathWaterModel", "end", "I", false)
  | 8 => ("BathWaterModel", "token", "I", false)
  | 9 => ("BathWaterModel", "number", "I", false)
  | 10 => ("BathWaterModel", "name", "J", false)
  | 11 => ("BathWaterModel", "pool", "[I", true)
  | 12 => ("BathWaterModel", "flow", "[I", true)
  | 13 => ("BathWaterModel", "lines", "[I", true)
  | 14 => ("BathWaterModel", "waters", "[I", true)
  | 15 => ("BathWaterModel", "swimmers", "[I", true)
  | 16 => ("BathWaterModel", "units", "[I", true)
  | 17 => ("BathWaterModel", "gala", "[I", true)
  | 18 => ("BathWaterModel", "draw", "[I", true)
  | 19 => ("BathWaterModel", "told", "[I", true)
  | 20 => ("BathWaterModel", "waterTold", "[I", true)
  | 21 => ("BathWaterModel", "mannersTold", "[I", true)
  | 22 => ("BathWaterModel", "wants", "[I", true)
  | 23 => ("BathWaterModel", "standsTold", "[I", true)
  | 24 => ("BathWaterModel", "ruleFrom", "[I", true)
  | 25 => ("BathWaterModel", "ruleTo", "[I", true)
  | 26 => ("BathWaterModel", "sName", "[J", true)
  | 27 => ("BathWaterModel", "code", "[I", true)
  | 28 => ("BathWaterModel", "codeNumber", "[I", true)
  | 29 => ("BathWaterModel", "eWhat", "[I", true)
  | 30 => ("BathWaterModel", "eSign", "[I", true)
  | 31 => ("BathWaterModel", "pile", "[I", true)
  | 32 => ("BathWaterModel", "bank", "I", false)
  | 33 => ("BathWaterModel", "rb", "I", false)
  | 34 => ("BathWaterModel", "codes", "I", false)
  | 35 => ("BathWaterModel", "within", "I", false)
  | 36 => ("BathWaterModel", "piled", "I", false)
  | 37 => ("BathWaterModel", "unitsInRule", "I", false)
  | 38 => ("BathWaterModel", "askSwimmer", "I", false)
  | 39 => ("BathWaterModel", "askFar", "I", false)
  | 40 => ("BathWaterModel", "all", "[I", true)
  | 41 => ("BathWaterModel", "waterThen", "[I", true)
  | 42 => ("BathWaterModel", "hasGone", "Z", false)
  | 43 => ("BathWaterModel", "was", "[I", true)
  | 44 => ("BathWaterModel", "acts", "I", false)
  | 45 => ("BathWaterModel", "undone", "I", false)
  | 46 => ("BathWaterModel", "kept", "[I", true)
  | 47 => ("BathWaterModel", "often", "[I", true)
  | 48 => ("BathWaterModel", "laidRow", "[I", true)
  | 49 => ("BathWaterModel", "laid", "I", false)
  | 50 => ("BathWaterModel", "wet", "[I", true)
  | 51 => ("BathWaterModel", "waterBy", "[I", true)
  | 52 => ("BathWaterModel", "sSteps", "[I", true)
  | 53 => ("BathWaterModel", "sSpot", "[I", true)
  | 54 => ("BathWaterModel", "sMuch", "[I", true)
  | 55 => ("BathWaterModel", "sIs", "[I", true)
  | 56 => ("BathWaterModel", "sTold", "[I", true)
  | 57 => ("BathWaterModel", "sUntold", "[I", true)
  | 58 => ("BathWaterModel", "parts", "[I", true)
  | 59 => ("BathWaterModel", "damps", "I", false)
  | 60 => ("BathWaterModel", "time", "I", false)
  | 61 => ("BathWaterModel", "boxAll", "[I", true)
  | _ => ("BathWaterModel", "isBoxed", "[Z", true)
def tyX9 : Nat → FieldType := fun k => match k with
  | 0 => .array .byte
  | 1 => .array .byte
  | 2 => .int
  | 3 => .int
  | 4 => .int
  | 5 => .int
  | 6 => .int
  | 7 => .int
  | 8 => .int
  | 9 => .int
  | 10 => .long
  | 11 => .array .int
  | 12 => .array .int
  | 13 => .array .int
  | 14 => .array .int
  | 15 => .array .int
  | 16 => .array .int
  | 17 => .array .int
  | 18 => .array .int
  | 19 => .array .int
  | 20 => .array .int
  | 21 => .array .int
  | 22 => .array .int
  | 23 => .array .int
  | 24 => .array .int
  | 25 => .array .int
  | 26 => .array .long
  | 27 => .array .int
  | 28 => .array .int
  | 29 => .array .int
  | 30 => .array .int
  | 31 => .array .int
  | 32 => .int
  | 33 => .int
  | 34 => .int
  | 35 => .int
  | 36 => .int
  | 37 => .int
  | 38 => .int
  | 39 => .int
  | 40 => .array .int
  | 41 => .array .int
  | 42 => .boolean
  | 43 => .array .int
  | 44 => .int
  | 45 => .int
  | 46 => .array .int
  | 47 => .array .int
  | 48 => .array .int
  | 49 => .int
  | 50 => .array .int
  | 51 => .array .int
  | 52 => .array .int
  | 53 => .array .int
  | 54 => .array .int
  | 55 => .array .int
  | 56 => .array .int
  | 57 => .array .int
  | 58 => .array .int
  | 59 => .int
  | 60 => .int
  | 61 => .array .int
  | _ => .array .boolean
def vwCl : List vw_C := [(RX0, TX0, 4), (RX1, TX1, 9), (RX2, TX2, 10), (RX3, TX3, 6), (RX4, TX4, 8), (RX5, TX5, 10), (RX6, TX6, 6), (RX7, TX7, 4), (RX8, TX8, 17), (RX9, TX9, 63)]
def tyv (ci : Nat) : Nat → FieldType := match ci with
  | 0 => tyX0
  | 1 => tyX1
  | 2 => tyX2
  | 3 => tyX3
  | 4 => tyX4
  | 5 => tyX5
  | 6 => tyX6
  | 7 => tyX7
  | 8 => tyX8
  | _ => tyX9
def pT : List Cond := lw_tbl.filter goodWord
def tb_at (i : Nat) (w : Cond) : Bool := match lw_tbl[i]? with
  | some x => decide (x = w) && goodWord w
  | none => false
theorem tb_in {i : Nat} {w : Cond} (h : tb_at i w = true) : w ∈ pT := by
  unfold tb_at at h
  split at h
  · rename_i x hx
    rw [Bool.and_eq_true, decide_eq_true_eq] at h
    rw [← h.1]
    exact List.mem_filter.mpr ⟨List.mem_of_getElem? hx, by rw [h.1]; exact h.2⟩
  · cases h
theorem pT_good : ∀ w ∈ pT, goodWord w = true := fun w hw => (List.mem_filter.mp hw).2
theorem pT_sub : ∀ w ∈ pT, w ∈ lw_tbl := fun w hw => (List.mem_filter.mp hw).1
theorem tb_all {ws : List Cond} {ps : List Nat} (h : ra_b2 (fun (p : Nat) (w : Cond) => tb_at p w) ps ws = true) : ∀ w ∈ ws, w ∈ pT := by
  intro w hw
  obtain ⟨i, hi⟩ := List.getElem?_of_mem hw
  obtain ⟨p, -, h2⟩ := ra_b2_get h hi
  exact tb_in h2
def fOk (own : String) (p : Nat) (e : Nat × Nat × Nat) : Bool := match vwCl[e.2.1]? with
  | some r => Nat.blt e.2.2 r.2.2 && tb_at p (Cond.fieldLink own e.1 (r.2.1 e.2.2).1 (r.2.1 e.2.2).2.1 (r.2.1 e.2.2).2.2.1)
  | none => false
theorem mk_F {own : String} {ps : List Nat} {fl : List (Nat × Nat × Nat)} (h : ra_b2 (fOk own) ps fl = true) : ra_okF pT own vwCl fl := by
  intro e he
  obtain ⟨i, hi⟩ := List.getElem?_of_mem he
  obtain ⟨p, -, h2⟩ := ra_b2_get h hi
  unfold fOk at h2
  split at h2
  · rename_i r hr
    rw [Bool.and_eq_true] at h2
    exact ⟨r, hr, Nat.le_of_ble_eq_true h2.1, tb_in h2.2⟩
  · cases h2
theorem mk_K {own : String} {ps : List Nat} {kt : List (Nat × Int)} (h : ra_b2 (fun (p : Nat) (e : Nat × Int) => ra_eqb (Int32.ofInt e.2).toInt e.2 && tb_at p (Cond.constant own e.1 (Int32.ofInt e.2))) ps kt = true) : ra_okK pT own kt := by
  intro e he
  obtain ⟨i, hi⟩ := List.getElem?_of_mem he
  obtain ⟨p, -, h2⟩ := ra_b2_get h hi
  rw [Bool.and_eq_true] at h2
  exact ⟨_, ra_eqb_eq h2.1, tb_in h2.2⟩
def lOk (own : String) (p : Nat) (e : Nat) : Bool := match lw_tbl[p]? with
  | some (.constantLong o i v) => o == own && (i == e && goodWord (.constantLong o i v))
  | _ => false
theorem mk_L {own : String} {ps : List Nat} {kl : List Nat} (h : ra_b2 (lOk own) ps kl = true) : ra_okL pT own kl := by
  intro e he
  obtain ⟨i, hi⟩ := List.getElem?_of_mem he
  obtain ⟨p, -, h2⟩ := ra_b2_get h hi
  unfold lOk at h2
  split at h2
  · rename_i o i v hx
    rw [Bool.and_eq_true, Bool.and_eq_true, beq_iff_eq, beq_iff_eq] at h2
    obtain ⟨h3, h4, h5⟩ := h2
    subst h3
    subst h4
    exact ⟨v, List.mem_filter.mpr ⟨List.mem_of_getElem? hx, h5⟩⟩
  · cases h2
def nOk (own : String) (p : Nat × Nat × Nat) (e : Nat × Nat) : Bool := match vwCl[e.2]? with
  | some r => tb_at p.1 (Cond.classLink own e.1 r.1) && (tb_at p.2.1 (Cond.instantiable r.1 r.2.2) && tb_at p.2.2 (Cond.initialized r.1))
  | none => false
theorem mk_N {own : String} {ps : List (Nat × Nat × Nat)} {nl : List (Nat × Nat)} (h : ra_b2 (nOk own) ps nl = true) : ra_okN pT own vwCl nl := by
  intro e he
  obtain ⟨i, hi⟩ := List.getElem?_of_mem he
  obtain ⟨p, -, h2⟩ := ra_b2_get h hi
  unfold nOk at h2
  split at h2
  · rename_i r hr
    rw [Bool.and_eq_true, Bool.and_eq_true] at h2
    exact ⟨r, hr, tb_in h2.1, tb_in h2.2.1, tb_in h2.2.2⟩
  · cases h2
theorem mk_Q {own sc : String} {ps ql : List Nat} (h : ra_b2 (fun (p e : Nat) => tb_at p (Cond.classLink own e sc)) ps ql = true) : ∀ j ∈ ql, Cond.classLink own j sc ∈ pT := by
  intro e he
  obtain ⟨i, hi⟩ := List.getElem?_of_mem he
  obtain ⟨p, -, h2⟩ := ra_b2_get h hi
  exact tb_in h2
theorem mk_O {own : String} {ps : List (Nat × Nat × Nat)} {ol : List Nat} (h : ra_b2 (fun (p : Nat × Nat × Nat) (e : Nat) => tb_at p.1 (Cond.methodLink own e Lib.objectInit) && (tb_at p.2.1 (Cond.instanceMethod Lib.objectInit) && tb_at p.2.2 (Cond.code Lib.objectInit ⟨#[0xb1]⟩ 1 none))) ps ol = true) : ra_okO pT own ol := by
  intro e he
  obtain ⟨i, hi⟩ := List.getElem?_of_mem he
  obtain ⟨p, -, h2⟩ := ra_b2_get h hi
  rw [Bool.and_eq_true, Bool.and_eq_true] at h2
  exact ⟨tb_in h2.1, tb_in h2.2.1, tb_in h2.2.2⟩
theorem mk_Y {own : String} {ps : List (Nat × Nat × Nat × Nat)} {al : List Nat} (h : ra_b2 (fun (p : Nat × Nat × Nat × Nat) (e : Nat) => tb_at p.1 (Cond.methodLink own e arraycopyName) && (tb_at p.2.1 (Cond.native arraycopyName) && (tb_at p.2.2.1 (Cond.static arraycopyName) && tb_at p.2.2.2 (Cond.initialized "java/lang/System")))) ps al = true) : ra_okY pT own al := by
  intro e he
  obtain ⟨i, hi⟩ := List.getElem?_of_mem he
  obtain ⟨p, -, h2⟩ := ra_b2_get h hi
  rw [Bool.and_eq_true, Bool.and_eq_true, Bool.and_eq_true] at h2
  exact ⟨tb_in h2.1, tb_in h2.2.1, tb_in h2.2.2.1, tb_in h2.2.2.2⟩
theorem mk_Mm {own : String} {ps : List (Nat × Nat × Nat × Nat)} {mml : List (Nat × Nat)} (h : ra_b2 (fun (p : Nat × Nat × Nat × Nat) (e : Nat × Nat) => tb_at p.1 (Cond.initialized "java/lang/Math") && (match e.2 with
    | 0 => tb_at p.2.1 (Cond.methodLink own e.1 Lib.Math.max.name) && (tb_at p.2.2.1 (Cond.static Lib.Math.max.name) && tb_at p.2.2.2 (Cond.code Lib.Math.max.name Lib.Math.max.code 2 (some .int)))
    | 1 => tb_at p.2.1 (Cond.methodLink own e.1 Lib.Math.min.name) && (tb_at p.2.2.1 (Cond.static Lib.Math.min.name) && tb_at p.2.2.2 (Cond.code Lib.Math.min.name Lib.Math.min.code 2 (some .int)))
    | 2 => tb_at p.2.1 (Cond.methodLink own e.1 Lib.Math.abs.name) && (tb_at p.2.2.1 (Cond.static Lib.Math.abs.name) && tb_at p.2.2.2 (Cond.code Lib.Math.abs.name Lib.Math.abs.code 1 (some .int)))
    | _ => false)) ps mml = true) : ra_okMm pT own mml := by
  intro e he
  obtain ⟨i, hi⟩ := List.getElem?_of_mem he
  obtain ⟨p, -, h2⟩ := ra_b2_get h hi
  rw [Bool.and_eq_true] at h2
  refine ⟨tb_in h2.1, ?_⟩
  have h3 := h2.2
  split at h3
  · rename_i hk
    rw [Bool.and_eq_true, Bool.and_eq_true] at h3
    exact Or.inl ⟨hk, tb_in h3.1, tb_in h3.2.1, tb_in h3.2.2⟩
  · rename_i hk
    rw [Bool.and_eq_true, Bool.and_eq_true] at h3
    exact Or.inr (Or.inl ⟨hk, tb_in h3.1, tb_in h3.2.1, tb_in h3.2.2⟩)
  · rename_i hk
    rw [Bool.and_eq_true, Bool.and_eq_true] at h3
    exact Or.inr (Or.inr ⟨hk, tb_in h3.1, tb_in h3.2.1, tb_in h3.2.2⟩)
  · cases h3
def mOk (own : String) (nw : List (String × Nat × MethodName × String)) (MT : List ra_M) (p : Nat × Nat × Nat × Nat × Nat) (e : Nat × Nat × Nat) : Bool := match MT[e.2.1]? with
  | none => false
  | some mm => (tb_at p.2.1 (Cond.initialized mm.1.cls) && (decide (mm.1.cls ≠ "java/lang/invoke/MethodHandle" ∧ mm.1.cls ≠ "java/lang/invoke/VarHandle" ∧ (parseMethodDescriptor mm.1.desc).map (fun d => d.parameters.length) = some mm.2.2.2.2.1) && (match e.2.2 with
    | 0 => tb_at p.2.2.1 (Cond.methodLink own e.1 mm.1) && (tb_at p.2.2.2.1 (Cond.instanceMethod mm.1) && (tb_at p.2.2.2.2 (Cond.selects mm.1.cls mm.1 mm.1) && (match vwCl[mm.2.2.2.2.2]? with
      | some r => r.1 == mm.1.cls
      | none => false)))
    | 1 => tb_at p.2.2.1 (Cond.methodLink own e.1 mm.1) && tb_at p.2.2.2.1 (Cond.static mm.1)
    | 2 => tb_at p.2.2.1 (Cond.methodLink own e.1 mm.1) && (tb_at p.2.2.2.1 (Cond.instanceMethod mm.1) && (mm.1.name == "<init>" && mm.2.2.2.1 == none))
    | 3 => (match nw[p.2.2.1]? with
      | some z => decide (z = (own, e.1, mm.1, z.2.2.2))
      | none => false) && (tb_at p.2.2.2.1 (Cond.instanceMethod mm.1) && (mm.1.name == "<init>" && mm.2.2.2.1 == none))
    | _ => false)))
theorem mk_M {own : String} {nw : List (String × Nat × MethodName × String)} {MT : List ra_M} (hMT : ∀ mm ∈ MT, Cond.code mm.1 mm.2.1 mm.2.2.1 mm.2.2.2.1 ∈ pT) {ps : List (Nat × Nat × Nat × Nat × Nat)} {ml : List (Nat × Nat × Nat)} (h : ra_b2 (mOk own nw MT) ps ml = true) : ra_okM pT own vwCl nw MT ml := by
  intro e he
  obtain ⟨i, hi⟩ := List.getElem?_of_mem he
  obtain ⟨p, -, h2⟩ := ra_b2_get h hi
  unfold mOk at h2
  split at h2
  · cases h2
  · rename_i mm hmm
    rw [Bool.and_eq_true, Bool.and_eq_true, decide_eq_true_eq] at h2
    obtain ⟨h4, h5, h6⟩ := h2
    refine ⟨mm, hmm, hMT mm (List.mem_of_getElem? hmm), tb_in h4, h5, ?_⟩
    split at h6
    · rename_i hk
      rw [Bool.and_eq_true, Bool.and_eq_true, Bool.and_eq_true] at h6
      obtain ⟨a1, a2, a3, a4⟩ := h6
      split at a4
      · rename_i r hr
        rw [beq_iff_eq] at a4
        exact Or.inl ⟨hk, tb_in a1, tb_in a2, tb_in a3, r, hr, a4⟩
      · cases a4
    · rename_i hk
      rw [Bool.and_eq_true] at h6
      exact Or.inr (Or.inl ⟨hk, tb_in h6.1, tb_in h6.2⟩)
    · rename_i hk
      rw [Bool.and_eq_true, Bool.and_eq_true, Bool.and_eq_true, beq_iff_eq, beq_iff_eq] at h6
      exact Or.inr (Or.inr (Or.inl ⟨hk, tb_in h6.1, tb_in h6.2.1, h6.2.2.1, h6.2.2.2⟩))
    · rename_i hk
      rw [Bool.and_eq_true, Bool.and_eq_true, Bool.and_eq_true, beq_iff_eq, beq_iff_eq] at h6
      obtain ⟨a1, a2, a3, a4⟩ := h6
      split at a1
      · rename_i z hz
        rw [decide_eq_true_eq] at a1
        exact Or.inr (Or.inr (Or.inr ⟨hk, ⟨z.2.2.2, by rw [← a1]; exact List.mem_of_getElem? hz⟩, tb_in a2, a3, a4⟩))
      · cases a1
    · cases h6
def pNW : List (String × Nat × MethodName × String) := [("BathWater", 15, ⟨"BathWater$Reader", "<init>", "()V"⟩, "BathWater"), ("BathWater$Reader", 11, ⟨"BathWater$Tokens", "<init>", "()V"⟩, "BathWater"), ("BathWater$Plan", 24, ⟨"BathWater$Formula", "<init>", "()V"⟩, "BathWater"), ("BathWater", 46, ⟨"BathWater$Course", "<init>", "()V"⟩, "BathWater"), ("BathWater", 69, ⟨"BathWater$Damps", "<init>", "()V"⟩, "BathWater")]
def cbP (p : Nat) : ByteArray := match lw_tbl[p]? with
  | some (.code _ b _ _) => b
  | _ => ByteArray.mk #[]
def cdOk (p : Nat) (mm : ra_M) : Bool := match lw_tbl[p]? with
  | some (.code y b n r) => decide (y = mm.1) && (n == mm.2.2.1 && (decide (r = mm.2.2.2.1) && goodWord (.code y b n r)))
  | _ => false
theorem cd_in {p : Nat} {mm : ra_M} (hb : mm.2.1 = cbP p) (h : cdOk p mm = true) : Cond.code mm.1 mm.2.1 mm.2.2.1 mm.2.2.2.1 ∈ pT := by
  unfold cdOk at h
  split at h
  · rename_i y b n r hx
    rw [Bool.and_eq_true, Bool.and_eq_true, Bool.and_eq_true, decide_eq_true_eq, decide_eq_true_eq, beq_iff_eq] at h
    obtain ⟨h1, h2, h3, h4⟩ := h
    have hb2 : mm.2.1 = b := by rw [hb]; simp [cbP, hx]
    rw [← h1, ← h2, ← h3, hb2]
    exact List.mem_filter.mpr ⟨List.mem_of_getElem? hx, h4⟩
  · cases h
def mt_0 : ra_M := (⟨"BathWater", "<init>", "()V"⟩, cbP 138, 2, (Option.none : Option Jvm.ClassFile.FieldType), 0, 8)
def mt_1 : ra_M := (⟨"BathWater$Reader", "<init>", "()V"⟩, cbP 146, 1, (Option.none : Option Jvm.ClassFile.FieldType), 0, 5)
def mt_2 : ra_M := (⟨"BathWater$Tokens", "<init>", "()V"⟩, cbP 152, 1, (Option.none : Option Jvm.ClassFile.FieldType), 0, 7)
def mt_3 : ra_M := (⟨"BathWater$Plan", "<init>", "()V"⟩, cbP 177, 1, (Option.none : Option Jvm.ClassFile.FieldType), 0, 4)
def mt_4 : ra_M := (⟨"BathWater$Scene", "<init>", "()V"⟩, cbP 183, 1, (Option.none : Option Jvm.ClassFile.FieldType), 0, 6)
def mt_5 : ra_M := (⟨"BathWater$Scene", "clear", "()V"⟩, cbP 188, 1, (Option.none : Option Jvm.ClassFile.FieldType), 0, 6)
def mt_6 : ra_M := (⟨"java/util/Arrays", "fill", "([II)V"⟩, cbP 191, 4, (Option.none : Option Jvm.ClassFile.FieldType), 2, 999)
def mt_7 : ra_M := (⟨"BathWater$Formula", "<init>", "()V"⟩, cbP 231, 1, (Option.none : Option Jvm.ClassFile.FieldType), 0, 3)
def mt_8 : ra_M := (⟨"BathWater$Plan", "clear", "()V"⟩, cbP 258, 1, (Option.none : Option Jvm.ClassFile.FieldType), 0, 4)
def mt_9 : ra_M := (⟨"BathWater$Formula", "clear", "()V"⟩, cbP 263, 1, (Option.none : Option Jvm.ClassFile.FieldType), 0, 3)
def mt_10 : ra_M := (⟨"BathWater$Acts", "<init>", "()V"⟩, cbP 352, 2, (Option.none : Option Jvm.ClassFile.FieldType), 0, 0)
def mt_11 : ra_M := (⟨"BathWater$Course", "<init>", "()V"⟩, cbP 376, 1, (Option.none : Option Jvm.ClassFile.FieldType), 0, 1)
def mt_12 : ra_M := (⟨"BathWater$Damps", "<init>", "()V"⟩, cbP 419, 1, (Option.none : Option Jvm.ClassFile.FieldType), 0, 2)
def mt_13 : ra_M := (⟨"BathWater", "feed", "(IIIII)I"⟩, cbP 510, 6, (Option.some Jvm.ClassFile.FieldType.int), 5, 8)
def mt_14 : ra_M := (⟨"BathWater", "putBytes", "(I)V"⟩, cbP 514, 3, (Option.none : Option Jvm.ClassFile.FieldType), 1, 8)
def mt_15 : ra_M := (⟨"BathWater", "end", "(I)I"⟩, cbP 518, 2, (Option.some Jvm.ClassFile.FieldType.int), 1, 8)
def mt_16 : ra_M := (⟨"BathWater", "bath", "()I"⟩, cbP 522, 2, (Option.some Jvm.ClassFile.FieldType.int), 0, 8)
def mt_17 : ra_M := (⟨"BathWater$Reader", "reads", "([IILBathWater$Plan;)Z"⟩, cbP 526, 5, (Option.some Jvm.ClassFile.FieldType.boolean), 3, 5)
def mt_18 : ra_M := (⟨"java/lang/Math", "min", "(II)I"⟩, cbP 529, 2, (Option.some Jvm.ClassFile.FieldType.int), 2, 999)
def mt_19 : ra_M := (⟨"BathWater$Tokens", "part", "([II)V"⟩, cbP 533, 6, (Option.none : Option Jvm.ClassFile.FieldType), 2, 7)
def mt_20 : ra_M := (⟨"BathWater$Tokens", "isLetter", "(I)Z"⟩, cbP 536, 1, (Option.some Jvm.ClassFile.FieldType.boolean), 1, 7)
def mt_21 : ra_M := (⟨"BathWater$Tokens", "takeWord", "([III)I"⟩, cbP 540, 7, (Option.some Jvm.ClassFile.FieldType.int), 3, 7)
def mt_22 : ra_M := (⟨"BathWater$Tokens", "wordKind", "(J)I"⟩, cbP 544, 3, (Option.some Jvm.ClassFile.FieldType.int), 1, 7)
def mt_23 : ra_M := (⟨"BathWater$Tokens", "lettersOf", "(I)J"⟩, cbP 547, 4, (Option.some Jvm.ClassFile.FieldType.long), 1, 7)
def mt_24 : ra_M := (⟨"java/lang/String", "charAt", "(I)C"⟩, cbP 552, 2, (Option.some Jvm.ClassFile.FieldType.char), 1, 999)
def mt_25 : ra_M := (⟨"java/lang/String", "isLatin1", "()Z"⟩, cbP 556, 1, (Option.some Jvm.ClassFile.FieldType.boolean), 0, 999)
def mt_26 : ra_M := (⟨"java/lang/StringLatin1", "charAt", "([BI)C"⟩, cbP 561, 2, (Option.some Jvm.ClassFile.FieldType.char), 2, 999)
def mt_27 : ra_M := (⟨"java/lang/String", "checkIndex", "(II)V"⟩, cbP 564, 2, (Option.none : Option Jvm.ClassFile.FieldType), 2, 999)
def mt_28 : ra_M := (⟨"jdk/internal/util/Preconditions", "checkIndex", "(IILjava/util/function/BiFunction;)I"⟩, cbP 569, 3, (Option.some Jvm.ClassFile.FieldType.int), 3, 999)
def mt_29 : ra_M := (⟨"java/lang/StringUTF16", "charAt", "([BI)C"⟩, cbP 572, 2, (Option.some Jvm.ClassFile.FieldType.char), 2, 999)
def mt_30 : ra_M := (⟨"java/lang/StringUTF16", "checkIndex", "(I[B)V"⟩, cbP 575, 2, (Option.none : Option Jvm.ClassFile.FieldType), 2, 999)
def mt_31 : ra_M := (⟨"java/lang/StringUTF16", "length", "([B)I"⟩, cbP 578, 1, (Option.some Jvm.ClassFile.FieldType.int), 1, 999)
def mt_32 : ra_M := (⟨"java/lang/StringUTF16", "getChar", "([BI)C"⟩, cbP 582, 2, (Option.some Jvm.ClassFile.FieldType.char), 2, 999)
def mt_33 : ra_M := (⟨"BathWater$Tokens", "put", "(IIJ)V"⟩, cbP 592, 5, (Option.none : Option Jvm.ClassFile.FieldType), 3, 7)
def mt_34 : ra_M := (⟨"BathWater$Tokens", "isDigit", "(I)Z"⟩, cbP 595, 1, (Option.some Jvm.ClassFile.FieldType.boolean), 1, 7)
def mt_35 : ra_M := (⟨"BathWater$Tokens", "takeNumber", "([III)I"⟩, cbP 599, 7, (Option.some Jvm.ClassFile.FieldType.int), 3, 7)
def mt_36 : ra_M := (⟨"java/lang/String", "indexOf", "(I)I"⟩, cbP 604, 2, (Option.some Jvm.ClassFile.FieldType.int), 1, 999)
def mt_37 : ra_M := (⟨"java/lang/String", "indexOf", "(II)I"⟩, cbP 608, 3, (Option.some Jvm.ClassFile.FieldType.int), 2, 999)
def mt_38 : ra_M := (⟨"java/lang/String", "length", "()I"⟩, cbP 612, 1, (Option.some Jvm.ClassFile.FieldType.int), 0, 999)
def mt_39 : ra_M := (⟨"java/lang/String", "coder", "()B"⟩, cbP 616, 1, (Option.some Jvm.ClassFile.FieldType.byte), 0, 999)
def mt_40 : ra_M := (⟨"java/lang/StringLatin1", "indexOf", "([BIII)I"⟩, cbP 619, 4, (Option.some Jvm.ClassFile.FieldType.int), 4, 999)
def mt_41 : ra_M := (⟨"java/lang/StringLatin1", "canEncode", "(I)Z"⟩, cbP 622, 1, (Option.some Jvm.ClassFile.FieldType.boolean), 1, 999)
def mt_42 : ra_M := (⟨"java/lang/Math", "max", "(II)I"⟩, cbP 625, 2, (Option.some Jvm.ClassFile.FieldType.int), 2, 999)
def mt_43 : ra_M := (⟨"java/lang/StringLatin1", "indexOfChar", "([BIII)I"⟩, cbP 629, 6, (Option.some Jvm.ClassFile.FieldType.int), 4, 999)
def mt_44 : ra_M := (⟨"java/lang/StringUTF16", "indexOf", "([BIII)I"⟩, cbP 632, 4, (Option.some Jvm.ClassFile.FieldType.int), 4, 999)
def mt_45 : ra_M := (⟨"java/lang/StringUTF16", "indexOfChar", "([BIII)I"⟩, cbP 638, 4, (Option.some Jvm.ClassFile.FieldType.int), 4, 999)
def mt_46 : ra_M := (⟨"java/lang/StringUTF16", "checkBoundsBeginEnd", "(II[B)V"⟩, cbP 641, 3, (Option.none : Option Jvm.ClassFile.FieldType), 3, 999)
def mt_47 : ra_M := (⟨"java/lang/String", "checkBoundsBeginEnd", "(III)V"⟩, cbP 644, 3, (Option.none : Option Jvm.ClassFile.FieldType), 3, 999)
def mt_48 : ra_M := (⟨"jdk/internal/util/Preconditions", "checkFromToIndex", "(IIILjava/util/function/BiFunction;)I"⟩, cbP 647, 4, (Option.some Jvm.ClassFile.FieldType.int), 4, 999)
def mt_49 : ra_M := (⟨"java/lang/StringUTF16", "indexOfCharUnsafe", "([BIII)I"⟩, cbP 650, 5, (Option.some Jvm.ClassFile.FieldType.int), 4, 999)
def mt_50 : ra_M := (⟨"java/lang/StringUTF16", "indexOfSupplementary", "([BIII)I"⟩, cbP 653, 7, (Option.some Jvm.ClassFile.FieldType.int), 4, 999)
def mt_51 : ra_M := (⟨"java/lang/Character", "isValidCodePoint", "(I)Z"⟩, cbP 656, 2, (Option.some Jvm.ClassFile.FieldType.boolean), 1, 999)
def mt_52 : ra_M := (⟨"java/lang/Character", "highSurrogate", "(I)C"⟩, cbP 659, 1, (Option.some Jvm.ClassFile.FieldType.char), 1, 999)
def mt_53 : ra_M := (⟨"java/lang/Character", "lowSurrogate", "(I)C"⟩, cbP 663, 1, (Option.some Jvm.ClassFile.FieldType.char), 1, 999)
def mt_54 : ra_M := (⟨"BathWater$Reader", "advance", "()V"⟩, cbP 669, 1, (Option.none : Option Jvm.ClassFile.FieldType), 0, 5)
def mt_55 : ra_M := (⟨"BathWater$Reader", "readLine", "()V"⟩, cbP 673, 2, (Option.none : Option Jvm.ClassFile.FieldType), 0, 5)
def mt_56 : ra_M := (⟨"BathWater$Reader", "mayStand", "(I)Z"⟩, cbP 677, 2, (Option.some Jvm.ClassFile.FieldType.boolean), 1, 5)
def mt_57 : ra_M := (⟨"BathWater$Reader", "refuse", "(I)V"⟩, cbP 681, 2, (Option.none : Option Jvm.ClassFile.FieldType), 1, 5)
def mt_58 : ra_M := (⟨"BathWater$Reader", "readNumber", "(II)I"⟩, cbP 685, 4, (Option.some Jvm.ClassFile.FieldType.int), 2, 5)
def mt_59 : ra_M := (⟨"BathWater$Reader", "readOption", "(IIII)I"⟩, cbP 689, 5, (Option.some Jvm.ClassFile.FieldType.int), 4, 5)
def mt_60 : ra_M := (⟨"BathWater$Reader", "readWater", "()V"⟩, cbP 693, 3, (Option.none : Option Jvm.ClassFile.FieldType), 0, 5)
def mt_61 : ra_M := (⟨"BathWater$Reader", "expect", "(I)V"⟩, cbP 697, 2, (Option.none : Option Jvm.ClassFile.FieldType), 1, 5)
def mt_62 : ra_M := (⟨"BathWater$Reader", "readSwimmer", "()V"⟩, cbP 701, 2, (Option.none : Option Jvm.ClassFile.FieldType), 0, 5)
def mt_63 : ra_M := (⟨"BathWater$Reader", "readName", "(I)V"⟩, cbP 705, 3, (Option.none : Option Jvm.ClassFile.FieldType), 1, 5)
def mt_64 : ra_M := (⟨"BathWater$Reader", "readEither", "(I)V"⟩, cbP 709, 3, (Option.none : Option Jvm.ClassFile.FieldType), 1, 5)
def mt_65 : ra_M := (⟨"BathWater$Reader", "readBoth", "(I)V"⟩, cbP 713, 3, (Option.none : Option Jvm.ClassFile.FieldType), 1, 5)
def mt_66 : ra_M := (⟨"BathWater$Reader", "readOne", "(I)V"⟩, cbP 717, 3, (Option.none : Option Jvm.ClassFile.FieldType), 1, 5)
def mt_67 : ra_M := (⟨"BathWater$Formula", "add", "(II)V"⟩, cbP 721, 3, (Option.none : Option Jvm.ClassFile.FieldType), 2, 3)
def mt_68 : ra_M := (⟨"BathWater$Reader", "readSum", "(I)V"⟩, cbP 725, 4, (Option.none : Option Jvm.ClassFile.FieldType), 1, 5)
def mt_69 : ra_M := (⟨"BathWater$Reader", "readTerm", "(I)V"⟩, cbP 729, 4, (Option.none : Option Jvm.ClassFile.FieldType), 1, 5)
def mt_70 : ra_M := (⟨"BathWater$Reader", "readUnit", "(I)V"⟩, cbP 733, 4, (Option.none : Option Jvm.ClassFile.FieldType), 1, 5)
def mt_71 : ra_M := (⟨"BathWater$Reader", "isUnitStart", "()Z"⟩, cbP 737, 1, (Option.some Jvm.ClassFile.FieldType.boolean), 0, 5)
def mt_72 : ra_M := (⟨"BathWater", "beginAnew", "()V"⟩, cbP 741, 1, (Option.none : Option Jvm.ClassFile.FieldType), 0, 8)
def mt_73 : ra_M := (⟨"BathWater$Scene", "copy", "(LBathWater$Scene;)V"⟩, cbP 745, 2, (Option.none : Option Jvm.ClassFile.FieldType), 1, 6)
def mt_74 : ra_M := (⟨"BathWater$Acts", "forget", "(LBathWater$Scene;)V"⟩, cbP 752, 2, (Option.none : Option Jvm.ClassFile.FieldType), 1, 0)
def mt_75 : ra_M := (⟨"BathWater$Acts", "sceneAt", "(I)LBathWater$Scene;"⟩, cbP 756, 2, (Option.some (Jvm.ClassFile.FieldType.object "BathWater$Scene")), 1, 0)
def mt_76 : ra_M := (⟨"BathWater", "fault", "(I)I"⟩, cbP 762, 2, (Option.some Jvm.ClassFile.FieldType.int), 1, 8)
def mt_77 : ra_M := (⟨"BathWater", "spot", "(II)I"⟩, cbP 766, 3, (Option.some Jvm.ClassFile.FieldType.int), 2, 8)
def mt_78 : ra_M := (⟨"BathWater", "isSpot", "(I)Z"⟩, cbP 770, 2, (Option.some Jvm.ClassFile.FieldType.boolean), 1, 8)
def mt_79 : ra_M := (⟨"BathWater", "choices", "()[I"⟩, cbP 774, 1, (Option.some (Jvm.ClassFile.FieldType.array Jvm.ClassFile.FieldType.int)), 0, 8)
def mt_80 : ra_M := (⟨"BathWater", "lookAhead", "()V"⟩, cbP 778, 1, (Option.none : Option Jvm.ClassFile.FieldType), 0, 8)
def mt_81 : ra_M := (⟨"BathWater$Course", "begin", "(LBathWater$Plan;LBathWater$Scene;)V"⟩, cbP 782, 3, (Option.none : Option Jvm.ClassFile.FieldType), 2, 1)
def mt_82 : ra_M := (⟨"BathWater$Course", "choose", "(Z)V"⟩, cbP 788, 6, (Option.none : Option Jvm.ClassFile.FieldType), 1, 1)
def mt_83 : ra_M := (⟨"BathWater$Course", "tellFacts", "(II)V"⟩, cbP 792, 3, (Option.none : Option Jvm.ClassFile.FieldType), 2, 1)
def mt_84 : ra_M := (⟨"java/lang/Math", "abs", "(I)I"⟩, cbP 795, 1, (Option.some Jvm.ClassFile.FieldType.int), 1, 999)
def mt_85 : ra_M := (⟨"BathWater$Formula", "result", "([I)I"⟩, cbP 799, 5, (Option.some Jvm.ClassFile.FieldType.int), 1, 3)
def mt_86 : ra_M := (⟨"BathWater$Formula", "isJoining", "(I)Z"⟩, cbP 802, 1, (Option.some Jvm.ClassFile.FieldType.boolean), 1, 3)
def mt_87 : ra_M := (⟨"BathWater$Formula", "joined", "(III)I"⟩, cbP 805, 3, (Option.some Jvm.ClassFile.FieldType.int), 3, 3)
def mt_88 : ra_M := (⟨"BathWater", "standingAt", "(I)I"⟩, cbP 809, 4, (Option.some Jvm.ClassFile.FieldType.int), 1, 8)
def mt_89 : ra_M := (⟨"BathWater", "swimmer", "(II)I"⟩, cbP 813, 3, (Option.some Jvm.ClassFile.FieldType.int), 2, 8)
def mt_90 : ra_M := (⟨"BathWater", "isSwimmer", "(I)Z"⟩, cbP 817, 2, (Option.some Jvm.ClassFile.FieldType.boolean), 1, 8)
def mt_91 : ra_M := (⟨"BathWater", "spotsOf", "(I[I)I"⟩, cbP 821, 5, (Option.some Jvm.ClassFile.FieldType.int), 2, 8)
def mt_92 : ra_M := (⟨"BathWater", "liking", "(II)I"⟩, cbP 825, 3, (Option.some Jvm.ClassFile.FieldType.int), 2, 8)
def mt_93 : ra_M := (⟨"BathWater", "isIn", "(I)Z"⟩, cbP 829, 2, (Option.some Jvm.ClassFile.FieldType.boolean), 1, 8)
def mt_94 : ra_M := (⟨"BathWater$Course", "worth", "(II)I"⟩, cbP 834, 4, (Option.some Jvm.ClassFile.FieldType.int), 2, 1)
def mt_95 : ra_M := (⟨"BathWater", "step", "()I"⟩, cbP 839, 1, (Option.some Jvm.ClassFile.FieldType.int), 0, 8)
def mt_96 : ra_M := (⟨"BathWater$Course", "goBySeed", "()V"⟩, cbP 843, 1, (Option.none : Option Jvm.ClassFile.FieldType), 0, 1)
def mt_97 : ra_M := (⟨"BathWater$Course", "go", "(Z)V"⟩, cbP 847, 2, (Option.none : Option Jvm.ClassFile.FieldType), 1, 1)
def mt_98 : ra_M := (⟨"BathWater$Course", "moveWater", "(I)V"⟩, cbP 852, 5, (Option.none : Option Jvm.ClassFile.FieldType), 1, 1)
def mt_99 : ra_M := (⟨"BathWater$Course", "nextFrom", "(I)I"⟩, cbP 856, 3, (Option.some Jvm.ClassFile.FieldType.int), 1, 1)
def mt_100 : ra_M := (⟨"BathWater$Course", "countSwims", "()V"⟩, cbP 861, 3, (Option.none : Option Jvm.ClassFile.FieldType), 0, 1)
def mt_101 : ra_M := (⟨"BathWater$Acts", "keep", "(LBathWater$Scene;)V"⟩, cbP 865, 2, (Option.none : Option Jvm.ClassFile.FieldType), 1, 0)
def mt_102 : ra_M := (⟨"BathWater", "stand", "(II)I"⟩, cbP 869, 4, (Option.some Jvm.ClassFile.FieldType.int), 2, 8)
def mt_103 : ra_M := (⟨"BathWater", "leave", "(I)I"⟩, cbP 873, 3, (Option.some Jvm.ClassFile.FieldType.int), 1, 8)
def mt_104 : ra_M := (⟨"BathWater", "pour", "(II)I"⟩, cbP 877, 3, (Option.some Jvm.ClassFile.FieldType.int), 2, 8)
def mt_105 : ra_M := (⟨"BathWater", "within", "(III)Z"⟩, cbP 880, 3, (Option.some Jvm.ClassFile.FieldType.boolean), 3, 8)
def mt_106 : ra_M := (⟨"BathWater", "drain", "(II)I"⟩, cbP 884, 3, (Option.some Jvm.ClassFile.FieldType.int), 2, 8)
def mt_107 : ra_M := (⟨"BathWater", "teach", "(II)I"⟩, cbP 888, 4, (Option.some Jvm.ClassFile.FieldType.int), 2, 8)
def mt_108 : ra_M := (⟨"BathWater", "undo", "()Z"⟩, cbP 892, 1, (Option.some Jvm.ClassFile.FieldType.boolean), 0, 8)
def mt_109 : ra_M := (⟨"BathWater$Acts", "goBack", "(LBathWater$Scene;)Z"⟩, cbP 896, 2, (Option.some Jvm.ClassFile.FieldType.boolean), 1, 0)
def mt_110 : ra_M := (⟨"BathWater", "redo", "()Z"⟩, cbP 900, 1, (Option.some Jvm.ClassFile.FieldType.boolean), 0, 8)
def mt_111 : ra_M := (⟨"BathWater$Acts", "goForth", "(LBathWater$Scene;)Z"⟩, cbP 904, 2, (Option.some Jvm.ClassFile.FieldType.boolean), 1, 0)
def mt_112 : ra_M := (⟨"BathWater", "will", "(III)I"⟩, cbP 908, 4, (Option.some Jvm.ClassFile.FieldType.int), 3, 8)
def mt_113 : ra_M := (⟨"BathWater", "isAhead", "(I)Z"⟩, cbP 911, 1, (Option.some Jvm.ClassFile.FieldType.boolean), 1, 8)
def mt_114 : ra_M := (⟨"BathWater$Course", "goOn", "(I)V"⟩, cbP 915, 3, (Option.none : Option Jvm.ClassFile.FieldType), 1, 1)
def mt_115 : ra_M := (⟨"BathWater$Course", "goAlike", "(I)V"⟩, cbP 919, 3, (Option.none : Option Jvm.ClassFile.FieldType), 1, 1)
def mt_116 : ra_M := (⟨"BathWater$Course", "goOnBySeed", "(I)V"⟩, cbP 923, 3, (Option.none : Option Jvm.ClassFile.FieldType), 1, 1)
def mt_117 : ra_M := (⟨"BathWater", "swims", "(II)I"⟩, cbP 928, 3, (Option.some Jvm.ClassFile.FieldType.int), 2, 8)
def mt_118 : ra_M := (⟨"BathWater", "still", "()I"⟩, cbP 932, 2, (Option.some Jvm.ClassFile.FieldType.int), 0, 8)
def mt_119 : ra_M := (⟨"BathWater", "lure", "(III)I"⟩, cbP 937, 7, (Option.some Jvm.ClassFile.FieldType.int), 3, 8)
def mt_120 : ra_M := (⟨"BathWater", "both", "(IIII)I"⟩, cbP 941, 9, (Option.some Jvm.ClassFile.FieldType.int), 4, 8)
def mt_121 : ra_M := (⟨"BathWater", "areTwo", "(II)Z"⟩, cbP 945, 3, (Option.some Jvm.ClassFile.FieldType.boolean), 2, 8)
def mt_122 : ra_M := (⟨"BathWater", "oftenTogether", "(IIII)I"⟩, cbP 949, 5, (Option.some Jvm.ClassFile.FieldType.int), 4, 8)
def mt_123 : ra_M := (⟨"BathWater", "orders", "(I)I"⟩, cbP 953, 6, (Option.some Jvm.ClassFile.FieldType.int), 1, 8)
def mt_124 : ra_M := (⟨"BathWater", "oftenInTurns", "(I)I"⟩, cbP 957, 3, (Option.some Jvm.ClassFile.FieldType.int), 1, 8)
def mt_125 : ra_M := (⟨"BathWater$Course", "allSwims", "()I"⟩, cbP 962, 3, (Option.some Jvm.ClassFile.FieldType.int), 0, 1)
def mt_126 : ra_M := (⟨"BathWater", "layOrder", "()V"⟩, cbP 966, 1, (Option.none : Option Jvm.ClassFile.FieldType), 0, 8)
def mt_127 : ra_M := (⟨"BathWater", "turnToNextOrder", "()Z"⟩, cbP 971, 5, (Option.some Jvm.ClassFile.FieldType.boolean), 0, 8)
def mt_128 : ra_M := (⟨"BathWater", "swapTurns", "(II)V"⟩, cbP 975, 4, (Option.none : Option Jvm.ClassFile.FieldType), 2, 8)
def mt_129 : ra_M := (⟨"BathWater", "race", "(II)I"⟩, cbP 979, 5, (Option.some Jvm.ClassFile.FieldType.int), 2, 8)
def mt_130 : ra_M := (⟨"BathWater$Course", "firstWhoSwam", "(I)I"⟩, cbP 983, 3, (Option.some Jvm.ClassFile.FieldType.int), 1, 1)
def mt_131 : ra_M := (⟨"BathWater", "court", "(II)I"⟩, cbP 987, 4, (Option.some Jvm.ClassFile.FieldType.int), 2, 8)
def mt_132 : ra_M := (⟨"BathWater$Course", "preferredFrom", "(I)I"⟩, cbP 991, 6, (Option.some Jvm.ClassFile.FieldType.int), 1, 1)
def mt_133 : ra_M := (⟨"BathWater", "duel", "(III)I"⟩, cbP 996, 6, (Option.some Jvm.ClassFile.FieldType.int), 3, 8)
def mt_134 : ra_M := (⟨"BathWater", "weighDuel", "(III)V"⟩, cbP 1000, 7, (Option.none : Option Jvm.ClassFile.FieldType), 3, 8)
def mt_135 : ra_M := (⟨"BathWater", "isRest", "(I)Z"⟩, cbP 1004, 7, (Option.some Jvm.ClassFile.FieldType.boolean), 1, 8)
def mt_136 : ra_M := (⟨"BathWater", "isBetter", "(IIII)Z"⟩, cbP 1007, 4, (Option.some Jvm.ClassFile.FieldType.boolean), 4, 8)
def mt_137 : ra_M := (⟨"BathWater", "layPair", "(II)V"⟩, cbP 1011, 3, (Option.none : Option Jvm.ClassFile.FieldType), 2, 8)
def mt_138 : ra_M := (⟨"BathWater", "loss", "(II)I"⟩, cbP 1015, 4, (Option.some Jvm.ClassFile.FieldType.int), 2, 8)
def mt_139 : ra_M := (⟨"BathWater", "earn", "(III)I"⟩, cbP 1020, 5, (Option.some Jvm.ClassFile.FieldType.int), 3, 8)
def mt_140 : ra_M := (⟨"BathWater", "alone", "(II)I"⟩, cbP 1024, 3, (Option.some Jvm.ClassFile.FieldType.int), 2, 8)
def mt_141 : ra_M := (⟨"BathWater", "leader", "(I)I"⟩, cbP 1028, 5, (Option.some Jvm.ClassFile.FieldType.int), 1, 8)
def mt_142 : ra_M := (⟨"BathWater", "plug", "(II)I"⟩, cbP 1032, 7, (Option.some Jvm.ClassFile.FieldType.int), 2, 8)
def mt_143 : ra_M := (⟨"BathWater", "oftenWithWater", "(III)I"⟩, cbP 1036, 4, (Option.some Jvm.ClassFile.FieldType.int), 3, 8)
def mt_144 : ra_M := (⟨"BathWater", "fill", "(III)I"⟩, cbP 1040, 8, (Option.some Jvm.ClassFile.FieldType.int), 3, 8)
def mt_145 : ra_M := (⟨"BathWater", "exchange", "(II)I"⟩, cbP 1044, 9, (Option.some Jvm.ClassFile.FieldType.int), 2, 8)
def mt_146 : ra_M := (⟨"BathWater", "oftenExchanged", "(III)I"⟩, cbP 1048, 4, (Option.some Jvm.ClassFile.FieldType.int), 3, 8)
def mt_147 : ra_M := (⟨"BathWater", "thin", "(II)I"⟩, cbP 1052, 7, (Option.some Jvm.ClassFile.FieldType.int), 2, 8)
def mt_148 : ra_M := (⟨"BathWater", "whoIsIn", "()I"⟩, cbP 1056, 3, (Option.some Jvm.ClassFile.FieldType.int), 0, 8)
def mt_149 : ra_M := (⟨"java/lang/Integer", "bitCount", "(I)I"⟩, cbP 1059, 1, (Option.some Jvm.ClassFile.FieldType.int), 1, 999)
def mt_150 : ra_M := (⟨"BathWater", "allSwimWithout", "(II)Z"⟩, cbP 1066, 4, (Option.some Jvm.ClassFile.FieldType.boolean), 2, 8)
def mt_151 : ra_M := (⟨"BathWater$Course", "whoStaysDry", "()I"⟩, cbP 1070, 3, (Option.some Jvm.ClassFile.FieldType.int), 0, 1)
def mt_152 : ra_M := (⟨"BathWater", "flood", "(II)I"⟩, cbP 1074, 4, (Option.some Jvm.ClassFile.FieldType.int), 2, 8)
def mt_153 : ra_M := (⟨"BathWater", "between", "(II)I"⟩, cbP 1078, 3, (Option.some Jvm.ClassFile.FieldType.int), 2, 8)
def mt_154 : ra_M := (⟨"BathWater", "waterFrom", "(II)I"⟩, cbP 1084, 5, (Option.some Jvm.ClassFile.FieldType.int), 2, 8)
def mt_155 : ra_M := (⟨"BathWater", "spread", "()I"⟩, cbP 1088, 4, (Option.some Jvm.ClassFile.FieldType.int), 0, 8)
def mt_156 : ra_M := (⟨"BathWater", "drawn", "()I"⟩, cbP 1092, 4, (Option.some Jvm.ClassFile.FieldType.int), 0, 8)
def mt_157 : ra_M := (⟨"BathWater", "deepest", "()I"⟩, cbP 1096, 3, (Option.some Jvm.ClassFile.FieldType.int), 0, 8)
def mt_158 : ra_M := (⟨"BathWater", "darling", "()I"⟩, cbP 1100, 6, (Option.some Jvm.ClassFile.FieldType.int), 0, 8)
def mt_159 : ra_M := (⟨"BathWater", "dry", "(I)I"⟩, cbP 1104, 2, (Option.some Jvm.ClassFile.FieldType.int), 1, 8)
def mt_160 : ra_M := (⟨"BathWater", "tide", "(II)I"⟩, cbP 1108, 5, (Option.some Jvm.ClassFile.FieldType.int), 2, 8)
def mt_161 : ra_M := (⟨"BathWater", "law", "(II)I"⟩, cbP 1112, 3, (Option.some Jvm.ClassFile.FieldType.int), 2, 8)
def mt_162 : ra_M := (⟨"BathWater", "odds", "(II)I"⟩, cbP 1116, 6, (Option.some Jvm.ClassFile.FieldType.int), 2, 8)
def mt_163 : ra_M := (⟨"BathWater", "commonDivisor", "(II)I"⟩, cbP 1119, 6, (Option.some Jvm.ClassFile.FieldType.int), 2, 8)
def mt_164 : ra_M := (⟨"BathWater", "lies", "(I)I"⟩, cbP 1123, 2, (Option.some Jvm.ClassFile.FieldType.int), 1, 8)
def mt_165 : ra_M := (⟨"BathWater", "damp", "(IIIZ)I"⟩, cbP 1127, 5, (Option.some Jvm.ClassFile.FieldType.int), 4, 8)
def mt_166 : ra_M := (⟨"BathWater$Damps", "add", "(IIIZI)I"⟩, cbP 1131, 6, (Option.some Jvm.ClassFile.FieldType.int), 5, 2)
def mt_167 : ra_M := (⟨"BathWater", "untell", "(I)Z"⟩, cbP 1135, 2, (Option.some Jvm.ClassFile.FieldType.boolean), 1, 8)
def mt_168 : ra_M := (⟨"BathWater$Damps", "takeBack", "(II)Z"⟩, cbP 1139, 3, (Option.some Jvm.ClassFile.FieldType.boolean), 2, 2)
def mt_169 : ra_M := (⟨"BathWater", "later", "(I)I"⟩, cbP 1143, 2, (Option.some Jvm.ClassFile.FieldType.int), 1, 8)
def mt_170 : ra_M := (⟨"BathWater", "fits", "(I)I"⟩, cbP 1148, 4, (Option.some Jvm.ClassFile.FieldType.int), 1, 8)
def mt_171 : ra_M := (⟨"BathWater", "isFit", "(II)Z"⟩, cbP 1152, 5, (Option.some Jvm.ClassFile.FieldType.boolean), 2, 8)
def mt_172 : ra_M := (⟨"BathWater", "lookAtFirst", "(I)V"⟩, cbP 1156, 2, (Option.none : Option Jvm.ClassFile.FieldType), 1, 8)
def mt_173 : ra_M := (⟨"BathWater$Damps", "lastStep", "(I)I"⟩, cbP 1160, 4, (Option.some Jvm.ClassFile.FieldType.int), 1, 2)
def mt_174 : ra_M := (⟨"BathWater$Damps", "countsAt", "(II)Z"⟩, cbP 1164, 3, (Option.some Jvm.ClassFile.FieldType.boolean), 2, 2)
def mt_175 : ra_M := (⟨"BathWater$Damps", "agree", "(II[I)Z"⟩, cbP 1169, 6, (Option.some Jvm.ClassFile.FieldType.boolean), 3, 2)
def mt_176 : ra_M := (⟨"BathWater", "sure", "(II)I"⟩, cbP 1173, 5, (Option.some Jvm.ClassFile.FieldType.int), 2, 8)
def mt_177 : ra_M := (⟨"BathWater", "ask", "(III)I"⟩, cbP 1177, 5, (Option.some Jvm.ClassFile.FieldType.int), 3, 8)
def mt_178 : ra_M := (⟨"BathWater$Damps", "addFitting", "([I)V"⟩, cbP 1181, 2, (Option.none : Option Jvm.ClassFile.FieldType), 1, 2)
def mt_179 : ra_M := (⟨"BathWater", "spotToAsk", "()I"⟩, cbP 1186, 5, (Option.some Jvm.ClassFile.FieldType.int), 0, 8)
def mt_180 : ra_M := (⟨"BathWater$Damps", "mostAlike", "(I)I"⟩, cbP 1190, 5, (Option.some Jvm.ClassFile.FieldType.int), 1, 2)
def mt_181 : ra_M := (⟨"BathWater", "image", "(I)I"⟩, cbP 1195, 2, (Option.some Jvm.ClassFile.FieldType.int), 1, 8)
def mt_182 : ra_M := (⟨"BathWater", "back", "(I)I"⟩, cbP 1199, 2, (Option.some Jvm.ClassFile.FieldType.int), 1, 8)
def mt_183 : ra_M := (⟨"BathWater", "about", "(I)I"⟩, cbP 1203, 2, (Option.some Jvm.ClassFile.FieldType.int), 1, 8)
def mt_184 : ra_M := (⟨"BathWater", "aboutMore", "(I)I"⟩, cbP 1207, 2, (Option.some Jvm.ClassFile.FieldType.int), 1, 8)
def mt_185 : ra_M := (⟨"BathWaterModel", "<init>", "()V"⟩, cbP 1212, 1, (Option.none : Option Jvm.ClassFile.FieldType), 0, 9)
def mt_186 : ra_M := (⟨"BathWaterModel", "clearBank", "()V"⟩, cbP 1217, 2, (Option.none : Option Jvm.ClassFile.FieldType), 0, 9)
def mt_187 : ra_M := (⟨"BathWaterModel", "startAnew", "()V"⟩, cbP 1221, 2, (Option.none : Option Jvm.ClassFile.FieldType), 0, 9)
def mt_188 : ra_M := (⟨"BathWaterModel", "layTold", "()V"⟩, cbP 1225, 2, (Option.none : Option Jvm.ClassFile.FieldType), 0, 9)
def mt_189 : ra_M := (⟨"BathWaterModel", "many", "()I"⟩, cbP 1229, 1, (Option.some Jvm.ClassFile.FieldType.int), 0, 9)
def mt_190 : ra_M := (⟨"BathWaterModel", "bath", "()I"⟩, cbP 1423, 2, (Option.some Jvm.ClassFile.FieldType.int), 0, 9)
def mt_191 : ra_M := (⟨"BathWaterModel", "goOn", "()V"⟩, cbP 1427, 3, (Option.none : Option Jvm.ClassFile.FieldType), 0, 9)
def mt_192 : ra_M := (⟨"BathWaterModel", "sign", "(I)I"⟩, cbP 1431, 2, (Option.some Jvm.ClassFile.FieldType.int), 1, 9)
def mt_193 : ra_M := (⟨"BathWaterModel", "isLetter", "(I)Z"⟩, cbP 1434, 1, (Option.some Jvm.ClassFile.FieldType.boolean), 1, 9)
def mt_194 : ra_M := (⟨"BathWaterModel", "isKept", "(J)Z"⟩, cbP 1437, 3, (Option.some Jvm.ClassFile.FieldType.boolean), 1, 9)
def mt_195 : ra_M := (⟨"BathWaterModel", "isDigit", "(I)Z"⟩, cbP 1456, 1, (Option.some Jvm.ClassFile.FieldType.boolean), 1, 9)
def mt_196 : ra_M := (⟨"BathWaterModel", "isSign", "(I)Z"⟩, cbP 1459, 1, (Option.some Jvm.ClassFile.FieldType.boolean), 1, 9)
def mt_197 : ra_M := (⟨"BathWaterModel", "isGood", "()Z"⟩, cbP 1463, 1, (Option.some Jvm.ClassFile.FieldType.boolean), 0, 9)
def mt_198 : ra_M := (⟨"BathWaterModel", "readLine", "()V"⟩, cbP 1467, 3, (Option.none : Option Jvm.ClassFile.FieldType), 0, 9)
def mt_199 : ra_M := (⟨"BathWaterModel", "isFull", "()Z"⟩, cbP 1471, 1, (Option.some Jvm.ClassFile.FieldType.boolean), 0, 9)
def mt_200 : ra_M := (⟨"BathWaterModel", "isWord", "(J)Z"⟩, cbP 1475, 3, (Option.some Jvm.ClassFile.FieldType.boolean), 1, 9)
def mt_201 : ra_M := (⟨"BathWaterModel", "bitsOf", "(I)I"⟩, cbP 1478, 3, (Option.some Jvm.ClassFile.FieldType.int), 1, 9)
def mt_202 : ra_M := (⟨"BathWaterModel", "bit", "(II)Z"⟩, cbP 1481, 2, (Option.some Jvm.ClassFile.FieldType.boolean), 2, 9)
def mt_203 : ra_M := (⟨"BathWaterModel", "misplaced", "()V"⟩, cbP 1485, 1, (Option.none : Option Jvm.ClassFile.FieldType), 0, 9)
def mt_204 : ra_M := (⟨"BathWaterModel", "fails", "(II)V"⟩, cbP 1489, 3, (Option.none : Option Jvm.ClassFile.FieldType), 2, 9)
def mt_205 : ra_M := (⟨"BathWaterModel", "numeral", "(II)I"⟩, cbP 1493, 4, (Option.some Jvm.ClassFile.FieldType.int), 2, 9)
def mt_206 : ra_M := (⟨"BathWaterModel", "perhaps", "(JIII)I"⟩, cbP 1497, 6, (Option.some Jvm.ClassFile.FieldType.int), 4, 9)
def mt_207 : ra_M := (⟨"BathWaterModel", "after", "(JII)I"⟩, cbP 1501, 5, (Option.some Jvm.ClassFile.FieldType.int), 3, 9)
def mt_208 : ra_M := (⟨"BathWaterModel", "must", "(Z)V"⟩, cbP 1505, 2, (Option.none : Option Jvm.ClassFile.FieldType), 1, 9)
def mt_209 : ra_M := (⟨"BathWaterModel", "readWater", "()V"⟩, cbP 1509, 4, (Option.none : Option Jvm.ClassFile.FieldType), 0, 9)
def mt_210 : ra_M := (⟨"BathWaterModel", "readSwimmer", "()V"⟩, cbP 1513, 2, (Option.none : Option Jvm.ClassFile.FieldType), 0, 9)
def mt_211 : ra_M := (⟨"BathWaterModel", "swimmerHere", "()I"⟩, cbP 1517, 2, (Option.some Jvm.ClassFile.FieldType.int), 0, 9)
def mt_212 : ra_M := (⟨"BathWaterModel", "readRule", "()V"⟩, cbP 1521, 1, (Option.none : Option Jvm.ClassFile.FieldType), 0, 9)
def mt_213 : ra_M := (⟨"BathWaterModel", "e", "()V"⟩, cbP 1525, 2, (Option.none : Option Jvm.ClassFile.FieldType), 0, 9)
def mt_214 : ra_M := (⟨"BathWaterModel", "pushE", "(II)V"⟩, cbP 1529, 3, (Option.none : Option Jvm.ClassFile.FieldType), 2, 9)
def mt_215 : ra_M := (⟨"BathWaterModel", "unit", "()Z"⟩, cbP 1533, 7, (Option.some Jvm.ClassFile.FieldType.boolean), 0, 9)
def mt_216 : ra_M := (⟨"BathWaterModel", "isSignHere", "(I)Z"⟩, cbP 1537, 2, (Option.some Jvm.ClassFile.FieldType.boolean), 1, 9)
def mt_217 : ra_M := (⟨"BathWaterModel", "wordHere", "()I"⟩, cbP 1541, 1, (Option.some Jvm.ClassFile.FieldType.int), 0, 9)
def mt_218 : ra_M := (⟨"BathWaterModel", "emit", "(II)V"⟩, cbP 1545, 3, (Option.none : Option Jvm.ClassFile.FieldType), 2, 9)
def mt_219 : ra_M := (⟨"BathWaterModel", "behindUnit", "()Z"⟩, cbP 1549, 2, (Option.some Jvm.ClassFile.FieldType.boolean), 0, 9)
def mt_220 : ra_M := (⟨"BathWaterModel", "rankHere", "()I"⟩, cbP 1553, 1, (Option.some Jvm.ClassFile.FieldType.int), 0, 9)
def mt_221 : ra_M := (⟨"BathWaterModel", "isCompared", "()Z"⟩, cbP 1557, 2, (Option.some Jvm.ClassFile.FieldType.boolean), 0, 9)
def mt_222 : ra_M := (⟨"BathWaterModel", "fault", "(I)I"⟩, cbP 1561, 2, (Option.some Jvm.ClassFile.FieldType.int), 1, 9)
def mt_223 : ra_M := (⟨"BathWaterModel", "spot", "(II)I"⟩, cbP 1565, 3, (Option.some Jvm.ClassFile.FieldType.int), 2, 9)
def mt_224 : ra_M := (⟨"BathWaterModel", "isSpot", "(I)Z"⟩, cbP 1569, 2, (Option.some Jvm.ClassFile.FieldType.boolean), 1, 9)
def mt_225 : ra_M := (⟨"BathWaterModel", "spots", "()I"⟩, cbP 1573, 1, (Option.some Jvm.ClassFile.FieldType.int), 0, 9)
def mt_226 : ra_M := (⟨"BathWaterModel", "isIn", "(III)Z"⟩, cbP 1576, 3, (Option.some Jvm.ClassFile.FieldType.boolean), 3, 9)
def mt_227 : ra_M := (⟨"BathWaterModel", "preferred", "(I)I"⟩, cbP 1580, 6, (Option.some Jvm.ClassFile.FieldType.int), 1, 9)
def mt_228 : ra_M := (⟨"BathWaterModel", "isInBath", "(I)Z"⟩, cbP 1584, 2, (Option.some Jvm.ClassFile.FieldType.boolean), 1, 9)
def mt_229 : ra_M := (⟨"BathWaterModel", "likingOf", "(II)I"⟩, cbP 1588, 3, (Option.some Jvm.ClassFile.FieldType.int), 2, 9)
def mt_230 : ra_M := (⟨"BathWaterModel", "comes", "()I"⟩, cbP 1592, 4, (Option.some Jvm.ClassFile.FieldType.int), 0, 9)
def mt_231 : ra_M := (⟨"BathWaterModel", "asked", "(II)I"⟩, cbP 1596, 3, (Option.some Jvm.ClassFile.FieldType.int), 2, 9)
def mt_232 : ra_M := (⟨"BathWaterModel", "two", "(III)I"⟩, cbP 1599, 3, (Option.some Jvm.ClassFile.FieldType.int), 3, 9)
def mt_233 : ra_M := (⟨"BathWaterModel", "standingAt", "(I)I"⟩, cbP 1603, 4, (Option.some Jvm.ClassFile.FieldType.int), 1, 9)
def mt_234 : ra_M := (⟨"BathWaterModel", "swimmer", "(II)I"⟩, cbP 1607, 3, (Option.some Jvm.ClassFile.FieldType.int), 2, 9)
def mt_235 : ra_M := (⟨"BathWaterModel", "isSwimmer", "(I)Z"⟩, cbP 1611, 2, (Option.some Jvm.ClassFile.FieldType.boolean), 1, 9)
def mt_236 : ra_M := (⟨"BathWaterModel", "preferring", "(I)I"⟩, cbP 1615, 4, (Option.some Jvm.ClassFile.FieldType.int), 1, 9)
def mt_237 : ra_M := (⟨"BathWaterModel", "liking", "(II)I"⟩, cbP 1619, 3, (Option.some Jvm.ClassFile.FieldType.int), 2, 9)
def mt_238 : ra_M := (⟨"BathWaterModel", "drawn", "()I"⟩, cbP 1624, 1, (Option.some Jvm.ClassFile.FieldType.int), 0, 9)
def mt_239 : ra_M := (⟨"BathWaterModel", "between", "(II)I"⟩, cbP 1628, 5, (Option.some Jvm.ClassFile.FieldType.int), 2, 9)
def mt_240 : ra_M := (⟨"BathWaterModel", "spread", "()I"⟩, cbP 1632, 3, (Option.some Jvm.ClassFile.FieldType.int), 0, 9)
def mt_241 : ra_M := (⟨"BathWaterModel", "deepest", "()I"⟩, cbP 1636, 3, (Option.some Jvm.ClassFile.FieldType.int), 0, 9)
def mt_242 : ra_M := (⟨"BathWaterModel", "darling", "()I"⟩, cbP 1640, 3, (Option.some Jvm.ClassFile.FieldType.int), 0, 9)
def mt_243 : ra_M := (⟨"BathWaterModel", "step", "()I"⟩, cbP 1644, 1, (Option.some Jvm.ClassFile.FieldType.int), 0, 9)
def mt_244 : ra_M := (⟨"BathWaterModel", "keepAct", "()V"⟩, cbP 1648, 2, (Option.none : Option Jvm.ClassFile.FieldType), 0, 9)
def mt_245 : ra_M := (⟨"BathWaterModel", "goInEarnest", "()I"⟩, cbP 1652, 1, (Option.some Jvm.ClassFile.FieldType.int), 0, 9)
def mt_246 : ra_M := (⟨"BathWaterModel", "goStep", "(Z)I"⟩, cbP 1656, 7, (Option.some Jvm.ClassFile.FieldType.int), 1, 9)
def mt_247 : ra_M := (⟨"BathWaterModel", "stand", "(II)I"⟩, cbP 1660, 4, (Option.some Jvm.ClassFile.FieldType.int), 2, 9)
def mt_248 : ra_M := (⟨"BathWaterModel", "leave", "(I)I"⟩, cbP 1664, 3, (Option.some Jvm.ClassFile.FieldType.int), 1, 9)
def mt_249 : ra_M := (⟨"BathWaterModel", "pour", "(II)I"⟩, cbP 1668, 3, (Option.some Jvm.ClassFile.FieldType.int), 2, 9)
def mt_250 : ra_M := (⟨"BathWaterModel", "drain", "(II)I"⟩, cbP 1672, 3, (Option.some Jvm.ClassFile.FieldType.int), 2, 9)
def mt_251 : ra_M := (⟨"BathWaterModel", "teach", "(II)I"⟩, cbP 1676, 4, (Option.some Jvm.ClassFile.FieldType.int), 2, 9)
def mt_252 : ra_M := (⟨"BathWaterModel", "undo", "()Z"⟩, cbP 1680, 1, (Option.some Jvm.ClassFile.FieldType.boolean), 0, 9)
def mt_253 : ra_M := (⟨"BathWaterModel", "swapAll", "()V"⟩, cbP 1684, 3, (Option.none : Option Jvm.ClassFile.FieldType), 0, 9)
def mt_254 : ra_M := (⟨"BathWaterModel", "redo", "()Z"⟩, cbP 1688, 1, (Option.some Jvm.ClassFile.FieldType.boolean), 0, 9)
def mt_255 : ra_M := (⟨"BathWaterModel", "lies", "(I)I"⟩, cbP 1692, 2, (Option.some Jvm.ClassFile.FieldType.int), 1, 9)
def mt_256 : ra_M := (⟨"BathWaterModel", "will", "(III)I"⟩, cbP 1696, 6, (Option.some Jvm.ClassFile.FieldType.int), 3, 9)
def mt_257 : ra_M := (⟨"BathWaterModel", "isAhead", "(I)Z"⟩, cbP 1699, 1, (Option.some Jvm.ClassFile.FieldType.boolean), 1, 9)
def mt_258 : ra_M := (⟨"BathWaterModel", "keepNow", "()V"⟩, cbP 1703, 2, (Option.none : Option Jvm.ClassFile.FieldType), 0, 9)
def mt_259 : ra_M := (⟨"BathWaterModel", "bringBack", "()V"⟩, cbP 1707, 2, (Option.none : Option Jvm.ClassFile.FieldType), 0, 9)
def mt_260 : ra_M := (⟨"BathWaterModel", "swims", "(II)I"⟩, cbP 1711, 4, (Option.some Jvm.ClassFile.FieldType.int), 2, 9)
def mt_261 : ra_M := (⟨"BathWaterModel", "oftenNow", "(I)I"⟩, cbP 1715, 2, (Option.some Jvm.ClassFile.FieldType.int), 1, 9)
def mt_262 : ra_M := (⟨"BathWaterModel", "oftenIn", "(I)I"⟩, cbP 1719, 4, (Option.some Jvm.ClassFile.FieldType.int), 1, 9)
def mt_263 : ra_M := (⟨"BathWaterModel", "goSteps", "(I)V"⟩, cbP 1723, 5, (Option.none : Option Jvm.ClassFile.FieldType), 1, 9)
def mt_264 : ra_M := (⟨"BathWaterModel", "still", "()I"⟩, cbP 1727, 3, (Option.some Jvm.ClassFile.FieldType.int), 0, 9)
def mt_265 : ra_M := (⟨"BathWaterModel", "flood", "(II)I"⟩, cbP 1731, 6, (Option.some Jvm.ClassFile.FieldType.int), 2, 9)
def mt_266 : ra_M := (⟨"BathWaterModel", "tide", "(II)I"⟩, cbP 1735, 6, (Option.some Jvm.ClassFile.FieldType.int), 2, 9)
def mt_267 : ra_M := (⟨"BathWaterModel", "dry", "(I)I"⟩, cbP 1739, 5, (Option.some Jvm.ClassFile.FieldType.int), 1, 9)
def mt_268 : ra_M := (⟨"BathWaterModel", "leader", "(I)I"⟩, cbP 1743, 5, (Option.some Jvm.ClassFile.FieldType.int), 1, 9)
def mt_269 : ra_M := (⟨"BathWaterModel", "race", "(II)I"⟩, cbP 1747, 6, (Option.some Jvm.ClassFile.FieldType.int), 2, 9)
def mt_270 : ra_M := (⟨"BathWaterModel", "lure", "(III)I"⟩, cbP 1751, 6, (Option.some Jvm.ClassFile.FieldType.int), 3, 9)
def mt_271 : ra_M := (⟨"BathWaterModel", "waterAt", "(III)I"⟩, cbP 1755, 6, (Option.some Jvm.ClassFile.FieldType.int), 3, 9)
def mt_272 : ra_M := (⟨"BathWaterModel", "both", "(IIII)I"⟩, cbP 1759, 10, (Option.some Jvm.ClassFile.FieldType.int), 4, 9)
def mt_273 : ra_M := (⟨"BathWaterModel", "exchange", "(II)I"⟩, cbP 1763, 9, (Option.some Jvm.ClassFile.FieldType.int), 2, 9)
def mt_274 : ra_M := (⟨"BathWaterModel", "orders", "(I)I"⟩, cbP 1767, 6, (Option.some Jvm.ClassFile.FieldType.int), 1, 9)
def mt_275 : ra_M := (⟨"BathWaterModel", "power", "(II)I"⟩, cbP 1770, 4, (Option.some Jvm.ClassFile.FieldType.int), 2, 9)
def mt_276 : ra_M := (⟨"BathWaterModel", "oftenBy", "(II)I"⟩, cbP 1774, 6, (Option.some Jvm.ClassFile.FieldType.int), 2, 9)
def mt_277 : ra_M := (⟨"BathWaterModel", "court", "(II)I"⟩, cbP 1778, 6, (Option.some Jvm.ClassFile.FieldType.int), 2, 9)
def mt_278 : ra_M := (⟨"BathWaterModel", "earn", "(III)I"⟩, cbP 1782, 6, (Option.some Jvm.ClassFile.FieldType.int), 3, 9)
def mt_279 : ra_M := (⟨"BathWaterModel", "law", "(II)I"⟩, cbP 1786, 4, (Option.some Jvm.ClassFile.FieldType.int), 2, 9)
def mt_280 : ra_M := (⟨"BathWaterModel", "duel", "(III)I"⟩, cbP 1790, 6, (Option.some Jvm.ClassFile.FieldType.int), 3, 9)
def mt_281 : ra_M := (⟨"BathWaterModel", "layWet", "(III)V"⟩, cbP 1794, 7, (Option.none : Option Jvm.ClassFile.FieldType), 3, 9)
def mt_282 : ra_M := (⟨"BathWaterModel", "capped", "(I)I"⟩, cbP 1797, 1, (Option.some Jvm.ClassFile.FieldType.int), 1, 9)
def mt_283 : ra_M := (⟨"BathWaterModel", "isRest", "(I)Z"⟩, cbP 1801, 3, (Option.some Jvm.ClassFile.FieldType.boolean), 1, 9)
def mt_284 : ra_M := (⟨"BathWaterModel", "loss", "(II)I"⟩, cbP 1805, 4, (Option.some Jvm.ClassFile.FieldType.int), 2, 9)
def mt_285 : ra_M := (⟨"BathWaterModel", "alone", "(II)I"⟩, cbP 1810, 3, (Option.some Jvm.ClassFile.FieldType.int), 2, 9)
def mt_286 : ra_M := (⟨"BathWaterModel", "oftenWithout", "(II)I"⟩, cbP 1814, 4, (Option.some Jvm.ClassFile.FieldType.int), 2, 9)
def mt_287 : ra_M := (⟨"BathWaterModel", "thin", "(II)I"⟩, cbP 1818, 5, (Option.some Jvm.ClassFile.FieldType.int), 2, 9)
def mt_288 : ra_M := (⟨"BathWaterModel", "inBath", "()I"⟩, cbP 1822, 3, (Option.some Jvm.ClassFile.FieldType.int), 0, 9)
def mt_289 : ra_M := (⟨"BathWaterModel", "doAllSwim", "(II)Z"⟩, cbP 1826, 5, (Option.some Jvm.ClassFile.FieldType.boolean), 2, 9)
def mt_290 : ra_M := (⟨"BathWaterModel", "plug", "(II)I"⟩, cbP 1830, 7, (Option.some Jvm.ClassFile.FieldType.int), 2, 9)
def mt_291 : ra_M := (⟨"BathWaterModel", "oftenWith", "(III)I"⟩, cbP 1834, 4, (Option.some Jvm.ClassFile.FieldType.int), 3, 9)
def mt_292 : ra_M := (⟨"BathWaterModel", "fill", "(III)I"⟩, cbP 1838, 8, (Option.some Jvm.ClassFile.FieldType.int), 3, 9)
def mt_293 : ra_M := (⟨"BathWaterModel", "odds", "(II)I"⟩, cbP 1842, 5, (Option.some Jvm.ClassFile.FieldType.int), 2, 9)
def mt_294 : ra_M := (⟨"BathWaterModel", "divisor", "(II)I"⟩, cbP 1845, 5, (Option.some Jvm.ClassFile.FieldType.int), 2, 9)
def mt_295 : ra_M := (⟨"BathWaterModel", "damp", "(IIIZ)I"⟩, cbP 1849, 5, (Option.some Jvm.ClassFile.FieldType.int), 4, 9)
def mt_296 : ra_M := (⟨"BathWaterModel", "untell", "(I)Z"⟩, cbP 1853, 2, (Option.some Jvm.ClassFile.FieldType.boolean), 1, 9)
def mt_297 : ra_M := (⟨"BathWaterModel", "later", "(I)I"⟩, cbP 1857, 2, (Option.some Jvm.ClassFile.FieldType.int), 1, 9)
def mt_298 : ra_M := (⟨"BathWaterModel", "fits", "(I)I"⟩, cbP 1862, 4, (Option.some Jvm.ClassFile.FieldType.int), 1, 9)
def mt_299 : ra_M := (⟨"BathWaterModel", "layWaters", "()V"⟩, cbP 1866, 4, (Option.none : Option Jvm.ClassFile.FieldType), 0, 9)
def mt_300 : ra_M := (⟨"BathWaterModel", "doesFit", "(II)Z"⟩, cbP 1870, 5, (Option.some Jvm.ClassFile.FieldType.boolean), 2, 9)
def mt_301 : ra_M := (⟨"BathWaterModel", "sure", "(II)I"⟩, cbP 1874, 4, (Option.some Jvm.ClassFile.FieldType.int), 2, 9)
def mt_302 : ra_M := (⟨"BathWaterModel", "ask", "(III)I"⟩, cbP 1879, 6, (Option.some Jvm.ClassFile.FieldType.int), 3, 9)
def mt_303 : ra_M := (⟨"BathWaterModel", "mostAt", "(III)I"⟩, cbP 1883, 7, (Option.some Jvm.ClassFile.FieldType.int), 3, 9)
def mt_304 : ra_M := (⟨"BathWaterModel", "image", "(I)I"⟩, cbP 1887, 3, (Option.some Jvm.ClassFile.FieldType.int), 1, 9)
def mt_305 : ra_M := (⟨"BathWaterModel", "back", "(I)I"⟩, cbP 1891, 3, (Option.some Jvm.ClassFile.FieldType.int), 1, 9)
def mt_306 : ra_M := (⟨"BathWaterModel", "about", "(I)I"⟩, cbP 1895, 2, (Option.some Jvm.ClassFile.FieldType.int), 1, 9)
def mt_307 : ra_M := (⟨"BathWaterModel", "allWater", "()I"⟩, cbP 1899, 3, (Option.some Jvm.ClassFile.FieldType.int), 0, 9)
def mt_308 : ra_M := (⟨"BathWaterModel", "feed", "(IIIII)I"⟩, cbP 1903, 8, (Option.some Jvm.ClassFile.FieldType.int), 5, 9)
def mt_309 : ra_M := (⟨"BathWaterModel", "end", "(I)I"⟩, cbP 1907, 2, (Option.some Jvm.ClassFile.FieldType.int), 1, 9)
def pMT_0 : List ra_M := [mt_0, mt_1, mt_2, mt_3, mt_4, mt_5, mt_6, mt_7, mt_8, mt_9, mt_10, mt_11, mt_12, mt_13, mt_14, mt_15, mt_16, mt_17, mt_18, mt_19, mt_20, mt_21, mt_22, mt_23, mt_24, mt_25, mt_26, mt_27, mt_28, mt_29, mt_30, mt_31, mt_32, mt_33, mt_34, mt_35, mt_36, mt_37, mt_38, mt_39]
def pMT_1 : List ra_M := [mt_40, mt_41, mt_42, mt_43, mt_44, mt_45, mt_46, mt_47, mt_48, mt_49, mt_50, mt_51, mt_52, mt_53, mt_54, mt_55, mt_56, mt_57, mt_58, mt_59, mt_60, mt_61, mt_62, mt_63, mt_64, mt_65, mt_66, mt_67, mt_68, mt_69, mt_70, mt_71, mt_72, mt_73, mt_74, mt_75, mt_76, mt_77, mt_78, mt_79]
def pMT_2 : List ra_M := [mt_80, mt_81, mt_82, mt_83, mt_84, mt_85, mt_86, mt_87, mt_88, mt_89, mt_90, mt_91, mt_92, mt_93, mt_94, mt_95, mt_96, mt_97, mt_98, mt_99, mt_100, mt_101, mt_102, mt_103, mt_104, mt_105, mt_106, mt_107, mt_108, mt_109, mt_110, mt_111, mt_112, mt_113, mt_114, mt_115, mt_116, mt_117, mt_118, mt_119]
def pMT_3 : List ra_M := [mt_120, mt_121, mt_122, mt_123, mt_124, mt_125, mt_126, mt_127, mt_128, mt_129, mt_130, mt_131, mt_132, mt_133, mt_134, mt_135, mt_136, mt_137, mt_138, mt_139, mt_140, mt_141, mt_142, mt_143, mt_144, mt_145, mt_146, mt_147, mt_148, mt_149, mt_150, mt_151, mt_152, mt_153, mt_154, mt_155, mt_156, mt_157, mt_158, mt_159]
def pMT_4 : List ra_M := [mt_160, mt_161, mt_162, mt_163, mt_164, mt_165, mt_166, mt_167, mt_168, mt_169, mt_170, mt_171, mt_172, mt_173, mt_174, mt_175, mt_176, mt_177, mt_178, mt_179, mt_180, mt_181, mt_182, mt_183, mt_184, mt_185, mt_186, mt_187, mt_188, mt_189, mt_190, mt_191, mt_192, mt_193, mt_194, mt_195, mt_196, mt_197, mt_198, mt_199]
def pMT_5 : List ra_M := [mt_200, mt_201, mt_202, mt_203, mt_204, mt_205, mt_206, mt_207, mt_208, mt_209, mt_210, mt_211, mt_212, mt_213, mt_214, mt_215, mt_216, mt_217, mt_218, mt_219, mt_220, mt_221, mt_222, mt_223, mt_224, mt_225, mt_226, mt_227, mt_228, mt_229, mt_230, mt_231, mt_232, mt_233, mt_234, mt_235, mt_236, mt_237, mt_238, mt_239]
def pMT_6 : List ra_M := [mt_240, mt_241, mt_242, mt_243, mt_244, mt_245, mt_246, mt_247, mt_248, mt_249, mt_250, mt_251, mt_252, mt_253, mt_254, mt_255, mt_256, mt_257, mt_258, mt_259, mt_260, mt_261, mt_262, mt_263, mt_264, mt_265, mt_266, mt_267, mt_268, mt_269, mt_270, mt_271, mt_272, mt_273, mt_274, mt_275, mt_276, mt_277, mt_278, mt_279]
def pMT_7 : List ra_M := [mt_280, mt_281, mt_282, mt_283, mt_284, mt_285, mt_286, mt_287, mt_288, mt_289, mt_290, mt_291, mt_292, mt_293, mt_294, mt_295, mt_296, mt_297, mt_298, mt_299, mt_300, mt_301, mt_302, mt_303, mt_304, mt_305, mt_306, mt_307, mt_308, mt_309]
def pMT : List ra_M := pMT_0 ++ (pMT_1 ++ (pMT_2 ++ (pMT_3 ++ (pMT_4 ++ (pMT_5 ++ (pMT_6 ++ (pMT_7)))))))
def pMTp : List Nat := [138, 146, 152, 177, 183, 188, 191, 231, 258, 263, 352, 376, 419, 510, 514, 518, 522, 526, 529, 533, 536, 540, 544, 547, 552, 556, 561, 564, 569, 572, 575, 578, 582, 592, 595, 599, 604, 608, 612, 616, 619, 622, 625, 629, 632, 638, 641, 644, 647, 650, 653, 656, 659, 663, 669, 673, 677, 681, 685, 689, 693, 697, 701, 705, 709, 713, 717, 721, 725, 729, 733, 737, 741, 745, 752, 756, 762, 766, 770, 774, 778, 782, 788, 792, 795, 799, 802, 805, 809, 813, 817, 821, 825, 829, 834, 839, 843, 847, 852, 856, 861, 865, 869, 873, 877, 880, 884, 888, 892, 896, 900, 904, 908, 911, 915, 919, 923, 928, 932, 937, 941, 945, 949, 953, 957, 962, 966, 971, 975, 979, 983, 987, 991, 996, 1000, 1004, 1007, 1011, 1015, 1020, 1024, 1028, 1032, 1036, 1040, 1044, 1048, 1052, 1056, 1059, 1066, 1070, 1074, 1078, 1084, 1088, 1092, 1096, 1100, 1104, 1108, 1112, 1116, 1119, 1123, 1127, 1131, 1135, 1139, 1143, 1148, 1152, 1156, 1160, 1164, 1169, 1173, 1177, 1181, 1186, 1190, 1195, 1199, 1203, 1207, 1212, 1217, 1221, 1225, 1229, 1423, 1427, 1431, 1434, 1437, 1456, 1459, 1463, 1467, 1471, 1475, 1478, 1481, 1485, 1489, 1493, 1497, 1501, 1505, 1509, 1513, 1517, 1521, 1525, 1529, 1533, 1537, 1541, 1545, 1549, 1553, 1557, 1561, 1565, 1569, 1573, 1576, 1580, 1584, 1588, 1592, 1596, 1599, 1603, 1607, 1611, 1615, 1619, 1624, 1628, 1632, 1636, 1640, 1644, 1648, 1652, 1656, 1660, 1664, 1668, 1672, 1676, 1680, 1684, 1688, 1692, 1696, 1699, 1703, 1707, 1711, 1715, 1719, 1723, 1727, 1731, 1735, 1739, 1743, 1747, 1751, 1755, 1759, 1763, 1767, 1770, 1774, 1778, 1782, 1786, 1790, 1794, 1797, 1801, 1805, 1810, 1814, 1818, 1822, 1826, 1830, 1834, 1838, 1842, 1845, 1849, 1853, 1857, 1862, 1866, 1870, 1874, 1879, 1883, 1887, 1891, 1895, 1899, 1903, 1907]
