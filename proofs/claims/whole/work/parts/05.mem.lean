/-! the memory: ints, references (0 none, r + 1 the cell r), kinds (0 none, class + 1, 21 int row, 22 boolean row, 23 row of references), lengths, how many cells -/
abbrev ps_M : Type := (Nat → Nat → Int32) × (Nat → Nat → Nat) × (Nat → Nat) × (Nat → Nat) × Nat
def ps_I (M : ps_M) : Nat → Nat → Int32 := M.1
def ps_R (M : ps_M) : Nat → Nat → Nat := M.2.1
def ps_K (M : ps_M) : Nat → Nat := M.2.2.1
def ps_L (M : ps_M) : Nat → Nat := M.2.2.2.1
def ps_N (M : ps_M) : Nat := M.2.2.2.2
def ps_uI (f : Nat → Nat → Int32) (a k : Nat) (v : Int32) : Nat → Nat → Int32 := fun x y => if x = a ∧ y = k then v else f x y
def ps_uR (f : Nat → Nat → Nat) (a k : Nat) (v : Nat) : Nat → Nat → Nat := fun x y => if x = a ∧ y = k then v else f x y
def ps_sI (M : ps_M) (a k : Nat) (v : Int32) : ps_M := (ps_uI (ps_I M) a k v, ps_R M, ps_K M, ps_L M, ps_N M)
def ps_sR (M : ps_M) (a k r : Nat) : ps_M := (ps_I M, ps_uR (ps_R M) a k r, ps_K M, ps_L M, ps_N M)
def ps_nw (M : ps_M) (kd len : Nat) : ps_M := (fun x y => if x = ps_N M then 0 else ps_I M x y, fun x y => if x = ps_N M then 0 else ps_R M x y, fun x => if x = ps_N M then kd else ps_K M x, fun x => if x = ps_N M then len else ps_L M x, ps_N M + 1)
def ps_nf (c : Nat) : Nat := [7, 3, 3, 7, 2, 10, 13, 12, 11, 35].getD c 0
def ps_rf (c k : Nat) : Bool := ([[5, 6], [0], [2], [0, 1], [0], [8, 9], [9, 10, 11, 12], [6, 7, 8, 9, 10, 11], [0, 1, 2, 3, 4, 5, 6, 7, 8, 9], [0, 1, 14, 15, 16, 17, 18, 19, 20, 27, 28, 29, 30, 31, 33]].getD c ([] : List Nat)).contains k
def ps_o (B r : Nat) : Option Nat := match r with
  | 0 => none
  | r + 1 => some (B + r)
def ps_fv (B : Nat) (M : ps_M) (c a k : Nat) : Value := if ps_rf c k = true then va_rf (ps_o B (ps_R M a k)) else .int (ps_I M a k)
abbrev ps_A : Type := ClassId × ClassId × ClassId
def ps_e (Y : ps_A) (B : Nat) (M : ps_M) (a : Nat) : va_E :=
  if ps_K M a = 21 then .inl (Y.1, ps_L M a, .inl (ps_I M a)) else if ps_K M a = 22 then .inl (Y.2.1, ps_L M a, .inl (ps_I M a)) else if ps_K M a = 23 then .inl (Y.2.2, ps_L M a, .inr (.inr (.inr (.inr (fun j => ps_o B (ps_R M a j)))))) else .inr (ps_K M a - 1, (List.range (ps_nf (ps_K M a - 1))).map (ps_fv B M (ps_K M a - 1) a))
def ps_W (D : va_G) (Y : ps_A) (B : Nat) (M : ps_M) (H : Heap) : Prop := H.size = B + ps_N M ∧ (∀ a, ps_N M ≤ a → ps_K M a = 0) ∧ ∀ a, a < ps_N M → va_at D vwCl (B + a, ps_e Y B M a) H
def ps_ty (Y : ps_A) : List (ClassId × FieldType) := [(Y.1, .int), (Y.2.1, .boolean), (Y.2.2, .object RX7)]
def ps_nl : List (String × Nat × MethodName × String) := [("PullSaw", 9, ⟨"PullSaw$Yard", "<init>", "()V"⟩, "PullSaw"), ("PullSaw", 18, ⟨"PullSaw$Reader", "<init>", "()V"⟩, "PullSaw"), ("PullSaw$Reader", 22, ⟨"PullSaw$Yard", "<init>", "()V"⟩, "PullSaw"), ("PullSaw", 25, ⟨"PullSaw$Work", "<init>", "()V"⟩, "PullSaw"), ("PullSaw$Past", 17, ⟨"PullSaw$Work", "<init>", "()V"⟩, "PullSaw"), ("PullSaw", 39, ⟨"PullSaw$Trial", "<init>", "()V"⟩, "PullSaw"), ("PullSaw$Trial", 11, ⟨"PullSaw$Work", "<init>", "()V"⟩, "PullSaw"), ("PullSaw", 46, ⟨"PullSaw$Balance", "<init>", "()V"⟩, "PullSaw"), ("PullSaw", 65, ⟨"PullSaw$Image", "<init>", "()V"⟩, "PullSaw"), ("PullSaw$Image", 9, ⟨"PullSaw$Work", "<init>", "()V"⟩, "PullSaw")]
def ps_nest (U : State) : Prop := ∀ q ∈ ps_nl, va_Nw (.methodLinkNest q.1 q.2.1 q.2.2.1 q.2.2.2) U
theorem ps_nest.warm {s U : State} (hW : s.WarmedH U.vm) (h : ps_nest s) : ps_nest U := fun q hq => va_Nw.warmM hW (h q hq)
theorem ps_nest.same {u U : State} (hv : u.vm = U.vm) (h : ps_nest u) : ps_nest U := fun q hq => va_Nw.same rfl hv (h q hq)
def ps_T (D : va_G) (Y : ps_A) (U : State) : Prop := va_K D vwCl (ps_ty Y) U ∧ ps_nest U ∧ va_AO RX7 U
theorem ps_T.warm {D : va_G} {Y : ps_A} {s U : State} (hW : s.WarmedH U.vm) (h : ps_T D Y s) : ps_T D Y U := ⟨va_K.moved hW.alike h.1, h.2.1.warm hW, va_AO.moved hW.alike h.2.2⟩
def ps_St (D : va_G) (Y : ps_A) (B : Nat) (M : ps_M) (U : State) : Prop := ps_W D Y B M U.heap ∧ ps_T D Y U
/-- what holds all through a method -/
def ps_C (p : Program) (s : State) (m : MethodId) (args : Array Value) (meth : Method) (c : Code) (cc : ByteArray) (nL : Nat) (own : String) (rt : Option FieldType) (nm : String) (D : va_G) (Y : ps_A) (B : Nat) : Prop :=
  p.tables.exec = Jvm.exec ∧ c.code = cc ∧ c.maxLocals = nL ∧ s.vm.findClass own = some m.cls ∧ (∀ w ∈ tb_G, w.before args s = true) ∧ ps_T D Y s ∧ meth.locks = false ∧ B ≤ s.heap.size ∧ meth.sig.returnType = rt ∧ meth.name = nm
/-- what is known of a class whose objects there are -/
def ps_cl (ci : Nat) (C' : String) (T : u_T) (N : Nat) (ty : Nat → FieldType) : Prop := vwCl[ci]? = some (C', T, N) ∧ ci < 20 ∧ (∀ w ∈ u_ws C' T N, w ∈ tb_G) ∧ ps_nf ci = N ∧ (∀ k, k < N → (T k).1 = C') ∧ (∀ k, k < N → parseFieldDescriptor (T k).2.2.1 = some (ty k)) ∧ (∀ a, a < N → ∀ b, b < N → a ≠ b → (T a).2.1 ≠ (T b).2.1) ∧ (∀ k, k < N → defaultValue (ty k) = if ps_rf ci k = true then .null else .int 0)
theorem ci_0 : ∀ w ∈ u_ws RX0 TX0 7, w ∈ tb_G := by
  show ∀ w ∈ ([.lays "PullSaw$Balance" "PullSaw$Balance" "fewest" "I", .lays "PullSaw$Balance" "PullSaw$Balance" "latestFirst" "I", .lays "PullSaw$Balance" "PullSaw$Balance" "askew" "I", .lays "PullSaw$Balance" "PullSaw$Balance" "lean" "I", .lays "PullSaw$Balance" "PullSaw$Balance" "most" "I", .lays "PullSaw$Balance" "PullSaw$Balance" "costs" "[I", .lays "PullSaw$Balance" "PullSaw$Balance" "laterCosts" "[I"] : List Cond), w ∈ tb_G
  exact List.forall_mem_cons.mpr ⟨tq_360, List.forall_mem_cons.mpr ⟨tq_362, List.forall_mem_cons.mpr ⟨tq_364, List.forall_mem_cons.mpr ⟨tq_366, List.forall_mem_cons.mpr ⟨tq_368, List.forall_mem_cons.mpr ⟨tq_370, List.forall_mem_cons.mpr ⟨tq_372, fun _ h => absurd h List.not_mem_nil⟩⟩⟩⟩⟩⟩⟩
theorem pc_0 : ps_cl 0 RX0 TX0 7 tyX0 := ⟨rfl, by decide, ci_0, rfl, by decide +kernel, tyX0_ok, nmX0, by decide +kernel⟩
theorem ci_1 : ∀ w ∈ u_ws RX1 TX1 3, w ∈ tb_G := by
  show ∀ w ∈ ([.laysFinal "PullSaw$Image" "PullSaw$Image" "work" "LPullSaw$Work;", .lays "PullSaw$Image" "PullSaw$Image" "seed" "I", .lays "PullSaw$Image" "PullSaw$Image" "kept" "Z"] : List Cond), w ∈ tb_G
  exact List.forall_mem_cons.mpr ⟨tq_389, List.forall_mem_cons.mpr ⟨tq_391, List.forall_mem_cons.mpr ⟨tq_393, fun _ h => absurd h List.not_mem_nil⟩⟩⟩
theorem pc_1 : ps_cl 1 RX1 TX1 3 tyX1 := ⟨rfl, by decide, ci_1, rfl, by decide +kernel, tyX1_ok, nmX1, by decide +kernel⟩
theorem ci_2 : ∀ w ∈ u_ws RX2 TX2 3, w ∈ tb_G := by
  show ∀ w ∈ ([.lays "PullSaw$Past" "PullSaw$Past" "count" "I", .lays "PullSaw$Past" "PullSaw$Past" "top" "I", .laysFinal "PullSaw$Past" "PullSaw$Past" "ring" "[LPullSaw$Work;"] : List Cond), w ∈ tb_G
  exact List.forall_mem_cons.mpr ⟨tq_295, List.forall_mem_cons.mpr ⟨tq_297, List.forall_mem_cons.mpr ⟨tq_299, fun _ h => absurd h List.not_mem_nil⟩⟩⟩
theorem pc_2 : ps_cl 2 RX2 TX2 3 tyX2 := ⟨rfl, by decide, ci_2, rfl, by decide +kernel, tyX2_ok, nmX2, by decide +kernel⟩
theorem ci_3 : ∀ w ∈ u_ws RX3 TX3 7, w ∈ tb_G := by
  show ∀ w ∈ ([.laysFinal "PullSaw$Reader" "PullSaw$Reader" "text" "LPullSaw$Sheet;", .laysFinal "PullSaw$Reader" "PullSaw$Reader" "draft" "LPullSaw$Yard;", .lays "PullSaw$Reader" "PullSaw$Reader" "faultKind" "I", .lays "PullSaw$Reader" "PullSaw$Reader" "faultPlace" "I", .lays "PullSaw$Reader" "PullSaw$Reader" "place" "I", .lays "PullSaw$Reader" "PullSaw$Reader" "sawTold" "Z", .lays "PullSaw$Reader" "PullSaw$Reader" "closeTold" "Z"] : List Cond), w ∈ tb_G
  exact List.forall_mem_cons.mpr ⟨tq_199, List.forall_mem_cons.mpr ⟨tq_201, List.forall_mem_cons.mpr ⟨tq_203, List.forall_mem_cons.mpr ⟨tq_205, List.forall_mem_cons.mpr ⟨tq_207, List.forall_mem_cons.mpr ⟨tq_209, List.forall_mem_cons.mpr ⟨tq_211, fun _ h => absurd h List.not_mem_nil⟩⟩⟩⟩⟩⟩⟩
theorem pc_3 : ps_cl 3 RX3 TX3 7 tyX3 := ⟨rfl, by decide, ci_3, rfl, by decide +kernel, tyX3_ok, nmX3, by decide +kernel⟩
theorem ci_4 : ∀ w ∈ u_ws RX5 TX5 2, w ∈ tb_G := by
  show ∀ w ∈ ([.laysFinal "PullSaw$Sheet" "PullSaw$Sheet" "marks" "[I", .lays "PullSaw$Sheet" "PullSaw$Sheet" "count" "I"] : List Cond), w ∈ tb_G
  exact List.forall_mem_cons.mpr ⟨tq_181, List.forall_mem_cons.mpr ⟨tq_183, fun _ h => absurd h List.not_mem_nil⟩⟩
theorem pc_4 : ps_cl 4 RX5 TX5 2 tyX5 := ⟨rfl, by decide, ci_4, rfl, by decide +kernel, tyX5_ok, nmX5, by decide +kernel⟩
theorem ci_5 : ∀ w ∈ u_ws RX6 TX6 10, w ∈ tb_G := by
  show ∀ w ∈ ([.lays "PullSaw$Trial" "PullSaw$Trial" "fewest" "I", .lays "PullSaw$Trial" "PullSaw$Trial" "firstWish" "I", .lays "PullSaw$Trial" "PullSaw$Trial" "otherWish" "I", .lays "PullSaw$Trial" "PullSaw$Trial" "deepest" "I", .lays "PullSaw$Trial" "PullSaw$Trial" "leftTired" "I", .lays "PullSaw$Trial" "PullSaw$Trial" "rightTired" "I", .lays "PullSaw$Trial" "PullSaw$Trial" "leftAnswer" "I", .lays "PullSaw$Trial" "PullSaw$Trial" "rightAnswer" "I", .laysFinal "PullSaw$Trial" "PullSaw$Trial" "tried" "LPullSaw$Work;", .laysFinal "PullSaw$Trial" "PullSaw$Trial" "further" "LPullSaw$Work;"] : List Cond), w ∈ tb_G
  exact List.forall_mem_cons.mpr ⟨tq_324, List.forall_mem_cons.mpr ⟨tq_326, List.forall_mem_cons.mpr ⟨tq_328, List.forall_mem_cons.mpr ⟨tq_330, List.forall_mem_cons.mpr ⟨tq_332, List.forall_mem_cons.mpr ⟨tq_334, List.forall_mem_cons.mpr ⟨tq_336, List.forall_mem_cons.mpr ⟨tq_338, List.forall_mem_cons.mpr ⟨tq_340, List.forall_mem_cons.mpr ⟨tq_342, fun _ h => absurd h List.not_mem_nil⟩⟩⟩⟩⟩⟩⟩⟩⟩⟩
theorem pc_5 : ps_cl 5 RX6 TX6 10 tyX6 := ⟨rfl, by decide, ci_5, rfl, by decide +kernel, tyX6_ok, nmX6, by decide +kernel⟩
theorem ci_6 : ∀ w ∈ u_ws RX7 TX7 13, w ∈ tb_G := by
  show ∀ w ∈ ([.lays "PullSaw$Work" "PullSaw$Work" "left" "I", .lays "PullSaw$Work" "PullSaw$Work" "right" "I", .lays "PullSaw$Work" "PullSaw$Work" "next" "I", .lays "PullSaw$Work" "PullSaw$Work" "depth" "I", .lays "PullSaw$Work" "PullSaw$Work" "strokes" "I", .lays "PullSaw$Work" "PullSaw$Work" "askew" "I", .lays "PullSaw$Work" "PullSaw$Work" "gum" "I", .lays "PullSaw$Work" "PullSaw$Work" "teeth" "I", .lays "PullSaw$Work" "PullSaw$Work" "wedged" "Z", .laysFinal "PullSaw$Work" "PullSaw$Work" "wishes" "[I", .laysFinal "PullSaw$Work" "PullSaw$Work" "habits" "[I", .laysFinal "PullSaw$Work" "PullSaw$Work" "tired" "[I", .laysFinal "PullSaw$Work" "PullSaw$Work" "answers" "[I"] : List Cond), w ∈ tb_G
  exact List.forall_mem_cons.mpr ⟨tq_255, List.forall_mem_cons.mpr ⟨tq_257, List.forall_mem_cons.mpr ⟨tq_259, List.forall_mem_cons.mpr ⟨tq_261, List.forall_mem_cons.mpr ⟨tq_263, List.forall_mem_cons.mpr ⟨tq_265, List.forall_mem_cons.mpr ⟨tq_267, List.forall_mem_cons.mpr ⟨tq_269, List.forall_mem_cons.mpr ⟨tq_271, List.forall_mem_cons.mpr ⟨tq_273, List.forall_mem_cons.mpr ⟨tq_275, List.forall_mem_cons.mpr ⟨tq_277, List.forall_mem_cons.mpr ⟨tq_279, fun _ h => absurd h List.not_mem_nil⟩⟩⟩⟩⟩⟩⟩⟩⟩⟩⟩⟩⟩
theorem pc_6 : ps_cl 6 RX7 TX7 13 tyX7 := ⟨rfl, by decide, ci_6, rfl, by decide +kernel, tyX7_ok, nmX7, by decide +kernel⟩
theorem ci_7 : ∀ w ∈ u_ws RX8 TX8 12, w ∈ tb_G := by
  show ∀ w ∈ ([.lays "PullSaw$Yard" "PullSaw$Yard" "layers" "I", .lays "PullSaw$Yard" "PullSaw$Yard" "people" "I", .lays "PullSaw$Yard" "PullSaw$Yard" "teeth" "I", .lays "PullSaw$Yard" "PullSaw$Yard" "limit" "I", .lays "PullSaw$Yard" "PullSaw$Yard" "resin" "I", .lays "PullSaw$Yard" "PullSaw$Yard" "closes" "I", .laysFinal "PullSaw$Yard" "PullSaw$Yard" "woods" "[I", .laysFinal "PullSaw$Yard" "PullSaw$Yard" "forces" "[I", .laysFinal "PullSaw$Yard" "PullSaw$Yard" "heights" "[I", .laysFinal "PullSaw$Yard" "PullSaw$Yard" "tires" "[I", .laysFinal "PullSaw$Yard" "PullSaw$Yard" "firstHabits" "[I", .laysFinal "PullSaw$Yard" "PullSaw$Yard" "bents" "[I"] : List Cond), w ∈ tb_G
  exact List.forall_mem_cons.mpr ⟨tq_135, List.forall_mem_cons.mpr ⟨tq_137, List.forall_mem_cons.mpr ⟨tq_139, List.forall_mem_cons.mpr ⟨tq_141, List.forall_mem_cons.mpr ⟨tq_143, List.forall_mem_cons.mpr ⟨tq_145, List.forall_mem_cons.mpr ⟨tq_147, List.forall_mem_cons.mpr ⟨tq_149, List.forall_mem_cons.mpr ⟨tq_151, List.forall_mem_cons.mpr ⟨tq_153, List.forall_mem_cons.mpr ⟨tq_155, List.forall_mem_cons.mpr ⟨tq_157, fun _ h => absurd h List.not_mem_nil⟩⟩⟩⟩⟩⟩⟩⟩⟩⟩⟩⟩
theorem pc_7 : ps_cl 7 RX8 TX8 12 tyX8 := ⟨rfl, by decide, ci_7, rfl, by decide +kernel, tyX8_ok, nmX8, by decide +kernel⟩
theorem ci_8 : ∀ w ∈ u_ws RX9 TX9 11, w ∈ tb_G := by
  show ∀ w ∈ ([.laysFinal "PullSaw" "PullSaw" "yard" "LPullSaw$Yard;", .laysFinal "PullSaw" "PullSaw" "reader" "LPullSaw$Reader;", .laysFinal "PullSaw" "PullSaw" "now" "LPullSaw$Work;", .laysFinal "PullSaw" "PullSaw" "past" "LPullSaw$Past;", .laysFinal "PullSaw" "PullSaw" "trial" "LPullSaw$Trial;", .laysFinal "PullSaw" "PullSaw" "balance" "LPullSaw$Balance;", .laysFinal "PullSaw" "PullSaw" "seen" "LPullSaw$Sheet;", .laysFinal "PullSaw" "PullSaw" "book" "LPullSaw$Sheet;", .laysFinal "PullSaw" "PullSaw" "first" "LPullSaw$Image;", .laysFinal "PullSaw" "PullSaw" "second" "LPullSaw$Image;", .lays "PullSaw" "PullSaw" "seed" "I"] : List Cond), w ∈ tb_G
  exact List.forall_mem_cons.mpr ⟨tq_407, List.forall_mem_cons.mpr ⟨tq_409, List.forall_mem_cons.mpr ⟨tq_411, List.forall_mem_cons.mpr ⟨tq_413, List.forall_mem_cons.mpr ⟨tq_415, List.forall_mem_cons.mpr ⟨tq_417, List.forall_mem_cons.mpr ⟨tq_419, List.forall_mem_cons.mpr ⟨tq_421, List.forall_mem_cons.mpr ⟨tq_423, List.forall_mem_cons.mpr ⟨tq_425, List.forall_mem_cons.mpr ⟨tq_427, fun _ h => absurd h List.not_mem_nil⟩⟩⟩⟩⟩⟩⟩⟩⟩⟩⟩
theorem pc_8 : ps_cl 8 RX9 TX9 11 tyX9 := ⟨rfl, by decide, ci_8, rfl, by decide +kernel, tyX9_ok, nmX9, by decide +kernel⟩
theorem ci_9 : ∀ w ∈ u_ws RX10 TX10 35, w ∈ tb_G := by
  show ∀ w ∈ ([.laysFinal "PullSawModel" "PullSawModel" "w" "[I", .laysFinal "PullSawModel" "PullSawModel" "isKept" "[Z", .lays "PullSawModel" "PullSawModel" "layers" "I", .lays "PullSawModel" "PullSawModel" "people" "I", .lays "PullSawModel" "PullSawModel" "limit" "I", .lays "PullSawModel" "PullSawModel" "resin" "I", .lays "PullSawModel" "PullSawModel" "closes" "I", .lays "PullSawModel" "PullSawModel" "newLayers" "I", .lays "PullSawModel" "PullSawModel" "newPeople" "I", .lays "PullSawModel" "PullSawModel" "newTeeth" "I", .lays "PullSawModel" "PullSawModel" "newLimit" "I", .lays "PullSawModel" "PullSawModel" "newResin" "I", .lays "PullSawModel" "PullSawModel" "newCloses" "I", .lays "PullSawModel" "PullSawModel" "told" "I", .laysFinal "PullSawModel" "PullSawModel" "wood" "[I", .laysFinal "PullSawModel" "PullSawModel" "force" "[I", .laysFinal "PullSawModel" "PullSawModel" "height" "[I", .laysFinal "PullSawModel" "PullSawModel" "tires" "[I", .laysFinal "PullSawModel" "PullSawModel" "habit" "[I", .laysFinal "PullSawModel" "PullSawModel" "bent" "[I", .laysFinal "PullSawModel" "PullSawModel" "text" "[I", .lays "PullSawModel" "PullSawModel" "textSize" "I", .lays "PullSawModel" "PullSawModel" "at" "I", .lays "PullSawModel" "PullSawModel" "first" "I", .lays "PullSawModel" "PullSawModel" "faultOf" "I", .lays "PullSawModel" "PullSawModel" "fault" "I", .lays "PullSawModel" "PullSawModel" "undoMany" "I", .laysFinal "PullSawModel" "PullSawModel" "change" "[I", .laysFinal "PullSawModel" "PullSawModel" "changeThen" "[I", .laysFinal "PullSawModel" "PullSawModel" "late" "[I", .laysFinal "PullSawModel" "PullSawModel" "lateThen" "[I", .laysFinal "PullSawModel" "PullSawModel" "seen" "[I", .lays "PullSawModel" "PullSawModel" "seenMany" "I", .laysFinal "PullSawModel" "PullSawModel" "book" "[I", .lays "PullSawModel" "PullSawModel" "written" "I"] : List Cond), w ∈ tb_G
  exact List.forall_mem_cons.mpr ⟨tq_953, List.forall_mem_cons.mpr ⟨tq_955, List.forall_mem_cons.mpr ⟨tq_957, List.forall_mem_cons.mpr ⟨tq_959, List.forall_mem_cons.mpr ⟨tq_961, List.forall_mem_cons.mpr ⟨tq_963, List.forall_mem_cons.mpr ⟨tq_965, List.forall_mem_cons.mpr ⟨tq_967, List.forall_mem_cons.mpr ⟨tq_969, List.forall_mem_cons.mpr ⟨tq_971, List.forall_mem_cons.mpr ⟨tq_973, List.forall_mem_cons.mpr ⟨tq_975, List.forall_mem_cons.mpr ⟨tq_977, List.forall_mem_cons.mpr ⟨tq_979, List.forall_mem_cons.mpr ⟨tq_981, List.forall_mem_cons.mpr ⟨tq_983, List.forall_mem_cons.mpr ⟨tq_985, List.forall_mem_cons.mpr ⟨tq_987, List.forall_mem_cons.mpr ⟨tq_989, List.forall_mem_cons.mpr ⟨tq_991, List.forall_mem_cons.mpr ⟨tq_993, List.forall_mem_cons.mpr ⟨tq_995, List.forall_mem_cons.mpr ⟨tq_997, List.forall_mem_cons.mpr ⟨tq_999, List.forall_mem_cons.mpr ⟨tq_1001, List.forall_mem_cons.mpr ⟨tq_1003, List.forall_mem_cons.mpr ⟨tq_1005, List.forall_mem_cons.mpr ⟨tq_1007, List.forall_mem_cons.mpr ⟨tq_1009, List.forall_mem_cons.mpr ⟨tq_1011, List.forall_mem_cons.mpr ⟨tq_1013, List.forall_mem_cons.mpr ⟨tq_1015, List.forall_mem_cons.mpr ⟨tq_1017, List.forall_mem_cons.mpr ⟨tq_1019, List.forall_mem_cons.mpr ⟨tq_1021, fun _ h => absurd h List.not_mem_nil⟩⟩⟩⟩⟩⟩⟩⟩⟩⟩⟩⟩⟩⟩⟩⟩⟩⟩⟩⟩⟩⟩⟩⟩⟩⟩⟩⟩⟩⟩⟩⟩⟩⟩⟩
theorem pc_9 : ps_cl 9 RX10 TX10 35 tyX10 := ⟨rfl, by decide, ci_9, rfl, by decide +kernel, tyX10_ok, nmX10, by decide +kernel⟩
/-! ===== what a method says of the memory, in the order of its instructions ===== -/
def ps_gI {α : Type} (M : ps_M) (a ci k : Nat) (f : Int32 → Option α) : Option α := if ps_K M a = ci + 1 then f (ps_I M a k) else none
def ps_gR {α : Type} (M : ps_M) (a ci k : Nat) (f : Nat → Option α) : Option α := if ps_K M a = ci + 1 then (match ps_R M a k with | 0 => none | r + 1 => f r) else none
def ps_pI {α : Type} (M : ps_M) (a ci k : Nat) (v : Int32) (f : ps_M → Option α) : Option α := if ps_K M a = ci + 1 then f (ps_sI M a k v) else none
def ps_pZ {α : Type} (M : ps_M) (a ci k : Nat) (v : Int32) (f : ps_M → Option α) : Option α := if ps_K M a = ci + 1 ∧ (v = 0 ∨ v = 1) then f (ps_sI M a k v) else none
def ps_pR {α : Type} (M : ps_M) (a ci k r : Nat) (f : ps_M → Option α) : Option α := if ps_K M a = ci + 1 then f (ps_sR M a k (r + 1)) else none
def ps_aI {α : Type} (M : ps_M) (a : Nat) (i : Int32) (f : Int32 → Option α) : Option α := if ps_K M a = 21 ∧ ¬ (i < 0 ∨ ps_L M a ≤ i.toNatClampNeg) then f (ps_I M a i.toNatClampNeg) else none
def ps_aZ {α : Type} (M : ps_M) (a : Nat) (i : Int32) (f : Int32 → Option α) : Option α := if ps_K M a = 22 ∧ ¬ (i < 0 ∨ ps_L M a ≤ i.toNatClampNeg) then f (ps_I M a i.toNatClampNeg) else none
def ps_aR {α : Type} (M : ps_M) (a : Nat) (i : Int32) (f : Nat → Option α) : Option α := if ps_K M a = 23 ∧ ¬ (i < 0 ∨ ps_L M a ≤ i.toNatClampNeg) then f (ps_R M a i.toNatClampNeg) else none
def ps_aL {α : Type} (M : ps_M) (a : Nat) (f : Int32 → Option α) : Option α := if ps_K M a = 21 ∨ ps_K M a = 23 then f (Int32.ofNat (ps_L M a)) else none
def ps_xI {α : Type} (M : ps_M) (a : Nat) (i v : Int32) (f : ps_M → Option α) : Option α := if ps_K M a = 21 ∧ ¬ (i < 0 ∨ ps_L M a ≤ i.toNatClampNeg) then f (ps_sI M a i.toNatClampNeg v) else none
def ps_xZ {α : Type} (M : ps_M) (a : Nat) (i v : Int32) (f : ps_M → Option α) : Option α := if ps_K M a = 22 ∧ ¬ (i < 0 ∨ ps_L M a ≤ i.toNatClampNeg) ∧ (v = 0 ∨ v = 1) then f (ps_sI M a i.toNatClampNeg v) else none
def ps_ck {α : Type} (M : ps_M) (a ci : Nat) (X : Option α) : Option α := if ps_K M a = ci + 1 then X else none
def ps_b2 {α β : Type} (X : Option (β × ps_M)) (f : β → ps_M → Option α) : Option α := match X with
  | none => none
  | some q => f q.1 q.2
def ps_b1 {α : Type} (X : Option ps_M) (f : ps_M → Option α) : Option α := match X with
  | none => none
  | some M => f M
def ps_nn {α : Type} (e : Nat) (A : Option α) (f : Nat → Option α) : Option α := match e with
  | 0 => A
  | r + 1 => f r
def ps_v {α : Type} (x : Int32) (f : Int32 → Option α) : Option α := f x
def ps_z (x : Int32) (M : ps_M) : Option (Int32 × ps_M) := if x = 0 ∨ x = 1 then some (x, M) else none
def ps_dv {α : Type} (y : Int32) (X : Option α) : Option α := if y = 0 then none else X
def ps_dvl {α : Type} (y : Int64) (X : Option α) : Option α := if y = 0 then none else X
theorem ps_e_obj (Y : ps_A) (B : Nat) {M : ps_M} {a ci : Nat} (hK : ps_K M a = ci + 1) (hci : ci < 20) : ps_e Y B M a = .inr (ci, (List.range (ps_nf ci)).map (ps_fv B M ci a)) := by
  unfold ps_e
  rw [hK, if_neg (by omega), if_neg (by omega), if_neg (by omega), Nat.add_sub_cancel]
theorem ps_e_I (Y : ps_A) (B : Nat) {M : ps_M} {a : Nat} (hK : ps_K M a = 21) : ps_e Y B M a = .inl (Y.1, ps_L M a, .inl (ps_I M a)) := by
  unfold ps_e
  rw [if_pos hK]
theorem ps_e_Z (Y : ps_A) (B : Nat) {M : ps_M} {a : Nat} (hK : ps_K M a = 22) : ps_e Y B M a = .inl (Y.2.1, ps_L M a, .inl (ps_I M a)) := by
  unfold ps_e
  rw [if_neg (by omega), if_pos hK]
theorem ps_e_R (Y : ps_A) (B : Nat) {M : ps_M} {a : Nat} (hK : ps_K M a = 23) : ps_e Y B M a = .inl (Y.2.2, ps_L M a, .inr (.inr (.inr (.inr (fun j => ps_o B (ps_R M a j)))))) := by
  unfold ps_e
  rw [if_neg (by omega), if_neg (by omega), if_pos hK]
theorem ps_at {D : va_G} {Y : ps_A} {B : Nat} {M : ps_M} {H : Heap} (hW : ps_W D Y B M H) {a : Nat} (hK : ps_K M a ≠ 0) : a < ps_N M ∧ va_at D vwCl (B + a, ps_e Y B M a) H := by
  obtain ⟨-, h0, h1⟩ := hW
  have ha : a < ps_N M := Nat.lt_of_not_le (fun q => hK (h0 a q))
  exact ⟨ha, h1 a ha⟩
theorem ps_one {D : va_G} {q : Nat × va_E} {H : Heap} (h : va_at D vwCl q H) : va_P D vwCl [q] H := by
  intro k x hx
  cases k with
  | zero => cases hx; exact h
  | succ k => simp at hx
theorem ps_e_sI (Y : ps_A) (B : Nat) (M : ps_M) {a k b : Nat} (v : Int32) (h : b ≠ a) : ps_e Y B (ps_sI M a k v) b = ps_e Y B M b := by
  have e1 : ps_I (ps_sI M a k v) b = ps_I M b := by
    funext y
    simp [ps_I, ps_sI, ps_uI, h]
  have e2 : ps_fv B (ps_sI M a k v) (ps_K M b - 1) b = ps_fv B M (ps_K M b - 1) b := by
    funext y
    unfold ps_fv
    rw [e1]
    rfl
  unfold ps_e
  rw [e1, show ps_K (ps_sI M a k v) b = ps_K M b from rfl, e2]
  rfl
theorem ps_e_sR (Y : ps_A) (B : Nat) (M : ps_M) {a k b : Nat} (v : Nat) (h : b ≠ a) : ps_e Y B (ps_sR M a k v) b = ps_e Y B M b := by
  have e1 : ps_R (ps_sR M a k v) b = ps_R M b := by
    funext y
    simp [ps_R, ps_sR, ps_uR, h]
  have e2 : ps_fv B (ps_sR M a k v) (ps_K M b - 1) b = ps_fv B M (ps_K M b - 1) b := by
    funext y
    unfold ps_fv
    rw [e1]
    rfl
  unfold ps_e
  rw [e1, show ps_K (ps_sR M a k v) b = ps_K M b from rfl, e2]
  rfl
/-- a cell written: the memory's picture behind it -/
theorem ps_W.put {D : va_G} {Y : ps_A} {B : Nat} {M M1 : ps_M} {H H1 : Heap} (hW : ps_W D Y B M H) {a : Nat} (hN : ps_N M1 = ps_N M) (hKK : ps_K M1 = ps_K M) (he : ∀ b, b ≠ a → ps_e Y B M1 b = ps_e Y B M b) (z : H1.size = H.size) (oq : ∀ q : Nat, q ≠ B + a → H1[q]? = H[q]?) (hat : va_at D vwCl (B + a, ps_e Y B M1 a) H1) : ps_W D Y B M1 H1 := by
  obtain ⟨h1, h2, h3⟩ := hW
  refine ⟨by rw [z, hN]; exact h1, fun b hb => by rw [hKK]; exact h2 b (by rw [← hN]; exact hb), fun b hb => ?_⟩
  by_cases hba : b = a
  · subst hba
    exact hat
  · rw [he b hba]
    exact (h3 b (by rw [← hN]; exact hb)).kept (oq (B + b) (by omega))
section
variable {p : Program} {l : Launch} {e : Env} {R : Room} {s : State} {m : MethodId} {args : Array Value} {below : List Frame} {meth : Method} {c : Code} {H : Heap} {locs : List Loc} {cells slots : Nat} {Q : State → Prop}
variable {cc : ByteArray} {nL : Nat} {own nm : String} {rt : Option FieldType} {D : va_G} {Y : ps_A} {B : Nat} {M : ps_M} {pc : Nat} {ls : Array Slot} {rest : List Value} {α : Type} {res : α}
theorem pw_get (C : ps_C p s m args meth c cc nL own rt nm D Y B) (hW : ps_W D Y B M H) {ci index a : Nat} {C' : String} {T : u_T} {N : Nat} {ty : Nat → FieldType} (hc : ps_cl ci C' T N ty) {k : Nat} (hk : k < N) (hlink : Cond.fieldLink own index C' (T k).2.1 (T k).2.2.1 ∈ tb_G) (hK : ps_K M a = ci + 1) (hdg : decode cc pc = .ok (.getfield index, 3))
    (kk : W p l e R s m args below meth c H locs cells slots Q (F0 m (pc + 3) ls (ps_fv B M ci a k :: rest))) : W p l e R s m args below meth c H locs cells slots Q (F0 m pc ls (.ref (B + a) :: rest)) := by
  obtain ⟨hx, hb, hml, hown, hts, hT, -⟩ := C
  obtain ⟨hc, hci, hin, hnf, hsame, -⟩ := hc
  have hat := (ps_at hW (by rw [hK]; omega)).2
  rw [ps_e_obj Y B hK hci] at hat
  exact va_get hx hb hts hin hown hT.1 (ps_one hat) 0 rfl hc k hk (hts _ hlink) (fun x h => by rw [← hsame k hk]; exact h) (by simp [hnf, hk]) hdg kk
theorem pw_gI (C : ps_C p s m args meth c cc nL own rt nm D Y B) (hW : ps_W D Y B M H) {ci index a : Nat} {C' : String} {T : u_T} {N : Nat} {ty : Nat → FieldType} (hc : ps_cl ci C' T N ty) {k : Nat} (hk : k < N) (hr : ps_rf ci k = false) (hlink : Cond.fieldLink own index C' (T k).2.1 (T k).2.2.1 ∈ tb_G) (hdg : decode cc pc = .ok (.getfield index, 3)) {f : Int32 → Option α} (hF : ps_gI M a ci k f = some res)
    (kk : ∀ x : Int32, f x = some res → W p l e R s m args below meth c H locs cells slots Q (F0 m (pc + 3) ls (.int x :: rest))) : W p l e R s m args below meth c H locs cells slots Q (F0 m pc ls (.ref (B + a) :: rest)) := by
  unfold ps_gI at hF
  by_cases hK : ps_K M a = ci + 1
  · rw [if_pos hK] at hF
    refine pw_get C hW hc hk hlink hK hdg ?_
    have e1 : ps_fv B M ci a k = .int (ps_I M a k) := by unfold ps_fv; rw [hr]; rfl
    rw [e1]
    exact kk _ hF
  · rw [if_neg hK] at hF
    cases hF
theorem pw_gR (C : ps_C p s m args meth c cc nL own rt nm D Y B) (hW : ps_W D Y B M H) {ci index a : Nat} {C' : String} {T : u_T} {N : Nat} {ty : Nat → FieldType} (hc : ps_cl ci C' T N ty) {k : Nat} (hk : k < N) (hr : ps_rf ci k = true) (hlink : Cond.fieldLink own index C' (T k).2.1 (T k).2.2.1 ∈ tb_G) (hdg : decode cc pc = .ok (.getfield index, 3)) {f : Nat → Option α} (hF : ps_gR M a ci k f = some res)
    (kk : ∀ x : Nat, f x = some res → W p l e R s m args below meth c H locs cells slots Q (F0 m (pc + 3) ls (.ref (B + x) :: rest))) : W p l e R s m args below meth c H locs cells slots Q (F0 m pc ls (.ref (B + a) :: rest)) := by
  unfold ps_gR at hF
  by_cases hK : ps_K M a = ci + 1
  · rw [if_pos hK] at hF
    refine pw_get C hW hc hk hlink hK hdg ?_
    have e1 : ps_fv B M ci a k = va_rf (ps_o B (ps_R M a k)) := by unfold ps_fv; rw [if_pos hr]
    rw [e1]
    cases hR : ps_R M a k with
    | zero => rw [hR] at hF; cases hF
    | succ r => rw [hR] at hF; exact kk r hF
  · rw [if_neg hK] at hF
    cases hF
theorem ps_putfv {ci k a : Nat} {v : Value} {M1 : ps_M} (hfv : ∀ j, ps_fv B M1 ci a j = if j = k then v else ps_fv B M ci a j) (hk : k < ps_nf ci) : ∀ j, j < ps_nf ci → vp_V (((List.range (ps_nf ci)).map (ps_fv B M ci a)).set k v) j = vp_V ((List.range (ps_nf ci)).map (ps_fv B M1 ci a)) j := by
  intro j hj
  unfold vp_V
  simp only [List.getD_eq_getElem?_getD, List.getElem?_set, List.getElem?_map, List.length_map, List.length_range]
  by_cases h : k = j
  · subst h
    simp [hk, hfv]
  · have h' : ¬ j = k := fun q => h q.symm
    simp [h, h', hj, hfv]
theorem pw_put (C : ps_C p s m args meth c cc nL own rt nm D Y B) (hW : ps_W D Y B M H) (hS : va_S (fun q => B ≤ q) s.heap H locs) {ci index a : Nat} {C' : String} {T : u_T} {N : Nat} {ty : Nat → FieldType} (hc : ps_cl ci C' T N ty) {k : Nat} (hk : k < N) (hlink : Cond.fieldLink own index C' (T k).2.1 (T k).2.2.1 ∈ tb_G) (hfin : (T k).2.2.2 = false ∨ (nm = "<init>" ∧ C' = own)) (hK : ps_K M a = ci + 1) {v : Value} (hn : narrow (ty k) v = v) (hfit : fits (ty k) v = true) (hdg : decode cc pc = .ok (.putfield index, 3)) {M1 : ps_M} (hN1 : ps_N M1 = ps_N M) (hK1 : ps_K M1 = ps_K M) (he : ∀ b, b ≠ a → ps_e Y B M1 b = ps_e Y B M b) (hfv : ∀ j, ps_fv B M1 ci a j = if j = k then v else ps_fv B M ci a j)
    (kk : ∀ (H1 : Heap) (locs1 : List Loc), ps_W D Y B M1 H1 → va_S (fun q => B ≤ q) s.heap H1 locs1 → W p l e R s m args below meth c H1 locs1 cells slots Q (F0 m (pc + 3) ls rest)) : W p l e R s m args below meth c H locs cells slots Q (F0 m pc ls (v :: .ref (B + a) :: rest)) := by
  obtain ⟨hx, hb, hml, hown, hts, hT, -, -, -, hnm⟩ := C
  obtain ⟨hc, hci, hin, hnf, hsame, hty, hnmm, -⟩ := hc
  have hin' : ∀ w ∈ u_ws C' T N, w ∈ tb_G := hin
  have hap := va_apart (own := own) hts hin ty hty hnmm hT.1 hc
  have hat := (ps_at hW (a := a) (by rw [hK]; omega)).2
  rw [ps_e_obj Y B hK hci] at hat
  obtain ⟨r, h1, cell, q1, q2, q3, q4⟩ := hat
  have hr : r = (C', T, N) := Option.some.inj (h1.symm.trans hc)
  subst hr
  obtain ⟨hSl, hfc, kC, hkC, hkind⟩ := hT.1.1 ci _ hc
  obtain ⟨cf, kf, fi, f, hi, hsl⟩ := hSl k hk
  have hlay := hts _ (hin _ (u_in_lay hk))
  unfold u_lay at hlay
  have hst := (u_facts hfc hkC (u_lays hts hin hk) hi).1
  have hi' : s.fieldFound? C' (T k).2.1 (T k).2.2.1 = some (cf, kf, fi, f) := by rw [← hsame k hk]; exact hi
  have fin : ∀ H' : Heap, H'[B + a]? = some (cell.setSlot f.slot v) → H'.size = H.size → (∀ q, q ≠ B + a → H'[q]? = H[q]?) → W p l e R s m args below meth c H' (locs ++ [⟨B + a, f.slot⟩]) cells slots Q (F0 m (pc + 3) ls rest) := by
    intro H' e1 e2 e3
    rw [hsl] at e1
    refine kk H' _ (hW.put hN1 hK1 he e2 e3 ?_) (hS.put e2 e3 (Nat.le_add_right B a))
    rw [ps_e_obj Y B (by rw [hK1]; exact hK) hci]
    have hkf : k < ps_nf ci := by rw [hnf]; exact hk
    refine ⟨_, hc, t_OB.to (V := updV (vp_V ((List.range (ps_nf ci)).map (ps_fv B M ci a))) k v) ⟨_, e1, q2, q3, t_set q4 hap hk v⟩ (fun j hj => ?_)⟩
    rw [vp_updV_set (by simpa using hkf) v j]
    exact ps_putfv hfv hkf j (by rw [hnf]; exact hj)
  by_cases hfn : (T k).2.2.2 = true
  · rw [if_pos hfn] at hlay
    have hcf : m.cls = cf := by
      obtain ⟨_, _, c', _, _, _, -, -, hf', -, -, -, hown2, -⟩ := Cond.laysFinal_spec hlay
      have e1 : c' = cf := by have := hi.symm.trans hf'; simp at this; exact this.1.symm
      rcases hfin with h | ⟨-, h⟩
      · rw [h] at hfn; cases hfn
      · rw [hsame k hk, h] at hown2
        rw [← e1]
        exact Option.some.inj (hown.symm.trans hown2)
    have h6 := u_fits hfc hkC hkind (Or.inr hlay) hi (hty k hk) hn hfit
    refine W.putFinK hx hb hown (hts _ hlink) hi' hst hcf ?_ (by rw [q2]; exact h6) q1 q3 (by rw [hsl]; exact k2_hasslot (q4 k hk)) rfl rfl hdg fin
    rcases hfin with h | ⟨h, -⟩
    · rw [h] at hfn; cases hfn
    · rw [hnm]; exact h
  · rw [if_neg hfn] at hlay
    have h6 := u_store hfc hkC hkind hlay hi (hty k hk) hn hfit
    exact W.putK hx hb (f := f) ⟨hown, hts _ hlink, ⟨_, _, _, hi'⟩, hst⟩ (by rw [q2]; exact h6) q1 q3 (by rw [hsl]; exact k2_hasslot (q4 k hk)) rfl rfl hdg fin
theorem ps_fv_sI {ci k a : Nat} (v : Int32) (hr : ps_rf ci k = false) : ∀ j, ps_fv B (ps_sI M a k v) ci a j = if j = k then .int v else ps_fv B M ci a j := by
  intro j
  unfold ps_fv
  by_cases h : j = k
  · subst h
    simp [hr, ps_I, ps_sI, ps_uI]
  · simp [h, ps_I, ps_sI, ps_uI, ps_R]
theorem ps_fv_sR {ci k a : Nat} (v : Nat) (hr : ps_rf ci k = true) : ∀ j, ps_fv B (ps_sR M a k (v + 1)) ci a j = if j = k then .ref (B + v) else ps_fv B M ci a j := by
  intro j
  unfold ps_fv
  by_cases h : j = k
  · subst h
    simp [hr, ps_R, ps_sR, ps_uR, ps_o, va_rf]
  · simp [h, ps_I, ps_sR, ps_uR, ps_R]
theorem pw_pI (C : ps_C p s m args meth c cc nL own rt nm D Y B) (hW : ps_W D Y B M H) (hS : va_S (fun q => B ≤ q) s.heap H locs) {ci index a : Nat} {C' : String} {T : u_T} {N : Nat} {ty : Nat → FieldType} (hc : ps_cl ci C' T N ty) {k : Nat} (hk : k < N) (hty : ty k = .int) (hr : ps_rf ci k = false) (hlink : Cond.fieldLink own index C' (T k).2.1 (T k).2.2.1 ∈ tb_G) (hfin : (T k).2.2.2 = false) (hdg : decode cc pc = .ok (.putfield index, 3)) {v : Int32} {f : ps_M → Option α} (hF : ps_pI M a ci k v f = some res)
    (kk : ∀ (M : ps_M) (H : Heap) (locs : List Loc), ps_W D Y B M H → va_S (fun q => B ≤ q) s.heap H locs → f M = some res → W p l e R s m args below meth c H locs cells slots Q (F0 m (pc + 3) ls rest)) : W p l e R s m args below meth c H locs cells slots Q (F0 m pc ls (.int v :: .ref (B + a) :: rest)) := by
  unfold ps_pI at hF
  by_cases hK : ps_K M a = ci + 1
  · rw [if_pos hK] at hF
    exact pw_put C hW hS hc hk hlink (Or.inl hfin) hK (by rw [hty]; rfl) (by rw [hty]; rfl) hdg (M1 := ps_sI M a k v) rfl rfl (fun b hb => ps_e_sI Y B M v hb) (ps_fv_sI v hr) (fun H1 locs1 h1 h2 => kk _ H1 locs1 h1 h2 hF)
  · rw [if_neg hK] at hF
    cases hF
theorem pw_pZ (C : ps_C p s m args meth c cc nL own rt nm D Y B) (hW : ps_W D Y B M H) (hS : va_S (fun q => B ≤ q) s.heap H locs) {ci index a : Nat} {C' : String} {T : u_T} {N : Nat} {ty : Nat → FieldType} (hc : ps_cl ci C' T N ty) {k : Nat} (hk : k < N) (hty : ty k = .boolean) (hr : ps_rf ci k = false) (hlink : Cond.fieldLink own index C' (T k).2.1 (T k).2.2.1 ∈ tb_G) (hfin : (T k).2.2.2 = false) (hdg : decode cc pc = .ok (.putfield index, 3)) {v : Int32} {f : ps_M → Option α} (hF : ps_pZ M a ci k v f = some res)
    (kk : ∀ (M : ps_M) (H : Heap) (locs : List Loc), ps_W D Y B M H → va_S (fun q => B ≤ q) s.heap H locs → f M = some res → W p l e R s m args below meth c H locs cells slots Q (F0 m (pc + 3) ls rest)) : W p l e R s m args below meth c H locs cells slots Q (F0 m pc ls (.int v :: .ref (B + a) :: rest)) := by
  unfold ps_pZ at hF
  by_cases hK : ps_K M a = ci + 1 ∧ (v = 0 ∨ v = 1)
  · rw [if_pos hK] at hF
    obtain ⟨hK, hv⟩ := hK
    exact pw_put C hW hS hc hk hlink (Or.inl hfin) hK (by rw [hty]; rcases hv with rfl | rfl <;> rfl) (by rw [hty]; rcases hv with rfl | rfl <;> rfl) hdg (M1 := ps_sI M a k v) rfl rfl (fun b hb => ps_e_sI Y B M v hb) (ps_fv_sI v hr) (fun H1 locs1 h1 h2 => kk _ H1 locs1 h1 h2 hF)
  · rw [if_neg hK] at hF
    cases hF
theorem pw_pR (C : ps_C p s m args meth c cc nL own rt nm D Y B) (hW : ps_W D Y B M H) (hS : va_S (fun q => B ≤ q) s.heap H locs) {ci index a : Nat} {C' : String} {T : u_T} {N : Nat} {ty : Nat → FieldType} (hc : ps_cl ci C' T N ty) {k : Nat} (hk : k < N) (hty : (∃ x, ty k = .object x) ∨ ∃ x, ty k = .array x) (hr : ps_rf ci k = true) (hlink : Cond.fieldLink own index C' (T k).2.1 (T k).2.2.1 ∈ tb_G) (hfin : (T k).2.2.2 = false ∨ (nm = "<init>" ∧ C' = own)) (hdg : decode cc pc = .ok (.putfield index, 3)) {v : Nat} {f : ps_M → Option α} (hF : ps_pR M a ci k v f = some res)
    (kk : ∀ (M : ps_M) (H : Heap) (locs : List Loc), ps_W D Y B M H → va_S (fun q => B ≤ q) s.heap H locs → f M = some res → W p l e R s m args below meth c H locs cells slots Q (F0 m (pc + 3) ls rest)) : W p l e R s m args below meth c H locs cells slots Q (F0 m pc ls (.ref (B + v) :: .ref (B + a) :: rest)) := by
  unfold ps_pR at hF
  by_cases hK : ps_K M a = ci + 1
  · rw [if_pos hK] at hF
    exact pw_put C hW hS hc hk hlink hfin hK (by rcases hty with ⟨x, h⟩ | ⟨x, h⟩ <;> rw [h] <;> rfl) (by rcases hty with ⟨x, h⟩ | ⟨x, h⟩ <;> rw [h] <;> rfl) hdg (M1 := ps_sR M a k (v + 1)) rfl rfl (fun b hb => ps_e_sR Y B M (v + 1) hb) (ps_fv_sR v hr) (fun H1 locs1 h1 h2 => kk _ H1 locs1 h1 h2 hF)
  · rw [if_neg hK] at hF
    cases hF
theorem pw_aI (C : ps_C p s m args meth c cc nL own rt nm D Y B) (hW : ps_W D Y B M H) {a : Nat} {i : Int32} (hdg : decode cc pc = .ok (.iaload, 1)) {f : Int32 → Option α} (hF : ps_aI M a i f = some res)
    (kk : ∀ x : Int32, f x = some res → W p l e R s m args below meth c H locs cells slots Q (F0 m (pc + 1) ls (.int x :: rest))) : W p l e R s m args below meth c H locs cells slots Q (F0 m pc ls (.int i :: .ref (B + a) :: rest)) := by
  obtain ⟨hx, hb, hml, hown, hts, hT, -⟩ := C
  unfold ps_aI at hF
  by_cases hK : ps_K M a = 21 ∧ ¬ (i < 0 ∨ ps_L M a ≤ i.toNatClampNeg)
  · rw [if_pos hK] at hF
    have hat := (ps_at hW (a := a) (by rw [hK.1]; omega)).2
    rw [ps_e_I Y B hK.1] at hat
    exact va_iald hx hb hT.1 (ps_one hat) 0 0 rfl rfl hK.2 hdg (kk _ hF)
  · rw [if_neg hK] at hF
    cases hF
theorem pw_aZ (C : ps_C p s m args meth c cc nL own rt nm D Y B) (hW : ps_W D Y B M H) {a : Nat} {i : Int32} (hdg : decode cc pc = .ok (.baload, 1)) {f : Int32 → Option α} (hF : ps_aZ M a i f = some res)
    (kk : ∀ x : Int32, f x = some res → W p l e R s m args below meth c H locs cells slots Q (F0 m (pc + 1) ls (.int x :: rest))) : W p l e R s m args below meth c H locs cells slots Q (F0 m pc ls (.int i :: .ref (B + a) :: rest)) := by
  obtain ⟨hx, hb, hml, hown, hts, hT, -⟩ := C
  unfold ps_aZ at hF
  by_cases hK : ps_K M a = 22 ∧ ¬ (i < 0 ∨ ps_L M a ≤ i.toNatClampNeg)
  · rw [if_pos hK] at hF
    have hat := (ps_at hW (a := a) (by rw [hK.1]; omega)).2
    rw [ps_e_Z Y B hK.1] at hat
    exact va_zald hx hb hT.1 (ps_one hat) 0 1 rfl rfl hK.2 hdg (kk _ hF)
  · rw [if_neg hK] at hF
    cases hF
theorem pw_aR (C : ps_C p s m args meth c cc nL own rt nm D Y B) (hW : ps_W D Y B M H) {a : Nat} {i : Int32} (hdg : decode cc pc = .ok (.aaload, 1)) {f : Nat → Option α} (hF : ps_aR M a i f = some res)
    (kk : ∀ x : Nat, f x = some res → W p l e R s m args below meth c H locs cells slots Q (F0 m (pc + 1) ls (va_rf (ps_o B x) :: rest))) : W p l e R s m args below meth c H locs cells slots Q (F0 m pc ls (.int i :: .ref (B + a) :: rest)) := by
  obtain ⟨hx, hb, hml, hown, hts, hT, -⟩ := C
  unfold ps_aR at hF
  by_cases hK : ps_K M a = 23 ∧ ¬ (i < 0 ∨ ps_L M a ≤ i.toNatClampNeg)
  · rw [if_pos hK] at hF
    have hat := (ps_at hW (a := a) (by rw [hK.1]; omega)).2
    rw [ps_e_R Y B hK.1] at hat
    exact va_aldq hx hb hT.1 (ps_one hat) 0 2 rfl rfl hK.2 hdg (kk _ hF)
  · rw [if_neg hK] at hF
    cases hF
theorem pw_aL (C : ps_C p s m args meth c cc nL own rt nm D Y B) (hW : ps_W D Y B M H) {a : Nat} (hdg : decode cc pc = .ok (.arraylength, 1)) {f : Int32 → Option α} (hF : ps_aL M a f = some res)
    (kk : ∀ x : Int32, f x = some res → W p l e R s m args below meth c H locs cells slots Q (F0 m (pc + 1) ls (.int x :: rest))) : W p l e R s m args below meth c H locs cells slots Q (F0 m pc ls (.ref (B + a) :: rest)) := by
  obtain ⟨hx, hb, hml, hown, hts, hT, -⟩ := C
  unfold ps_aL at hF
  by_cases hK : ps_K M a = 21 ∨ ps_K M a = 23
  · rw [if_pos hK] at hF
    have hat := (ps_at hW (a := a) (by omega)).2
    rcases hK with h | h
    · rw [ps_e_I Y B h] at hat
      exact va_alen hx hb hT.1 (ps_one hat) 0 0 rfl rfl rfl hdg (kk _ hF)
    · rw [ps_e_R Y B h] at hat
      exact va_alen hx hb hT.1 (ps_one hat) 0 2 rfl rfl rfl hdg (kk _ hF)
  · rw [if_neg hK] at hF
    cases hF
theorem ps_row_sI (i : Nat) (v : Int32) (a : Nat) : ps_I (ps_sI M a i v) a = fun j => if j = i then v else ps_I M a j := by
  funext j
  simp [ps_I, ps_sI, ps_uI]
theorem pw_xI (C : ps_C p s m args meth c cc nL own rt nm D Y B) (hW : ps_W D Y B M H) (hS : va_S (fun q => B ≤ q) s.heap H locs) {a : Nat} {i v : Int32} (hdg : decode cc pc = .ok (.iastore, 1)) {f : ps_M → Option α} (hF : ps_xI M a i v f = some res)
    (kk : ∀ (M : ps_M) (H : Heap) (locs : List Loc), ps_W D Y B M H → va_S (fun q => B ≤ q) s.heap H locs → f M = some res → W p l e R s m args below meth c H locs cells slots Q (F0 m (pc + 1) ls rest)) : W p l e R s m args below meth c H locs cells slots Q (F0 m pc ls (.int v :: .int i :: .ref (B + a) :: rest)) := by
  obtain ⟨hx, hb, hml, hown, hts, hT, -⟩ := C
  unfold ps_xI at hF
  by_cases hK : ps_K M a = 21 ∧ ¬ (i < 0 ∨ ps_L M a ≤ i.toNatClampNeg)
  · rw [if_pos hK] at hF
    have hat := (ps_at hW (a := a) (by rw [hK.1]; omega)).2
    rw [ps_e_I Y B hK.1] at hat
    refine W.iast hx hb hat ((hT.1.2 0 _ rfl).1 (ps_L M a) (fun j => .int (ps_I M a j))) (fun q => by cases q) (by show ¬ (i < 0 ∨ (arrV _ _ _).slots.size ≤ _); rw [arrV_size]; exact hK.2) rfl rfl hdg fun H1 e1 z oq => ?_
    refine kk (ps_sI M a i.toNatClampNeg v) H1 _ (hW.put rfl rfl (fun b hb => ps_e_sI Y B M v hb) z oq ?_) (hS.put z oq (Nat.le_add_right B a)) hF
    rw [ps_e_I Y B (show ps_K (ps_sI M a i.toNatClampNeg v) a = 21 from hK.1)]
    show H1[B + a]? = some (vp_cell _ _)
    rw [e1, ps_row_sI, vp_cell_i, vp_cell_i, arrV_store]
    congr 2
    funext q
    by_cases hq : q = i.toNatClampNeg
    · simp [updV, hq]
    · simp [updV, hq]
  · rw [if_neg hK] at hF
    cases hF
theorem pw_xZ (C : ps_C p s m args meth c cc nL own rt nm D Y B) (hW : ps_W D Y B M H) (hS : va_S (fun q => B ≤ q) s.heap H locs) {a : Nat} {i v : Int32} (hdg : decode cc pc = .ok (.bastore, 1)) {f : ps_M → Option α} (hF : ps_xZ M a i v f = some res)
    (kk : ∀ (M : ps_M) (H : Heap) (locs : List Loc), ps_W D Y B M H → va_S (fun q => B ≤ q) s.heap H locs → f M = some res → W p l e R s m args below meth c H locs cells slots Q (F0 m (pc + 1) ls rest)) : W p l e R s m args below meth c H locs cells slots Q (F0 m pc ls (.int v :: .int i :: .ref (B + a) :: rest)) := by
  obtain ⟨hx, hb, hml, hown, hts, hT, -⟩ := C
  unfold ps_xZ at hF
  by_cases hK : ps_K M a = 22 ∧ ¬ (i < 0 ∨ ps_L M a ≤ i.toNatClampNeg) ∧ (v = 0 ∨ v = 1)
  · rw [if_pos hK] at hF
    obtain ⟨h22, hin, hv⟩ := hK
    have hat := (ps_at hW (a := a) (by rw [h22]; omega)).2
    rw [ps_e_Z Y B h22] at hat
    have hnar : narrow .boolean (.int v) = .int v := by rcases hv with rfl | rfl <;> rfl
    refine W.zast hx hb hat ((hT.1.2 1 _ rfl).1 (ps_L M a) (fun j => .int (ps_I M a j))) (fun q => by cases q) (by show ¬ (i < 0 ∨ (arrV _ _ _).slots.size ≤ _); rw [arrV_size]; exact hin) rfl rfl hdg fun H1 e1 z oq => ?_
    refine kk (ps_sI M a i.toNatClampNeg v) H1 _ (hW.put rfl rfl (fun b hb => ps_e_sI Y B M v hb) z oq ?_) (hS.put z oq (Nat.le_add_right B a)) hF
    rw [ps_e_Z Y B (show ps_K (ps_sI M a i.toNatClampNeg v) a = 22 from h22)]
    show H1[B + a]? = some (vp_cell _ _)
    rw [e1, hnar, ps_row_sI, vp_cell_i, vp_cell_i, arrV_store]
    congr 2
    funext q
    by_cases hq : q = i.toNatClampNeg
    · simp [updV, hq]
    · simp [updV, hq]
  · rw [if_neg hK] at hF
    cases hF
/-! the ends -/
abbrev ps_Qi (D : va_G) (Y : ps_A) (B : Nat) (below : List Frame) (args : Array Value) (s : State) (mc ms : Nat) (q : Int32 × ps_M) : State → Prop := MQ below (va_Qi (fun x (_ : Unit) => x = q.1) (fun _ t => ps_St D Y B q.2 t) (fun q => B ≤ q)) args s mc ms (fun q => B ≤ q)
abbrev ps_Qv (D : va_G) (Y : ps_A) (B : Nat) (below : List Frame) (args : Array Value) (s : State) (mc ms : Nat) (M' : ps_M) : State → Prop := MQ below (va_Qv (fun (_ : Unit) => True) (fun _ t => ps_St D Y B M' t) (fun q => B ≤ q)) args s mc ms (fun q => B ≤ q)
abbrev ps_Qq (D : va_G) (Y : ps_A) (B : Nat) (below : List Frame) (args : Array Value) (s : State) (mc ms : Nat) (q : Nat × ps_M) : State → Prop := MQ below (va_Qq (fun x (_ : Unit) => x = ps_o B q.1) (fun _ t => ps_St D Y B q.2 t) (fun q => B ≤ q)) args s mc ms (fun q => B ≤ q)
theorem pw_iret (C : ps_C p s m args meth c cc nL own (some .int) nm D Y B) (hW : ps_W D Y B M H) (hS : va_S (fun q => B ≤ q) s.heap H locs) {x : Int32} {q : Int32 × ps_M} (hdg : decode cc pc = .ok (.ireturn, 1)) (hF : some (x, M) = some q) : W p l e R s m args below meth c H locs cells slots (ps_Qi D Y B below args s cells slots q) (F0 m pc ls [.int x]) := by
  obtain ⟨hx, hb, hml, hown, hts, hT, hlk, hB, hr, -⟩ := C
  cases hF
  exact W.iret hx hb hr (fun t ht hw => ⟨⟨x, (), rfl, rfl, by rw [ht]; exact hW, hT.warm hw⟩, hS.F ht⟩) hS.2.2 hdg hlk
theorem pw_zret (C : ps_C p s m args meth c cc nL own (some .boolean) nm D Y B) (hW : ps_W D Y B M H) (hS : va_S (fun q => B ≤ q) s.heap H locs) {x : Int32} {q : Int32 × ps_M} (hdg : decode cc pc = .ok (.ireturn, 1)) (hF : ps_z x M = some q) : W p l e R s m args below meth c H locs cells slots (ps_Qi D Y B below args s cells slots q) (F0 m pc ls [.int x]) := by
  obtain ⟨hx, hb, hml, hown, hts, hT, hlk, hB, hr, -⟩ := C
  unfold ps_z at hF
  by_cases hv : x = 0 ∨ x = 1
  · rw [if_pos hv] at hF
    cases hF
    have hnar : narrow .boolean (.int x) = .int x := by rcases hv with rfl | rfl <;> rfl
    exact W.zret hx hb hr hnar (fun t ht hw => ⟨⟨x, (), rfl, rfl, by rw [ht]; exact hW, hT.warm hw⟩, hS.F ht⟩) hS.2.2 hdg hlk
  · rw [if_neg hv] at hF
    cases hF
theorem pw_vret (C : ps_C p s m args meth c cc nL own none nm D Y B) (hW : ps_W D Y B M H) (hS : va_S (fun q => B ≤ q) s.heap H locs) {q : ps_M} (hdg : decode cc pc = .ok (.return_, 1)) (hF : some M = some q) : W p l e R s m args below meth c H locs cells slots (ps_Qv D Y B below args s cells slots q) (F0 m pc ls []) := by
  obtain ⟨hx, hb, hml, hown, hts, hT, hlk, hB, hr, -⟩ := C
  cases hF
  exact W.vret hx hb hr (fun t ht hw => ⟨⟨(), rfl, trivial, by rw [ht]; exact hW, hT.warm hw⟩, hS.F ht⟩) hS.2.2 hdg hlk
theorem pw_qret {rn : String} (C : ps_C p s m args meth c cc nL own (some (.object rn)) nm D Y B) (hW : ps_W D Y B M H) (hS : va_S (fun q => B ≤ q) s.heap H locs) {x : Nat} {q : Nat × ps_M} (hdg : decode cc pc = .ok (.areturn, 1)) (hF : some (x, M) = some q) : W p l e R s m args below meth c H locs cells slots (ps_Qq D Y B below args s cells slots q) (F0 m pc ls [va_rf (ps_o B x)]) := by
  obtain ⟨hx, hb, hml, hown, hts, hT, hlk, hB, hr, -⟩ := C
  cases hF
  exact W.aret hx hb hr (Or.inl ⟨rn, rfl⟩) (va_rf_or _) (fun t ht hw => ⟨⟨ps_o B x, (), rfl, rfl, by rw [ht]; exact hW, hT.warm hw⟩, hS.F ht⟩) hS.2.2 hdg hlk
/-! the calls -/
/-- what is known of a method that is called -/
def ps_mf (y : MethodName) (bytes : ByteArray) (maxL : Nat) (ret : Option FieldType) (n : Nat) : Prop := Cond.code y bytes maxL ret ∈ tb_G ∧ Cond.initialized y.cls ∈ tb_G ∧ (y.cls ≠ "java/lang/invoke/MethodHandle" ∧ y.cls ≠ "java/lang/invoke/VarHandle" ∧ (parseMethodDescriptor y.desc).map (fun d => d.parameters.length) = some n)
abbrev ps_PB (D : va_G) (Y : ps_A) (B : Nat) (M : ps_M) (av : List Value) : Array Value → State → Prop := va_Pc av (fun U => ps_St D Y B M U)
theorem ps_blind (D : va_G) (Y : ps_A) (B : Nat) (M : ps_M) (av : List Value) : FrameBlind (ps_PB D Y B M av) := fun a U g mk q => ⟨q.1, q.2.1, va_K.moved (u := U) (U := U.calling g mk a) (Vm.Alike.refl U.vm) q.2.2.1, q.2.2.2.1.same rfl, va_AO.moved (u := U) (U := U.calling g mk a) (Vm.Alike.refl U.vm) q.2.2.2.2⟩
theorem ps_good {y : MethodName} {bytes : ByteArray} {maxL : Nat} {ret : Option FieldType} (h : Cond.code y bytes maxL ret ∈ tb_G) : GoodIn tb_G (Cond.code y bytes maxL ret :: tb_G) := fun w hw => by
  rcases List.mem_cons.mp hw with rfl | h1
  · exact ⟨h, tb_good _ h⟩
  · exact ⟨h1, tb_good _ h1⟩
/-- a call of an object's own method -/
theorem ps_callV (C : ps_C p s m args meth c cc nL own rt nm D Y B) (hW : ps_W D Y B M H) {ci a index maxL n mc ms : Nat} {y : MethodName} {bytes : ByteArray} {ret : Option FieldType} {T : u_T} {N : Nat} {ty : Nat → FieldType} {rm : Room} {Qc : Array Value → State → Outcome → State → Prop} (hc : ps_cl ci y.cls T N ty) (hm : ps_mf y bytes maxL ret n) (hin : Cond.instanceMethod y ∈ tb_G) (hse : Cond.selects y.cls y y ∈ tb_G) (hl : Cond.methodLink own index y ∈ tb_G) (hR : rm.frames + 1 ≤ R.frames ∧ 8 + (maxL + 11) + rm.locals ≤ R.locals) (hrc : rm.cells = mc) (hrs : rm.slots = ms) {As : List Value} (hM : Met l y (Cond.code y bytes maxL ret :: tb_G) rm (ps_PB D Y B M (.ref (B + a) :: As)) Qc mc ms (fun q => B ≤ q)) (hK : ps_K M a = ci + 1)
    {st0 : List Value} (hn : As.length = n) (hsz : ls.size = nL) (hst : st0 = As.reverse ++ .ref (B + a) :: rest) (hcat : (rest.map fun v => v.category).sum ≤ 8) (hdg : decode cc pc = .ok (.invokevirtual index, 3)) (hf : cells + mc ≤ R.cells ∧ slots + ms ≤ R.slots) :
    va_Run p l e R s m args below meth c H locs cells slots mc ms (F0 m pc ls st0) rest (Qc (Value.ref (B + a) :: As).toArray) (fun q => B ≤ q) := by
  obtain ⟨hx, hb, hml, hown, hts, hT, -⟩ := C
  obtain ⟨hcode, hini, hd⟩ := hm
  obtain ⟨hc, hci, -⟩ := hc
  have hat := (ps_at hW (a := a) (by rw [hK]; omega)).2
  rw [ps_e_obj Y B hK hci] at hat
  exact va_runV (As := As) (rest := rest) ⟨hx, hb, hml, hown, hts⟩ hM ⟨callB_of n hts (ps_good hcode) rfl hrc hrs (hts _ hini) (hts _ hl) hd hR, hts _ hin, hts _ hse⟩
    ⟨ps_blind D Y B M _, va_recv hT.1 (ps_one hat) (ci := ci) (q0 := 0) hc rfl, fun U hU hw => ⟨rfl, by rw [hU]; exact hW, hT.warm hw⟩⟩ rfl hn hsz hst (lv_room hcat) hdg hf
theorem ps_callS (C : ps_C p s m args meth c cc nL own rt nm D Y B) (hW : ps_W D Y B M H) {index maxL n mc ms : Nat} {y : MethodName} {bytes : ByteArray} {ret : Option FieldType} {rm : Room} {Qc : Array Value → State → Outcome → State → Prop} (hm : ps_mf y bytes maxL ret n) (hsta : Cond.static y ∈ tb_G) (hl : Cond.methodLink own index y ∈ tb_G) (hR : rm.frames + 1 ≤ R.frames ∧ 8 + (maxL + 11) + rm.locals ≤ R.locals) (hrc : rm.cells = mc) (hrs : rm.slots = ms) {As : List Value} (hM : Met l y (Cond.code y bytes maxL ret :: tb_G) rm (ps_PB D Y B M As) Qc mc ms (fun q => B ≤ q))
    {st0 : List Value} (hn : As.length = n) (hsz : ls.size = nL) (hst : st0 = As.reverse ++ rest) (hcat : (rest.map fun v => v.category).sum ≤ 8) (hdg : decode cc pc = .ok (.invokestatic index, 3)) (hf : cells + mc ≤ R.cells ∧ slots + ms ≤ R.slots) :
    va_Run p l e R s m args below meth c H locs cells slots mc ms (F0 m pc ls st0) rest (Qc As.toArray) (fun q => B ≤ q) := by
  obtain ⟨hx, hb, hml, hown, hts, hT, -⟩ := C
  obtain ⟨hcode, hini, hd⟩ := hm
  exact va_runS (As := As) (rest := rest) ⟨hx, hb, hml, hown, hts⟩ hM ⟨callB_of n hts (ps_good hcode) rfl hrc hrs (hts _ hini) (hts _ hl) hd hR, hts _ hsta⟩
    ⟨ps_blind D Y B M _, fun U hU hw => ⟨rfl, by rw [hU]; exact hW, hT.warm hw⟩⟩ rfl hn hsz hst (lv_room hcat) hdg hf
/-- behind a call that answers an int -/
theorem ps_backI (hS : va_S (fun q => B ≤ q) s.heap H locs) {st0 : List Value} {mc ms : Nat} {x0 : Int32} {M' : ps_M} {a : Array Value} (hr : va_Run p l e R s m args below meth c H locs cells slots mc ms (F0 m pc ls st0) rest (va_Qi (fun x (_ : Unit) => x = x0) (fun _ t => ps_St D Y B M' t) (fun q => B ≤ q) a) (fun q => B ≤ q))
    (kk : ∀ (H1 : Heap) (locs1 : List Loc), ps_W D Y B M' H1 → va_S (fun q => B ≤ q) s.heap H1 locs1 → W p l e R s m args below meth c H1 locs1 (cells + mc) (slots + ms) Q (F0 m (pc + 3) ls (.int x0 :: rest))) : W p l e R s m args below meth c H locs cells slots Q (F0 m pc ls st0) :=
  va_calli hr hS (fun _ _ h => h) (fun _ h => h) (fun r u t H1 locs1 ht hvm hp hB hz hk hS1 => by
    subst hp
    exact kk H1 locs1 (by rw [← ht]; exact hB.1) hS1)
theorem ps_backV (hS : va_S (fun q => B ≤ q) s.heap H locs) {st0 : List Value} {mc ms : Nat} {M' : ps_M} {a : Array Value} (hr : va_Run p l e R s m args below meth c H locs cells slots mc ms (F0 m pc ls st0) rest (va_Qv (fun (_ : Unit) => True) (fun _ t => ps_St D Y B M' t) (fun q => B ≤ q) a) (fun q => B ≤ q))
    (kk : ∀ (H1 : Heap) (locs1 : List Loc), ps_W D Y B M' H1 → va_S (fun q => B ≤ q) s.heap H1 locs1 → W p l e R s m args below meth c H1 locs1 (cells + mc) (slots + ms) Q (F0 m (pc + 3) ls rest)) : W p l e R s m args below meth c H locs cells slots Q (F0 m pc ls st0) :=
  va_callv hr hS (fun _ _ h => h) (fun _ h => h) (fun u t H1 locs1 ht hvm hp hB hz hk hS1 => kk H1 locs1 (by rw [← ht]; exact hB.1) hS1)
theorem ps_backQ (hS : va_S (fun q => B ≤ q) s.heap H locs) {st0 : List Value} {mc ms : Nat} {x0 : Nat} {M' : ps_M} {a : Array Value} (hr : va_Run p l e R s m args below meth c H locs cells slots mc ms (F0 m pc ls st0) rest (va_Qq (fun x (_ : Unit) => x = ps_o B x0) (fun _ t => ps_St D Y B M' t) (fun q => B ≤ q) a) (fun q => B ≤ q))
    (kk : ∀ (H1 : Heap) (locs1 : List Loc), ps_W D Y B M' H1 → va_S (fun q => B ≤ q) s.heap H1 locs1 → W p l e R s m args below meth c H1 locs1 (cells + mc) (slots + ms) Q (F0 m (pc + 3) ls (va_rf (ps_o B x0) :: rest))) : W p l e R s m args below meth c H locs cells slots Q (F0 m pc ls st0) :=
  va_callq hr hS (fun _ _ h => h) (fun _ h => h) (fun r u t H1 locs1 ht hvm hp hB hz hk hS1 => by
    subst hp
    exact kk H1 locs1 (by rw [← ht]; exact hB.1) hS1)
theorem pw_v {x : Int32} {f : Int32 → Option α} (hF : ps_v x f = some res) (kk : ∀ y : Int32, f y = some res → W p l e R s m args below meth c H locs cells slots Q (F0 m pc ls (.int y :: rest))) : W p l e R s m args below meth c H locs cells slots Q (F0 m pc ls (.int x :: rest)) := kk x hF
theorem ps_ve {x : Int32} {f : Int32 → Option α} (hF : ps_v x f = some res) : ∃ y : Int32, y = x ∧ f y = some res := ⟨x, rfl, hF⟩
theorem ps_tn {x k : Int32} {z : Int} (h : ¬ x = k) (hz : k.toInt = z) : ¬ x.toInt = z := fun e => h (Int32.toInt_inj.mp (e.trans hz.symm))
theorem ps_tn2 {x k : Int32} {z : Int} (h : ¬ x = k) (hz : k.toInt = z) : ¬ z = x.toInt := fun e => ps_tn h hz e.symm
theorem ps_nn0 {A : Option α} {f : Nat → Option α} (h : ps_nn 0 A f = some res) : A = some res := h
theorem ps_nns {r : Nat} {A : Option α} {f : Nat → Option α} (h : ps_nn (r + 1) A f = some res) : f r = some res := h
theorem ps_b2_some {β : Type} {X : Option (β × ps_M)} {f : β → ps_M → Option α} (h : ps_b2 X f = some res) : ∃ x M1, X = some (x, M1) ∧ f x M1 = some res := by
  cases X with
  | none => cases h
  | some q => exact ⟨q.1, q.2, rfl, h⟩
theorem ps_b1_some {X : Option ps_M} {f : ps_M → Option α} (h : ps_b1 X f = some res) : ∃ q, X = some q ∧ f q = some res := by
  cases X with
  | none => cases h
  | some q => exact ⟨q, rfl, h⟩
theorem ps_ck_some {X : Option α} {a ci : Nat} (h : ps_ck M a ci X = some res) : ps_K M a = ci + 1 ∧ X = some res := by
  unfold ps_ck at h
  by_cases hK : ps_K M a = ci + 1
  · rw [if_pos hK] at h; exact ⟨hK, h⟩
  · rw [if_neg hK] at h; cases h
theorem ps_dv_some {y : Int32} {X : Option α} (h : ps_dv y X = some res) : ¬ y = 0 ∧ X = some res := by
  unfold ps_dv at h
  by_cases hy : y = 0
  · rw [if_pos hy] at h; cases h
  · rw [if_neg hy] at h; exact ⟨hy, h⟩
theorem ps_dvl_some {y : Int64} {X : Option α} (h : ps_dvl y X = some res) : ¬ y = 0 ∧ X = some res := by
  unfold ps_dvl at h
  by_cases hy : y = 0
  · rw [if_pos hy] at h; cases h
  · rw [if_neg hy] at h; exact ⟨hy, h⟩
end
/-- a method's contract out of its walk -/
theorem pm_of {l : Launch} {D : va_G} {Y : ps_A} {B : Nat} {M : ps_M} {y : MethodName} {cc : ByteArray} {nL : Nat} {ret : Option FieldType} {rm : Room} {Qc : Array Value → State → Outcome → State → Prop} {mc ms : Nat} {av : List Value} (hy : plainName y.cls = true) (hlen : (lg_sl av).length ≤ nL)
    (body : ∀ (p : Program) (e : Env) (s : State) (m : MethodId) (args : Array Value) (below : List Frame) (meth : Method) (c : Code), ps_C p s m args meth c cc nL y.cls ret y.name D Y B → ps_W D Y B M s.heap → va_S (fun q => B ≤ q) s.heap s.heap [] → ∀ ls : Array Slot, lv_has ls nL (lv_args 0 av) →
      W p l e rm s m args below meth c s.heap [] 0 0 (MQ below Qc args s mc ms (fun q => B ≤ q)) (F0 m 0 ls [])) :
    Met l y (Cond.code y cc nL ret :: tb_G) rm (ps_PB D Y B M av) Qc mc ms (fun q => B ≤ q) := by
  refine Met.ofW (cc := cc) (maxL := nL) (ret := ret) hy rfl ?_
  intro p e s m args below meth c s₁ Bd hml hv
  obtain ⟨rfl, hW, hT⟩ := hv
  have hts := atoms_spec (ws := Cond.code y cc nL ret :: tb_G) Bd.pre
  have hown : s.vm.findClass y.cls = some m.cls := findClass_of_methodNamed Bd.named
  have hin : meth.name = y.name := (name_of_methodNamed Bd.named Bd.method).1
  have hl := lv_entry av hlen
  rw [lg_entry_eq]
  exact body p e s m av.toArray below meth c ⟨Bd.exec, Bd.bytes, hml, hown, fun w hw => hts w (List.mem_cons_of_mem _ hw), hT, Bd.notSynchronized, by rw [hW.1]; exact Nat.le_add_right _ _, Bd.returns, hin⟩ hW va_S.rf _ hl
