section
variable {p : Program} {l : Launch} {e : Env} {s : State} {m : MethodId} {args : Array Value} {below : List Frame} {meth : Method} {c : Code} {H : Heap} {locs : List Loc} {ls : Array Slot} {D : va_G} {Y : ps_A} {B : Nat}
abbrev rm_X9_worthFile : Room := { frames := 6, cells := 0, slots := 0, locals := 141 }
def f_X9_worthFile_b30 (M : ps_M) (t0 : Int32) : Option (Int32 × ps_M) := some (t0, M)
def f_X9_worthFile (M : ps_M) (a0 : Nat) : Option (Int32 × ps_M) := ps_gR M a0 8 2 (fun av1 => ps_ck M av1 6 (ps_b2 (f_X7_hasPair M av1 ) (fun xv2 M => if xv2 = 0 then (f_X9_worthFile_b30 M (-1000000003 : Int32)) else (ps_gR M a0 8 4 (fun av4 => ps_gR M a0 8 0 (fun av5 => ps_gR M a0 8 2 (fun av6 => ps_ck M av4 5 (ps_b2 (f_X6_gainByFile M av4 av5 av6) (fun xv7 M => f_X9_worthFile_b30 M xv7)))))))))
set_option maxRecDepth 100000 in
set_option maxHeartbeats 4000000 in
theorem kb_X9_worthFile_b30 (C : ps_C p s m args meth c cX9_worthFile 1 RX9 ((some .int)) "worthFile" D Y B) {q : Int32 × ps_M}  {M : ps_M} {t0 : Int32} (hF : f_X9_worthFile_b30 M t0 = some q) (hW : ps_W D Y B M H) (hS : va_S (fun q => B ≤ q) s.heap H locs) (hl : lv_has ls 1 []) : W p l e rm_X9_worthFile s m args below meth c H locs 0 0 (ps_Qi D Y B below args s 0 0 q) (F0 m 30 ls [.int t0]) := by
  have hx := C.1
  have hb := C.2.1
  have hml := C.2.2.1
  have hown := C.2.2.2.1
  have hts := C.2.2.2.2.1
  unfold f_X9_worthFile_b30 at hF
  exact pw_iret C hW hS dX9_worthFile_30 hF
set_option maxRecDepth 100000 in
set_option maxHeartbeats 4000000 in
theorem kb_X9_worthFile (C : ps_C p s m args meth c cX9_worthFile 1 RX9 ((some .int)) "worthFile" D Y B) {q : Int32 × ps_M}  {M : ps_M} {a0 : Nat} (hF : f_X9_worthFile M a0 = some q) (hW : ps_W D Y B M H) (hS : va_S (fun q => B ≤ q) s.heap H locs) (hl : lv_has ls 1 [(0, .ref (B + a0))]) : W p l e rm_X9_worthFile s m args below meth c H locs 0 0 (ps_Qi D Y B below args s 0 0 q) (F0 m 0 ls []) := by
  have hx := C.1
  have hb := C.2.1
  have hml := C.2.2.1
  have hown := C.2.2.2.1
  have hts := C.2.2.2.2.1
  unfold f_X9_worthFile at hF
  refine lv_aload_n hx hb dX9_worthFile_0 rfl (lv_at hl 0 rfl) ?_
  refine pw_gR C hW pc_8 (k := 2) (by decide) rfl tq_398 dX9_worthFile_1 hF (fun av1 hF => ?_)
  obtain ⟨hK, hF⟩ := ps_ck_some hF
  obtain ⟨xv2, M9, hc, hF⟩ := ps_b2_some hF
  refine ps_backI (x0 := xv2) (M' := M9) hS (ps_callV C hW pc_6 mf_X7_hasPair tq_586 tq_587 tq_585 ⟨Nat.le_of_ble_eq_true rfl, Nat.le_of_ble_eq_true rfl⟩ rfl rfl (As := []) (rest := []) (c_X7_hasPair hc) hK rfl hl.1 rfl (Nat.le_of_ble_eq_true rfl) dX9_worthFile_4 ⟨Nat.le_of_ble_eq_true rfl, Nat.le_of_ble_eq_true rfl⟩) (fun H locs hW hS => ?_)
  clear hc
  generalize M9 = M at hW hF
  refine lv_if_eq (tgt := 28) hx hb dX9_worthFile_7 (by decide) (fun hv3 => ?_) (fun hv3 => ?_)
  · replace hF := (if_pos hv3).symm.trans hF
    refine lv_ldc (v := -1000000003) hx hb hown (hts _ tq_572) dX9_worthFile_28 ?_
    exact kb_X9_worthFile_b30 C hF hW hS (lv_sub hl [] rfl)
  · replace hF := (if_neg hv3).symm.trans hF
    refine lv_aload_n hx hb dX9_worthFile_10 rfl (lv_at hl 0 rfl) ?_
    refine pw_gR C hW pc_8 (k := 4) (by decide) rfl tq_400 dX9_worthFile_11 hF (fun av4 hF => ?_)
    refine lv_aload_n hx hb dX9_worthFile_14 rfl (lv_at hl 0 rfl) ?_
    refine pw_gR C hW pc_8 (k := 0) (by decide) rfl tq_396 dX9_worthFile_15 hF (fun av5 hF => ?_)
    refine lv_aload_n hx hb dX9_worthFile_18 rfl (lv_at hl 0 rfl) ?_
    refine pw_gR C hW pc_8 (k := 2) (by decide) rfl tq_398 dX9_worthFile_19 hF (fun av6 hF => ?_)
    obtain ⟨hK, hF⟩ := ps_ck_some hF
    obtain ⟨xv7, M9, hc, hF⟩ := ps_b2_some hF
    refine ps_backI (x0 := xv7) (M' := M9) hS (ps_callV C hW pc_5 mf_X6_gainByFile tq_848 tq_849 tq_847 ⟨Nat.le_of_ble_eq_true rfl, Nat.le_of_ble_eq_true rfl⟩ rfl rfl (As := [.ref (B + av5), .ref (B + av6)]) (rest := []) (c_X6_gainByFile hc) hK rfl hl.1 rfl (Nat.le_of_ble_eq_true rfl) dX9_worthFile_22 ⟨Nat.le_of_ble_eq_true rfl, Nat.le_of_ble_eq_true rfl⟩) (fun H locs hW hS => ?_)
    clear hc
    generalize M9 = M at hW hF
    refine lv_goto (tgt := 30) hx hb dX9_worthFile_25 (by decide) ?_
    exact kb_X9_worthFile_b30 C hF hW hS (lv_sub hl [] rfl)
theorem mf_X9_worthFile : ps_mf yX9_worthFile cX9_worthFile 1 ((some .int)) 0 := ⟨tq_846, tq_61, by decide +kernel, by decide +kernel, by decide +kernel⟩
theorem c_X9_worthFile {l : Launch} {D : va_G} {Y : ps_A} {B : Nat} {M : ps_M} {a0 : Nat} {r : Int32} {M' : ps_M} (hF : f_X9_worthFile M a0 = some (r, M')) : Met l yX9_worthFile (Cond.code yX9_worthFile cX9_worthFile 1 ((some .int)) :: tb_G) rm_X9_worthFile (ps_PB D Y B M [.ref (B + a0)]) (va_Qi (fun x (_ : Unit) => x = r) (fun _ t => ps_St D Y B M' t) (fun q => B ≤ q)) 0 0 (fun q => B ≤ q) :=
  pm_of (by decide +kernel) (Nat.le_of_ble_eq_true rfl) (fun p e s m args below meth c C hW hS ls hl => kb_X9_worthFile C hF hW hS hl)

abbrev rm_X9_addCut : Room := { frames := 2, cells := 0, slots := 0, locals := 43 }
def f_X9_addCut_b31 (M : ps_M) (t0 : Int32) : Option (Int32 × ps_M) := some (t0, M)
def f_X9_addCut (M : ps_M) (a0 : Nat) (x1 : Int32) : Option (Int32 × ps_M) := ps_b2 (f_X9_isWithin M x1 (0 : Int32) (999 : Int32)) (fun xv1 M => if xv1 = 0 then (some ((-1000000002 : Int32), M)) else (ps_ck M a0 4 (ps_b2 (f_X5_add M a0 x1) (fun xv3 M => if xv3 = 0 then (f_X9_addCut_b31 M (-1000000004 : Int32)) else (ps_gI M a0 4 1 (fun xv5 => f_X9_addCut_b31 M xv5))))))
set_option maxRecDepth 100000 in
set_option maxHeartbeats 4000000 in
theorem kb_X9_addCut_b31 (C : ps_C p s m args meth c cX9_addCut 2 RX9 ((some .int)) "addCut" D Y B) {q : Int32 × ps_M}  {M : ps_M} {t0 : Int32} (hF : f_X9_addCut_b31 M t0 = some q) (hW : ps_W D Y B M H) (hS : va_S (fun q => B ≤ q) s.heap H locs) (hl : lv_has ls 2 []) : W p l e rm_X9_addCut s m args below meth c H locs 0 0 (ps_Qi D Y B below args s 0 0 q) (F0 m 31 ls [.int t0]) := by
  have hx := C.1
  have hb := C.2.1
  have hml := C.2.2.1
  have hown := C.2.2.2.1
  have hts := C.2.2.2.2.1
  unfold f_X9_addCut_b31 at hF
  exact pw_iret C hW hS dX9_addCut_31 hF
set_option maxRecDepth 100000 in
set_option maxHeartbeats 4000000 in
theorem kb_X9_addCut (C : ps_C p s m args meth c cX9_addCut 2 RX9 ((some .int)) "addCut" D Y B) {q : Int32 × ps_M}  {M : ps_M} {a0 : Nat} {x1 : Int32} (hF : f_X9_addCut M a0 x1 = some q) (hW : ps_W D Y B M H) (hS : va_S (fun q => B ≤ q) s.heap H locs) (hl : lv_has ls 2 [(0, .ref (B + a0)), (1, .int x1)]) : W p l e rm_X9_addCut s m args below meth c H locs 0 0 (ps_Qi D Y B below args s 0 0 q) (F0 m 0 ls []) := by
  have hx := C.1
  have hb := C.2.1
  have hml := C.2.2.1
  have hown := C.2.2.2.1
  have hts := C.2.2.2.2.1
  unfold f_X9_addCut at hF
  refine lv_iload_n hx hb dX9_addCut_0 rfl (lv_at hl 1 rfl) ?_
  refine lv_iconst (v := 0) hx hb dX9_addCut_1 (by decide) ?_
  refine lv_sipush (v := 999) hx hb dX9_addCut_2 (by decide) ?_
  obtain ⟨xv1, M9, hc, hF⟩ := ps_b2_some hF
  refine ps_backI (x0 := xv1) (M' := M9) hS (ps_callS C hW mf_X9_isWithin tq_583 tq_582 ⟨Nat.le_of_ble_eq_true rfl, Nat.le_of_ble_eq_true rfl⟩ rfl rfl (As := [.int x1, .int (0 : Int32), .int (999 : Int32)]) (rest := []) (c_X9_isWithin hc) rfl hl.1 rfl (Nat.le_of_ble_eq_true rfl) dX9_addCut_5 ⟨Nat.le_of_ble_eq_true rfl, Nat.le_of_ble_eq_true rfl⟩) (fun H locs hW hS => ?_)
  clear hc
  generalize M9 = M at hW hF
  refine lv_if_ne (tgt := 14) hx hb dX9_addCut_8 (by decide) (fun hv2 => ?_) (fun hv2 => ?_)
  · replace hF := (if_neg hv2).symm.trans hF
    refine lv_aload_n hx hb dX9_addCut_14 rfl (lv_at hl 0 rfl) ?_
    refine lv_iload_n hx hb dX9_addCut_15 rfl (lv_at hl 1 rfl) ?_
    obtain ⟨hK, hF⟩ := ps_ck_some hF
    obtain ⟨xv3, M9, hc, hF⟩ := ps_b2_some hF
    refine ps_backI (x0 := xv3) (M' := M9) hS (ps_callV C hW pc_4 mf_X5_add tq_436 tq_437 tq_435 ⟨Nat.le_of_ble_eq_true rfl, Nat.le_of_ble_eq_true rfl⟩ rfl rfl (As := [.int x1]) (rest := []) (c_X5_add hc) hK rfl hl.1 rfl (Nat.le_of_ble_eq_true rfl) dX9_addCut_16 ⟨Nat.le_of_ble_eq_true rfl, Nat.le_of_ble_eq_true rfl⟩) (fun H locs hW hS => ?_)
    clear hc
    generalize M9 = M at hW hF
    refine lv_if_eq (tgt := 29) hx hb dX9_addCut_19 (by decide) (fun hv4 => ?_) (fun hv4 => ?_)
    · replace hF := (if_pos hv4).symm.trans hF
      refine lv_ldc (v := -1000000004) hx hb hown (hts _ tq_442) dX9_addCut_29 ?_
      exact kb_X9_addCut_b31 C hF hW hS (lv_sub hl [] rfl)
    · replace hF := (if_neg hv4).symm.trans hF
      refine lv_aload_n hx hb dX9_addCut_22 rfl (lv_at hl 0 rfl) ?_
      refine pw_gI C hW pc_4 (k := 1) (by decide) rfl tq_178 dX9_addCut_23 hF (fun xv5 hF => ?_)
      refine lv_goto (tgt := 31) hx hb dX9_addCut_26 (by decide) ?_
      exact kb_X9_addCut_b31 C hF hW hS (lv_sub hl [] rfl)
  · replace hF := (if_pos hv2).symm.trans hF
    refine lv_ldc (v := -1000000002) hx hb hown (hts _ tq_434) dX9_addCut_11 ?_
    exact pw_iret C hW hS dX9_addCut_13 hF
theorem mf_X9_addCut : ps_mf yX9_addCut cX9_addCut 2 ((some .int)) 2 := ⟨tq_857, tq_61, by decide +kernel, by decide +kernel, by decide +kernel⟩
theorem c_X9_addCut {l : Launch} {D : va_G} {Y : ps_A} {B : Nat} {M : ps_M} {a0 : Nat} {x1 : Int32} {r : Int32} {M' : ps_M} (hF : f_X9_addCut M a0 x1 = some (r, M')) : Met l yX9_addCut (Cond.code yX9_addCut cX9_addCut 2 ((some .int)) :: tb_G) rm_X9_addCut (ps_PB D Y B M [.ref (B + a0), .int x1]) (va_Qi (fun x (_ : Unit) => x = r) (fun _ t => ps_St D Y B M' t) (fun q => B ≤ q)) 0 0 (fun q => B ≤ q) :=
  pm_of (by decide +kernel) (Nat.le_of_ble_eq_true rfl) (fun p e s m args below meth c C hW hS ls hl => kb_X9_addCut C hF hW hS hl)

abbrev rm_X9_see : Room := { frames := 3, cells := 0, slots := 0, locals := 64 }
def f_X9_see (M : ps_M) (a0 : Nat) (x1 : Int32) : Option (Int32 × ps_M) := ps_gR M a0 8 6 (fun av1 => ps_b2 (f_X9_addCut M av1 x1) (fun xv2 M => some (xv2, M)))
set_option maxRecDepth 100000 in
set_option maxHeartbeats 4000000 in
theorem kb_X9_see (C : ps_C p s m args meth c cX9_see 2 RX9 ((some .int)) "see" D Y B) {q : Int32 × ps_M}  {M : ps_M} {a0 : Nat} {x1 : Int32} (hF : f_X9_see M a0 x1 = some q) (hW : ps_W D Y B M H) (hS : va_S (fun q => B ≤ q) s.heap H locs) (hl : lv_has ls 2 [(0, .ref (B + a0)), (1, .int x1)]) : W p l e rm_X9_see s m args below meth c H locs 0 0 (ps_Qi D Y B below args s 0 0 q) (F0 m 0 ls []) := by
  have hx := C.1
  have hb := C.2.1
  have hml := C.2.2.1
  have hown := C.2.2.2.1
  have hts := C.2.2.2.2.1
  unfold f_X9_see at hF
  refine lv_aload_n hx hb dX9_see_0 rfl (lv_at hl 0 rfl) ?_
  refine pw_gR C hW pc_8 (k := 6) (by decide) rfl tq_402 dX9_see_1 hF (fun av1 hF => ?_)
  refine lv_iload_n hx hb dX9_see_4 rfl (lv_at hl 1 rfl) ?_
  obtain ⟨xv2, M9, hc, hF⟩ := ps_b2_some hF
  refine ps_backI (x0 := xv2) (M' := M9) hS (ps_callS C hW mf_X9_addCut tq_856 tq_855 ⟨Nat.le_of_ble_eq_true rfl, Nat.le_of_ble_eq_true rfl⟩ rfl rfl (As := [.ref (B + av1), .int x1]) (rest := []) (c_X9_addCut hc) rfl hl.1 rfl (Nat.le_of_ble_eq_true rfl) dX9_see_5 ⟨Nat.le_of_ble_eq_true rfl, Nat.le_of_ble_eq_true rfl⟩) (fun H locs hW hS => ?_)
  clear hc
  generalize M9 = M at hW hF
  exact pw_iret C hW hS dX9_see_8 hF
theorem mf_X9_see : ps_mf yX9_see cX9_see 2 ((some .int)) 1 := ⟨tq_854, tq_61, by decide +kernel, by decide +kernel, by decide +kernel⟩
theorem c_X9_see {l : Launch} {D : va_G} {Y : ps_A} {B : Nat} {M : ps_M} {a0 : Nat} {x1 : Int32} {r : Int32} {M' : ps_M} (hF : f_X9_see M a0 x1 = some (r, M')) : Met l yX9_see (Cond.code yX9_see cX9_see 2 ((some .int)) :: tb_G) rm_X9_see (ps_PB D Y B M [.ref (B + a0), .int x1]) (va_Qi (fun x (_ : Unit) => x = r) (fun _ t => ps_St D Y B M' t) (fun q => B ≤ q)) 0 0 (fun q => B ≤ q) :=
  pm_of (by decide +kernel) (Nat.le_of_ble_eq_true rfl) (fun p e s m args below meth c C hW hS ls hl => kb_X9_see C hF hW hS hl)

abbrev rm_X9_habits : Room := { frames := 5, cells := 0, slots := 0, locals := 121 }
def f_X9_habits_b36 (M : ps_M) (t0 : Int32) : Option (Int32 × ps_M) := some (t0, M)
def f_X9_habits (M : ps_M) (a0 : Nat) (x1 : Int32) (x2 : Int32) : Option (Int32 × ps_M) := ps_ck M a0 8 (ps_b2 (f_X9_refusalOfTwo M a0 x1 x2) (fun xv1 M => if xv1 = 0 then (ps_gR M a0 8 4 (fun av3 => ps_gR M a0 8 0 (fun av4 => ps_gR M a0 8 2 (fun av5 => ps_gR M a0 8 6 (fun av6 => ps_ck M av3 5 (ps_b2 (f_X6_habitsThatFit M av3 av4 av5 x1 x2 av6) (fun xv7 M => f_X9_habits_b36 M xv7))))))) else (f_X9_habits_b36 M xv1)))
set_option maxRecDepth 100000 in
set_option maxHeartbeats 4000000 in
theorem kb_X9_habits_b36 (C : ps_C p s m args meth c cX9_habits 4 RX9 ((some .int)) "habits" D Y B) {q : Int32 × ps_M}  {M : ps_M} {t0 : Int32} (hF : f_X9_habits_b36 M t0 = some q) (hW : ps_W D Y B M H) (hS : va_S (fun q => B ≤ q) s.heap H locs) (hl : lv_has ls 4 []) : W p l e rm_X9_habits s m args below meth c H locs 0 0 (ps_Qi D Y B below args s 0 0 q) (F0 m 36 ls [.int t0]) := by
  have hx := C.1
  have hb := C.2.1
  have hml := C.2.2.1
  have hown := C.2.2.2.1
  have hts := C.2.2.2.2.1
  unfold f_X9_habits_b36 at hF
  exact pw_iret C hW hS dX9_habits_36 hF
set_option maxRecDepth 100000 in
set_option maxHeartbeats 4000000 in
theorem kb_X9_habits (C : ps_C p s m args meth c cX9_habits 4 RX9 ((some .int)) "habits" D Y B) {q : Int32 × ps_M}  {M : ps_M} {a0 : Nat} {x1 : Int32} {x2 : Int32} (hF : f_X9_habits M a0 x1 x2 = some q) (hW : ps_W D Y B M H) (hS : va_S (fun q => B ≤ q) s.heap H locs) (hl : lv_has ls 4 [(0, .ref (B + a0)), (1, .int x1), (2, .int x2)]) : W p l e rm_X9_habits s m args below meth c H locs 0 0 (ps_Qi D Y B below args s 0 0 q) (F0 m 0 ls []) := by
  have hx := C.1
  have hb := C.2.1
  have hml := C.2.2.1
  have hown := C.2.2.2.1
  have hts := C.2.2.2.2.1
  unfold f_X9_habits at hF
  refine lv_aload_n hx hb dX9_habits_0 rfl (lv_at hl 0 rfl) ?_
  refine lv_iload_n hx hb dX9_habits_1 rfl (lv_at hl 1 rfl) ?_
  refine lv_iload_n hx hb dX9_habits_2 rfl (lv_at hl 2 rfl) ?_
  obtain ⟨hK, hF⟩ := ps_ck_some hF
  obtain ⟨xv1, M9, hc, hF⟩ := ps_b2_some hF
  refine ps_backI (x0 := xv1) (M' := M9) hS (ps_callV C hW pc_8 mf_X9_refusalOfTwo tq_565 tq_9 tq_563 ⟨Nat.le_of_ble_eq_true rfl, Nat.le_of_ble_eq_true rfl⟩ rfl rfl (As := [.int x1, .int x2]) (rest := []) (c_X9_refusalOfTwo hc) hK rfl hl.1 rfl (Nat.le_of_ble_eq_true rfl) dX9_habits_3 ⟨Nat.le_of_ble_eq_true rfl, Nat.le_of_ble_eq_true rfl⟩) (fun H locs hW hS => ?_)
  clear hc
  generalize M9 = M at hW hF
  refine lv_istore_n (lv' := [(3, .int xv1), (0, .ref (B + a0)), (1, .int x1), (2, .int x2)]) hx hb dX9_habits_6 rfl hl (by decide) rfl (fun ls hl => ?_)
  refine lv_iload_n hx hb dX9_habits_7 rfl (lv_at hl 0 rfl) ?_
  refine lv_if_eq (tgt := 15) hx hb dX9_habits_8 (by decide) (fun hv2 => ?_) (fun hv2 => ?_)
  · replace hF := (if_pos hv2).symm.trans hF
    refine lv_aload_n hx hb dX9_habits_15 rfl (lv_at hl 1 rfl) ?_
    refine pw_gR C hW pc_8 (k := 4) (by decide) rfl tq_400 dX9_habits_16 hF (fun av3 hF => ?_)
    refine lv_aload_n hx hb dX9_habits_19 rfl (lv_at hl 1 rfl) ?_
    refine pw_gR C hW pc_8 (k := 0) (by decide) rfl tq_396 dX9_habits_20 hF (fun av4 hF => ?_)
    refine lv_aload_n hx hb dX9_habits_23 rfl (lv_at hl 1 rfl) ?_
    refine pw_gR C hW pc_8 (k := 2) (by decide) rfl tq_398 dX9_habits_24 hF (fun av5 hF => ?_)
    refine lv_iload_n hx hb dX9_habits_27 rfl (lv_at hl 2 rfl) ?_
    refine lv_iload_n hx hb dX9_habits_28 rfl (lv_at hl 3 rfl) ?_
    refine lv_aload_n hx hb dX9_habits_29 rfl (lv_at hl 1 rfl) ?_
    refine pw_gR C hW pc_8 (k := 6) (by decide) rfl tq_402 dX9_habits_30 hF (fun av6 hF => ?_)
    obtain ⟨hK, hF⟩ := ps_ck_some hF
    obtain ⟨xv7, M9, hc, hF⟩ := ps_b2_some hF
    refine ps_backI (x0 := xv7) (M' := M9) hS (ps_callV C hW pc_5 mf_X6_habitsThatFit tq_863 tq_864 tq_862 ⟨Nat.le_of_ble_eq_true rfl, Nat.le_of_ble_eq_true rfl⟩ rfl rfl (As := [.ref (B + av4), .ref (B + av5), .int x1, .int x2, .ref (B + av6)]) (rest := []) (c_X6_habitsThatFit hc) hK rfl hl.1 rfl (Nat.le_of_ble_eq_true rfl) dX9_habits_33 ⟨Nat.le_of_ble_eq_true rfl, Nat.le_of_ble_eq_true rfl⟩) (fun H locs hW hS => ?_)
    clear hc
    generalize M9 = M at hW hF
    exact kb_X9_habits_b36 C hF hW hS (lv_sub hl [] rfl)
  · replace hF := (if_neg hv2).symm.trans hF
    refine lv_iload_n hx hb dX9_habits_11 rfl (lv_at hl 0 rfl) ?_
    refine lv_goto (tgt := 36) hx hb dX9_habits_12 (by decide) ?_
    exact kb_X9_habits_b36 C hF hW hS (lv_sub hl [] rfl)
theorem mf_X9_habits : ps_mf yX9_habits cX9_habits 4 ((some .int)) 2 := ⟨tq_861, tq_61, by decide +kernel, by decide +kernel, by decide +kernel⟩
theorem c_X9_habits {l : Launch} {D : va_G} {Y : ps_A} {B : Nat} {M : ps_M} {a0 : Nat} {x1 : Int32} {x2 : Int32} {r : Int32} {M' : ps_M} (hF : f_X9_habits M a0 x1 x2 = some (r, M')) : Met l yX9_habits (Cond.code yX9_habits cX9_habits 4 ((some .int)) :: tb_G) rm_X9_habits (ps_PB D Y B M [.ref (B + a0), .int x1, .int x2]) (va_Qi (fun x (_ : Unit) => x = r) (fun _ t => ps_St D Y B M' t) (fun q => B ≤ q)) 0 0 (fun q => B ≤ q) :=
  pm_of (by decide +kernel) (Nat.le_of_ble_eq_true rfl) (fun p e s m args below meth c C hW hS ls hl => kb_X9_habits C hF hW hS hl)

abbrev rm_X9_end : Room := { frames := 6, cells := 0, slots := 0, locals := 146 }
def f_X9_end_b35 (M : ps_M) (t0 : Int32) : Option (Int32 × ps_M) := some (t0, M)
def f_X9_end (M : ps_M) (a0 : Nat) (x1 : Int32) : Option (Int32 × ps_M) := ps_gR M a0 8 0 (fun av1 => ps_gI M av1 7 0 (fun xv2 => if xv2 = 0 then (f_X9_end_b35 M (-1000000003 : Int32)) else (ps_gR M a0 8 4 (fun av4 => ps_gR M a0 8 0 (fun av5 => ps_gR M a0 8 2 (fun av6 => ps_gR M a0 8 6 (fun av7 => ps_ck M av4 5 (ps_b2 (f_X6_pairThatFits M av4 av5 av6 av7 x1) (fun xv8 M => f_X9_end_b35 M xv8)))))))))
set_option maxRecDepth 100000 in
set_option maxHeartbeats 4000000 in
theorem kb_X9_end_b35 (C : ps_C p s m args meth c cX9_end 2 RX9 ((some .int)) "end" D Y B) {q : Int32 × ps_M}  {M : ps_M} {t0 : Int32} (hF : f_X9_end_b35 M t0 = some q) (hW : ps_W D Y B M H) (hS : va_S (fun q => B ≤ q) s.heap H locs) (hl : lv_has ls 2 []) : W p l e rm_X9_end s m args below meth c H locs 0 0 (ps_Qi D Y B below args s 0 0 q) (F0 m 35 ls [.int t0]) := by
  have hx := C.1
  have hb := C.2.1
  have hml := C.2.2.1
  have hown := C.2.2.2.1
  have hts := C.2.2.2.2.1
  unfold f_X9_end_b35 at hF
  exact pw_iret C hW hS dX9_end_35 hF
set_option maxRecDepth 100000 in
set_option maxHeartbeats 4000000 in
theorem kb_X9_end (C : ps_C p s m args meth c cX9_end 2 RX9 ((some .int)) "end" D Y B) {q : Int32 × ps_M}  {M : ps_M} {a0 : Nat} {x1 : Int32} (hF : f_X9_end M a0 x1 = some q) (hW : ps_W D Y B M H) (hS : va_S (fun q => B ≤ q) s.heap H locs) (hl : lv_has ls 2 [(0, .ref (B + a0)), (1, .int x1)]) : W p l e rm_X9_end s m args below meth c H locs 0 0 (ps_Qi D Y B below args s 0 0 q) (F0 m 0 ls []) := by
  have hx := C.1
  have hb := C.2.1
  have hml := C.2.2.1
  have hown := C.2.2.2.1
  have hts := C.2.2.2.2.1
  unfold f_X9_end at hF
  refine lv_aload_n hx hb dX9_end_0 rfl (lv_at hl 0 rfl) ?_
  refine pw_gR C hW pc_8 (k := 0) (by decide) rfl tq_396 dX9_end_1 hF (fun av1 hF => ?_)
  refine pw_gI C hW pc_7 (k := 0) (by decide) rfl tq_89 dX9_end_4 hF (fun xv2 hF => ?_)
  refine lv_if_ne (tgt := 15) hx hb dX9_end_7 (by decide) (fun hv3 => ?_) (fun hv3 => ?_)
  · replace hF := (if_neg hv3).symm.trans hF
    refine lv_aload_n hx hb dX9_end_15 rfl (lv_at hl 0 rfl) ?_
    refine pw_gR C hW pc_8 (k := 4) (by decide) rfl tq_400 dX9_end_16 hF (fun av4 hF => ?_)
    refine lv_aload_n hx hb dX9_end_19 rfl (lv_at hl 0 rfl) ?_
    refine pw_gR C hW pc_8 (k := 0) (by decide) rfl tq_396 dX9_end_20 hF (fun av5 hF => ?_)
    refine lv_aload_n hx hb dX9_end_23 rfl (lv_at hl 0 rfl) ?_
    refine pw_gR C hW pc_8 (k := 2) (by decide) rfl tq_398 dX9_end_24 hF (fun av6 hF => ?_)
    refine lv_aload_n hx hb dX9_end_27 rfl (lv_at hl 0 rfl) ?_
    refine pw_gR C hW pc_8 (k := 6) (by decide) rfl tq_402 dX9_end_28 hF (fun av7 hF => ?_)
    refine lv_iload_n hx hb dX9_end_31 rfl (lv_at hl 1 rfl) ?_
    obtain ⟨hK, hF⟩ := ps_ck_some hF
    obtain ⟨xv8, M9, hc, hF⟩ := ps_b2_some hF
    refine ps_backI (x0 := xv8) (M' := M9) hS (ps_callV C hW pc_5 mf_X6_pairThatFits tq_876 tq_877 tq_875 ⟨Nat.le_of_ble_eq_true rfl, Nat.le_of_ble_eq_true rfl⟩ rfl rfl (As := [.ref (B + av5), .ref (B + av6), .ref (B + av7), .int x1]) (rest := []) (c_X6_pairThatFits hc) hK rfl hl.1 rfl (Nat.le_of_ble_eq_true rfl) dX9_end_32 ⟨Nat.le_of_ble_eq_true rfl, Nat.le_of_ble_eq_true rfl⟩) (fun H locs hW hS => ?_)
    clear hc
    generalize M9 = M at hW hF
    exact kb_X9_end_b35 C hF hW hS (lv_sub hl [] rfl)
  · replace hF := (if_pos hv3).symm.trans hF
    refine lv_ldc (v := -1000000003) hx hb hown (hts _ tq_572) dX9_end_10 ?_
    refine lv_goto (tgt := 35) hx hb dX9_end_12 (by decide) ?_
    exact kb_X9_end_b35 C hF hW hS (lv_sub hl [] rfl)
theorem mf_X9_end : ps_mf yX9_end cX9_end 2 ((some .int)) 1 := ⟨tq_874, tq_61, by decide +kernel, by decide +kernel, by decide +kernel⟩
theorem c_X9_end {l : Launch} {D : va_G} {Y : ps_A} {B : Nat} {M : ps_M} {a0 : Nat} {x1 : Int32} {r : Int32} {M' : ps_M} (hF : f_X9_end M a0 x1 = some (r, M')) : Met l yX9_end (Cond.code yX9_end cX9_end 2 ((some .int)) :: tb_G) rm_X9_end (ps_PB D Y B M [.ref (B + a0), .int x1]) (va_Qi (fun x (_ : Unit) => x = r) (fun _ t => ps_St D Y B M' t) (fun q => B ≤ q)) 0 0 (fun q => B ≤ q) :=
  pm_of (by decide +kernel) (Nat.le_of_ble_eq_true rfl) (fun p e s m args below meth c C hW hS ls hl => kb_X9_end C hF hW hS hl)

abbrev rm_X9_write : Room := { frames := 3, cells := 0, slots := 0, locals := 64 }
def f_X9_write (M : ps_M) (a0 : Nat) (x1 : Int32) : Option (Int32 × ps_M) := ps_gR M a0 8 7 (fun av1 => ps_b2 (f_X9_addCut M av1 x1) (fun xv2 M => some (xv2, M)))
set_option maxRecDepth 100000 in
set_option maxHeartbeats 4000000 in
theorem kb_X9_write (C : ps_C p s m args meth c cX9_write 2 RX9 ((some .int)) "write" D Y B) {q : Int32 × ps_M}  {M : ps_M} {a0 : Nat} {x1 : Int32} (hF : f_X9_write M a0 x1 = some q) (hW : ps_W D Y B M H) (hS : va_S (fun q => B ≤ q) s.heap H locs) (hl : lv_has ls 2 [(0, .ref (B + a0)), (1, .int x1)]) : W p l e rm_X9_write s m args below meth c H locs 0 0 (ps_Qi D Y B below args s 0 0 q) (F0 m 0 ls []) := by
  have hx := C.1
  have hb := C.2.1
  have hml := C.2.2.1
  have hown := C.2.2.2.1
  have hts := C.2.2.2.2.1
  unfold f_X9_write at hF
  refine lv_aload_n hx hb dX9_write_0 rfl (lv_at hl 0 rfl) ?_
  refine pw_gR C hW pc_8 (k := 7) (by decide) rfl tq_403 dX9_write_1 hF (fun av1 hF => ?_)
  refine lv_iload_n hx hb dX9_write_4 rfl (lv_at hl 1 rfl) ?_
  obtain ⟨xv2, M9, hc, hF⟩ := ps_b2_some hF
  refine ps_backI (x0 := xv2) (M' := M9) hS (ps_callS C hW mf_X9_addCut tq_856 tq_855 ⟨Nat.le_of_ble_eq_true rfl, Nat.le_of_ble_eq_true rfl⟩ rfl rfl (As := [.ref (B + av1), .int x1]) (rest := []) (c_X9_addCut hc) rfl hl.1 rfl (Nat.le_of_ble_eq_true rfl) dX9_write_5 ⟨Nat.le_of_ble_eq_true rfl, Nat.le_of_ble_eq_true rfl⟩) (fun H locs hW hS => ?_)
  clear hc
  generalize M9 = M at hW hF
  exact pw_iret C hW hS dX9_write_8 hF
theorem mf_X9_write : ps_mf yX9_write cX9_write 2 ((some .int)) 1 := ⟨tq_886, tq_61, by decide +kernel, by decide +kernel, by decide +kernel⟩
theorem c_X9_write {l : Launch} {D : va_G} {Y : ps_A} {B : Nat} {M : ps_M} {a0 : Nat} {x1 : Int32} {r : Int32} {M' : ps_M} (hF : f_X9_write M a0 x1 = some (r, M')) : Met l yX9_write (Cond.code yX9_write cX9_write 2 ((some .int)) :: tb_G) rm_X9_write (ps_PB D Y B M [.ref (B + a0), .int x1]) (va_Qi (fun x (_ : Unit) => x = r) (fun _ t => ps_St D Y B M' t) (fun q => B ≤ q)) 0 0 (fun q => B ≤ q) :=
  pm_of (by decide +kernel) (Nat.le_of_ble_eq_true rfl) (fun p e s m args below meth c C hW hS ls hl => kb_X9_write C hF hW hS hl)

abbrev rm_X9_judge : Room := { frames := 5, cells := 0, slots := 0, locals := 117 }
def f_X9_judge_b34 (M : ps_M) (t0 : Int32) : Option (Int32 × ps_M) := some (t0, M)
def f_X9_judge (M : ps_M) (a0 : Nat) : Option (Int32 × ps_M) := ps_gR M a0 8 2 (fun av1 => ps_ck M av1 6 (ps_b2 (f_X7_hasPair M av1 ) (fun xv2 M => if xv2 = 0 then (f_X9_judge_b34 M (-1000000003 : Int32)) else (ps_gR M a0 8 4 (fun av4 => ps_gR M a0 8 0 (fun av5 => ps_gR M a0 8 2 (fun av6 => ps_gR M a0 8 7 (fun av7 => ps_ck M av4 5 (ps_b2 (f_X6_wrongLine M av4 av5 av6 av7) (fun xv8 M => f_X9_judge_b34 M xv8))))))))))
set_option maxRecDepth 100000 in
set_option maxHeartbeats 4000000 in
theorem kb_X9_judge_b34 (C : ps_C p s m args meth c cX9_judge 1 RX9 ((some .int)) "judge" D Y B) {q : Int32 × ps_M}  {M : ps_M} {t0 : Int32} (hF : f_X9_judge_b34 M t0 = some q) (hW : ps_W D Y B M H) (hS : va_S (fun q => B ≤ q) s.heap H locs) (hl : lv_has ls 1 []) : W p l e rm_X9_judge s m args below meth c H locs 0 0 (ps_Qi D Y B below args s 0 0 q) (F0 m 34 ls [.int t0]) := by
  have hx := C.1
  have hb := C.2.1
  have hml := C.2.2.1
  have hown := C.2.2.2.1
  have hts := C.2.2.2.2.1
  unfold f_X9_judge_b34 at hF
  exact pw_iret C hW hS dX9_judge_34 hF
set_option maxRecDepth 100000 in
set_option maxHeartbeats 4000000 in
theorem kb_X9_judge (C : ps_C p s m args meth c cX9_judge 1 RX9 ((some .int)) "judge" D Y B) {q : Int32 × ps_M}  {M : ps_M} {a0 : Nat} (hF : f_X9_judge M a0 = some q) (hW : ps_W D Y B M H) (hS : va_S (fun q => B ≤ q) s.heap H locs) (hl : lv_has ls 1 [(0, .ref (B + a0))]) : W p l e rm_X9_judge s m args below meth c H locs 0 0 (ps_Qi D Y B below args s 0 0 q) (F0 m 0 ls []) := by
  have hx := C.1
  have hb := C.2.1
  have hml := C.2.2.1
  have hown := C.2.2.2.1
  have hts := C.2.2.2.2.1
  unfold f_X9_judge at hF
  refine lv_aload_n hx hb dX9_judge_0 rfl (lv_at hl 0 rfl) ?_
  refine pw_gR C hW pc_8 (k := 2) (by decide) rfl tq_398 dX9_judge_1 hF (fun av1 hF => ?_)
  obtain ⟨hK, hF⟩ := ps_ck_some hF
  obtain ⟨xv2, M9, hc, hF⟩ := ps_b2_some hF
  refine ps_backI (x0 := xv2) (M' := M9) hS (ps_callV C hW pc_6 mf_X7_hasPair tq_586 tq_587 tq_585 ⟨Nat.le_of_ble_eq_true rfl, Nat.le_of_ble_eq_true rfl⟩ rfl rfl (As := []) (rest := []) (c_X7_hasPair hc) hK rfl hl.1 rfl (Nat.le_of_ble_eq_true rfl) dX9_judge_4 ⟨Nat.le_of_ble_eq_true rfl, Nat.le_of_ble_eq_true rfl⟩) (fun H locs hW hS => ?_)
  clear hc
  generalize M9 = M at hW hF
  refine lv_if_eq (tgt := 32) hx hb dX9_judge_7 (by decide) (fun hv3 => ?_) (fun hv3 => ?_)
  · replace hF := (if_pos hv3).symm.trans hF
    refine lv_ldc (v := -1000000003) hx hb hown (hts _ tq_572) dX9_judge_32 ?_
    exact kb_X9_judge_b34 C hF hW hS (lv_sub hl [] rfl)
  · replace hF := (if_neg hv3).symm.trans hF
    refine lv_aload_n hx hb dX9_judge_10 rfl (lv_at hl 0 rfl) ?_
    refine pw_gR C hW pc_8 (k := 4) (by decide) rfl tq_400 dX9_judge_11 hF (fun av4 hF => ?_)
    refine lv_aload_n hx hb dX9_judge_14 rfl (lv_at hl 0 rfl) ?_
    refine pw_gR C hW pc_8 (k := 0) (by decide) rfl tq_396 dX9_judge_15 hF (fun av5 hF => ?_)
    refine lv_aload_n hx hb dX9_judge_18 rfl (lv_at hl 0 rfl) ?_
    refine pw_gR C hW pc_8 (k := 2) (by decide) rfl tq_398 dX9_judge_19 hF (fun av6 hF => ?_)
    refine lv_aload_n hx hb dX9_judge_22 rfl (lv_at hl 0 rfl) ?_
    refine pw_gR C hW pc_8 (k := 7) (by decide) rfl tq_403 dX9_judge_23 hF (fun av7 hF => ?_)
    obtain ⟨hK, hF⟩ := ps_ck_some hF
    obtain ⟨xv8, M9, hc, hF⟩ := ps_b2_some hF
    refine ps_backI (x0 := xv8) (M' := M9) hS (ps_callV C hW pc_5 mf_X6_wrongLine tq_892 tq_893 tq_891 ⟨Nat.le_of_ble_eq_true rfl, Nat.le_of_ble_eq_true rfl⟩ rfl rfl (As := [.ref (B + av5), .ref (B + av6), .ref (B + av7)]) (rest := []) (c_X6_wrongLine hc) hK rfl hl.1 rfl (Nat.le_of_ble_eq_true rfl) dX9_judge_26 ⟨Nat.le_of_ble_eq_true rfl, Nat.le_of_ble_eq_true rfl⟩) (fun H locs hW hS => ?_)
    clear hc
    generalize M9 = M at hW hF
    refine lv_goto (tgt := 34) hx hb dX9_judge_29 (by decide) ?_
    exact kb_X9_judge_b34 C hF hW hS (lv_sub hl [] rfl)
theorem mf_X9_judge : ps_mf yX9_judge cX9_judge 1 ((some .int)) 0 := ⟨tq_890, tq_61, by decide +kernel, by decide +kernel, by decide +kernel⟩
theorem c_X9_judge {l : Launch} {D : va_G} {Y : ps_A} {B : Nat} {M : ps_M} {a0 : Nat} {r : Int32} {M' : ps_M} (hF : f_X9_judge M a0 = some (r, M')) : Met l yX9_judge (Cond.code yX9_judge cX9_judge 1 ((some .int)) :: tb_G) rm_X9_judge (ps_PB D Y B M [.ref (B + a0)]) (va_Qi (fun x (_ : Unit) => x = r) (fun _ t => ps_St D Y B M' t) (fun q => B ≤ q)) 0 0 (fun q => B ≤ q) :=
  pm_of (by decide +kernel) (Nat.le_of_ble_eq_true rfl) (fun p e s m args below meth c C hW hS ls hl => kb_X9_judge C hF hW hS hl)

abbrev rm_X9_tear : Room := { frames := 1, cells := 0, slots := 0, locals := 20 }
def f_X9_tear (M : ps_M) (a0 : Nat) : Option (Int32 × ps_M) := ps_gR M a0 8 6 (fun av1 => ps_gI M av1 4 1 (fun xv2 => ps_gR M a0 8 7 (fun av3 => ps_gI M av3 4 1 (fun xv4 => ps_v ((xv2 + xv4)) (fun xv5 => ps_gR M a0 8 6 (fun av6 => ps_ck M av6 4 (ps_b1 (f_X5_clear M av6 ) (fun M => ps_gR M a0 8 7 (fun av7 => ps_ck M av7 4 (ps_b1 (f_X5_clear M av7 ) (fun M => some (xv5, M))))))))))))
set_option maxRecDepth 100000 in
set_option maxHeartbeats 4000000 in
theorem kb_X9_tear (C : ps_C p s m args meth c cX9_tear 2 RX9 ((some .int)) "tear" D Y B) {q : Int32 × ps_M}  {M : ps_M} {a0 : Nat} (hF : f_X9_tear M a0 = some q) (hW : ps_W D Y B M H) (hS : va_S (fun q => B ≤ q) s.heap H locs) (hl : lv_has ls 2 [(0, .ref (B + a0))]) : W p l e rm_X9_tear s m args below meth c H locs 0 0 (ps_Qi D Y B below args s 0 0 q) (F0 m 0 ls []) := by
  have hx := C.1
  have hb := C.2.1
  have hml := C.2.2.1
  have hown := C.2.2.2.1
  have hts := C.2.2.2.2.1
  unfold f_X9_tear at hF
  refine lv_aload_n hx hb dX9_tear_0 rfl (lv_at hl 0 rfl) ?_
  refine pw_gR C hW pc_8 (k := 6) (by decide) rfl tq_402 dX9_tear_1 hF (fun av1 hF => ?_)
  refine pw_gI C hW pc_4 (k := 1) (by decide) rfl tq_178 dX9_tear_4 hF (fun xv2 hF => ?_)
  refine lv_aload_n hx hb dX9_tear_7 rfl (lv_at hl 0 rfl) ?_
  refine pw_gR C hW pc_8 (k := 7) (by decide) rfl tq_403 dX9_tear_8 hF (fun av3 hF => ?_)
  refine pw_gI C hW pc_4 (k := 1) (by decide) rfl tq_178 dX9_tear_11 hF (fun xv4 hF => ?_)
  refine lv_iadd hx hb dX9_tear_14 ?_
  refine pw_v hF (fun xv5 hF => ?_)
  refine lv_istore_n (lv' := [(1, .int xv5), (0, .ref (B + a0))]) hx hb dX9_tear_15 rfl hl (by decide) rfl (fun ls hl => ?_)
  refine lv_aload_n hx hb dX9_tear_16 rfl (lv_at hl 1 rfl) ?_
  refine pw_gR C hW pc_8 (k := 6) (by decide) rfl tq_402 dX9_tear_17 hF (fun av6 hF => ?_)
  obtain ⟨hK, hF⟩ := ps_ck_some hF
  obtain ⟨M9, hc, hF⟩ := ps_b1_some hF
  refine ps_backV (M' := M9) hS (ps_callV C hW pc_4 mf_X5_clear tq_500 tq_501 tq_522 ⟨Nat.le_of_ble_eq_true rfl, Nat.le_of_ble_eq_true rfl⟩ rfl rfl (As := []) (rest := []) (c_X5_clear hc) hK rfl hl.1 rfl (Nat.le_of_ble_eq_true rfl) dX9_tear_20 ⟨Nat.le_of_ble_eq_true rfl, Nat.le_of_ble_eq_true rfl⟩) (fun H locs hW hS => ?_)
  clear hc
  generalize M9 = M at hW hF
  refine lv_aload_n hx hb dX9_tear_23 rfl (lv_at hl 1 rfl) ?_
  refine pw_gR C hW pc_8 (k := 7) (by decide) rfl tq_403 dX9_tear_24 hF (fun av7 hF => ?_)
  obtain ⟨hK, hF⟩ := ps_ck_some hF
  obtain ⟨M9, hc, hF⟩ := ps_b1_some hF
  refine ps_backV (M' := M9) hS (ps_callV C hW pc_4 mf_X5_clear tq_500 tq_501 tq_522 ⟨Nat.le_of_ble_eq_true rfl, Nat.le_of_ble_eq_true rfl⟩ rfl rfl (As := []) (rest := []) (c_X5_clear hc) hK rfl hl.1 rfl (Nat.le_of_ble_eq_true rfl) dX9_tear_27 ⟨Nat.le_of_ble_eq_true rfl, Nat.le_of_ble_eq_true rfl⟩) (fun H locs hW hS => ?_)
  clear hc
  generalize M9 = M at hW hF
  refine lv_iload_n hx hb dX9_tear_30 rfl (lv_at hl 0 rfl) ?_
  exact pw_iret C hW hS dX9_tear_31 hF
theorem mf_X9_tear : ps_mf yX9_tear cX9_tear 2 ((some .int)) 0 := ⟨tq_898, tq_61, by decide +kernel, by decide +kernel, by decide +kernel⟩
theorem c_X9_tear {l : Launch} {D : va_G} {Y : ps_A} {B : Nat} {M : ps_M} {a0 : Nat} {r : Int32} {M' : ps_M} (hF : f_X9_tear M a0 = some (r, M')) : Met l yX9_tear (Cond.code yX9_tear cX9_tear 2 ((some .int)) :: tb_G) rm_X9_tear (ps_PB D Y B M [.ref (B + a0)]) (va_Qi (fun x (_ : Unit) => x = r) (fun _ t => ps_St D Y B M' t) (fun q => B ≤ q)) 0 0 (fun q => B ≤ q) :=
  pm_of (by decide +kernel) (Nat.le_of_ble_eq_true rfl) (fun p e s m args below meth c C hW hS ls hl => kb_X9_tear C hF hW hS hl)

abbrev rm_X9_seed : Room := { frames := 0, cells := 0, slots := 0, locals := 0 }
def f_X9_seed (M : ps_M) (a0 : Nat) (x1 : Int32) : Option (Int32 × ps_M) := if 0 ≤ x1 then (ps_gI M a0 8 10 (fun xv2 => ps_pI M a0 8 10 x1 (fun M => some (xv2, M)))) else (some ((-1000000002 : Int32), M))
set_option maxRecDepth 100000 in
set_option maxHeartbeats 4000000 in
theorem kb_X9_seed (C : ps_C p s m args meth c cX9_seed 3 RX9 ((some .int)) "seed" D Y B) {q : Int32 × ps_M}  {M : ps_M} {a0 : Nat} {x1 : Int32} (hF : f_X9_seed M a0 x1 = some q) (hW : ps_W D Y B M H) (hS : va_S (fun q => B ≤ q) s.heap H locs) (hl : lv_has ls 3 [(0, .ref (B + a0)), (1, .int x1)]) : W p l e rm_X9_seed s m args below meth c H locs 0 0 (ps_Qi D Y B below args s 0 0 q) (F0 m 0 ls []) := by
  have hx := C.1
  have hb := C.2.1
  have hml := C.2.2.1
  have hown := C.2.2.2.1
  have hts := C.2.2.2.2.1
  unfold f_X9_seed at hF
  refine lv_iload_n hx hb dX9_seed_0 rfl (lv_at hl 1 rfl) ?_
  refine lv_if_ge (tgt := 7) hx hb dX9_seed_1 (by decide) (fun hv1 => ?_) (fun hv1 => ?_)
  · replace hF := (if_pos hv1).symm.trans hF
    refine lv_aload_n hx hb dX9_seed_7 rfl (lv_at hl 0 rfl) ?_
    refine pw_gI C hW pc_8 (k := 10) (by decide) rfl tq_406 dX9_seed_8 hF (fun xv2 hF => ?_)
    refine lv_istore_n (lv' := [(2, .int xv2), (0, .ref (B + a0)), (1, .int x1)]) hx hb dX9_seed_11 rfl hl (by decide) rfl (fun ls hl => ?_)
    refine lv_aload_n hx hb dX9_seed_12 rfl (lv_at hl 1 rfl) ?_
    refine lv_iload_n hx hb dX9_seed_13 rfl (lv_at hl 2 rfl) ?_
    refine pw_pI C hW hS pc_8 (k := 10) (by decide) rfl rfl tq_406 rfl dX9_seed_14 hF (fun M H locs hW hS hF => ?_)
    refine lv_iload_n hx hb dX9_seed_17 rfl (lv_at hl 0 rfl) ?_
    exact pw_iret C hW hS dX9_seed_18 hF
  · replace hF := (if_neg hv1).symm.trans hF
    refine lv_ldc (v := -1000000002) hx hb hown (hts _ tq_434) dX9_seed_4 ?_
    exact pw_iret C hW hS dX9_seed_6 hF
theorem mf_X9_seed : ps_mf yX9_seed cX9_seed 3 ((some .int)) 1 := ⟨tq_902, tq_61, by decide +kernel, by decide +kernel, by decide +kernel⟩
theorem c_X9_seed {l : Launch} {D : va_G} {Y : ps_A} {B : Nat} {M : ps_M} {a0 : Nat} {x1 : Int32} {r : Int32} {M' : ps_M} (hF : f_X9_seed M a0 x1 = some (r, M')) : Met l yX9_seed (Cond.code yX9_seed cX9_seed 3 ((some .int)) :: tb_G) rm_X9_seed (ps_PB D Y B M [.ref (B + a0), .int x1]) (va_Qi (fun x (_ : Unit) => x = r) (fun _ t => ps_St D Y B M' t) (fun q => B ≤ q)) 0 0 (fun q => B ≤ q) :=
  pm_of (by decide +kernel) (Nat.le_of_ble_eq_true rfl) (fun p e s m args below meth c C hW hS ls hl => kb_X9_seed C hF hW hS hl)

abbrev rm_X9_keep : Room := { frames := 2, cells := 0, slots := 0, locals := 43 }
def f_X9_keep_b27 (M : ps_M) (a0 : Nat) (t0 : Nat) : Option (Int32 × ps_M) := ps_gR M t0 1 0 (fun av1 => ps_gR M a0 8 2 (fun av2 => ps_ck M av1 6 (ps_b1 (f_X7_become M av1 av2) (fun M => ps_gI M a0 8 10 (fun xv3 => ps_pI M t0 1 1 xv3 (fun M => ps_pZ M t0 1 2 (1 : Int32) (fun M => ps_gR M a0 8 3 (fun av4 => ps_ck M av4 2 (ps_b1 (f_X2_clear M av4 ) (fun M => some ((1 : Int32), M)))))))))))
def f_X9_keep (M : ps_M) (a0 : Nat) (x1 : Int32) : Option (Int32 × ps_M) := ps_b2 (f_X9_isWithin M x1 (0 : Int32) (1 : Int32)) (fun xv5 M => if xv5 = 0 then (some ((-1000000001 : Int32), M)) else (if x1 = 0 then (ps_gR M a0 8 8 (fun av9 => f_X9_keep_b27 M a0 av9)) else (ps_gR M a0 8 9 (fun av8 => f_X9_keep_b27 M a0 av8))))
set_option maxRecDepth 100000 in
set_option maxHeartbeats 4000000 in
theorem kb_X9_keep_b27 (C : ps_C p s m args meth c cX9_keep 3 RX9 ((some .int)) "keep" D Y B) {q : Int32 × ps_M}  {M : ps_M} {a0 : Nat} {t0 : Nat} (hF : f_X9_keep_b27 M a0 t0 = some q) (hW : ps_W D Y B M H) (hS : va_S (fun q => B ≤ q) s.heap H locs) (hl : lv_has ls 3 [(0, .ref (B + a0))]) : W p l e rm_X9_keep s m args below meth c H locs 0 0 (ps_Qi D Y B below args s 0 0 q) (F0 m 27 ls [.ref (B + t0)]) := by
  have hx := C.1
  have hb := C.2.1
  have hml := C.2.2.1
  have hown := C.2.2.2.1
  have hts := C.2.2.2.2.1
  unfold f_X9_keep_b27 at hF
  refine lv_astore_n (lv' := [(2, .ref (B + t0)), (0, .ref (B + a0))]) hx hb dX9_keep_27 rfl hl (by decide) rfl (fun ls hl => ?_)
  refine lv_aload_n hx hb dX9_keep_28 rfl (lv_at hl 0 rfl) ?_
  refine pw_gR C hW pc_1 (k := 0) (by decide) rfl tq_386 dX9_keep_29 hF (fun av1 hF => ?_)
  refine lv_aload_n hx hb dX9_keep_32 rfl (lv_at hl 1 rfl) ?_
  refine pw_gR C hW pc_8 (k := 2) (by decide) rfl tq_398 dX9_keep_33 hF (fun av2 hF => ?_)
  obtain ⟨hK, hF⟩ := ps_ck_some hF
  obtain ⟨M9, hc, hF⟩ := ps_b1_some hF
  refine ps_backV (M' := M9) hS (ps_callV C hW pc_6 mf_X7_become tq_598 tq_599 tq_907 ⟨Nat.le_of_ble_eq_true rfl, Nat.le_of_ble_eq_true rfl⟩ rfl rfl (As := [.ref (B + av2)]) (rest := []) (c_X7_become hc) hK rfl hl.1 rfl (Nat.le_of_ble_eq_true rfl) dX9_keep_36 ⟨Nat.le_of_ble_eq_true rfl, Nat.le_of_ble_eq_true rfl⟩) (fun H locs hW hS => ?_)
  clear hc
  generalize M9 = M at hW hF
  refine lv_aload_n hx hb dX9_keep_39 rfl (lv_at hl 0 rfl) ?_
  refine lv_aload_n hx hb dX9_keep_40 rfl (lv_at hl 1 rfl) ?_
  refine pw_gI C hW pc_8 (k := 10) (by decide) rfl tq_406 dX9_keep_41 hF (fun xv3 hF => ?_)
  refine pw_pI C hW hS pc_1 (k := 1) (by decide) rfl rfl tq_387 rfl dX9_keep_44 hF (fun M H locs hW hS hF => ?_)
  refine lv_aload_n hx hb dX9_keep_47 rfl (lv_at hl 0 rfl) ?_
  refine lv_iconst (v := 1) hx hb dX9_keep_48 (by decide) ?_
  refine pw_pZ C hW hS pc_1 (k := 2) (by decide) rfl rfl tq_388 rfl dX9_keep_49 hF (fun M H locs hW hS hF => ?_)
  refine lv_aload_n hx hb dX9_keep_52 rfl (lv_at hl 1 rfl) ?_
  refine pw_gR C hW pc_8 (k := 3) (by decide) rfl tq_399 dX9_keep_53 hF (fun av4 hF => ?_)
  obtain ⟨hK, hF⟩ := ps_ck_some hF
  obtain ⟨M9, hc, hF⟩ := ps_b1_some hF
  refine ps_backV (M' := M9) hS (ps_callV C hW pc_2 mf_X2_clear tq_524 tq_525 tq_523 ⟨Nat.le_of_ble_eq_true rfl, Nat.le_of_ble_eq_true rfl⟩ rfl rfl (As := []) (rest := []) (c_X2_clear hc) hK rfl hl.1 rfl (Nat.le_of_ble_eq_true rfl) dX9_keep_56 ⟨Nat.le_of_ble_eq_true rfl, Nat.le_of_ble_eq_true rfl⟩) (fun H locs hW hS => ?_)
  clear hc
  generalize M9 = M at hW hF
  refine lv_iconst (v := 1) hx hb dX9_keep_59 (by decide) ?_
  exact pw_iret C hW hS dX9_keep_60 hF
set_option maxRecDepth 100000 in
set_option maxHeartbeats 4000000 in
theorem kb_X9_keep (C : ps_C p s m args meth c cX9_keep 3 RX9 ((some .int)) "keep" D Y B) {q : Int32 × ps_M}  {M : ps_M} {a0 : Nat} {x1 : Int32} (hF : f_X9_keep M a0 x1 = some q) (hW : ps_W D Y B M H) (hS : va_S (fun q => B ≤ q) s.heap H locs) (hl : lv_has ls 3 [(0, .ref (B + a0)), (1, .int x1)]) : W p l e rm_X9_keep s m args below meth c H locs 0 0 (ps_Qi D Y B below args s 0 0 q) (F0 m 0 ls []) := by
  have hx := C.1
  have hb := C.2.1
  have hml := C.2.2.1
  have hown := C.2.2.2.1
  have hts := C.2.2.2.2.1
  unfold f_X9_keep at hF
  refine lv_iload_n hx hb dX9_keep_0 rfl (lv_at hl 1 rfl) ?_
  refine lv_iconst (v := 0) hx hb dX9_keep_1 (by decide) ?_
  refine lv_iconst (v := 1) hx hb dX9_keep_2 (by decide) ?_
  obtain ⟨xv5, M9, hc, hF⟩ := ps_b2_some hF
  refine ps_backI (x0 := xv5) (M' := M9) hS (ps_callS C hW mf_X9_isWithin tq_583 tq_582 ⟨Nat.le_of_ble_eq_true rfl, Nat.le_of_ble_eq_true rfl⟩ rfl rfl (As := [.int x1, .int (0 : Int32), .int (1 : Int32)]) (rest := []) (c_X9_isWithin hc) rfl hl.1 rfl (Nat.le_of_ble_eq_true rfl) dX9_keep_3 ⟨Nat.le_of_ble_eq_true rfl, Nat.le_of_ble_eq_true rfl⟩) (fun H locs hW hS => ?_)
  clear hc
  generalize M9 = M at hW hF
  refine lv_if_ne (tgt := 12) hx hb dX9_keep_6 (by decide) (fun hv6 => ?_) (fun hv6 => ?_)
  · replace hF := (if_neg hv6).symm.trans hF
    refine lv_iload_n hx hb dX9_keep_12 rfl (lv_at hl 1 rfl) ?_
    refine lv_if_ne (tgt := 23) hx hb dX9_keep_13 (by decide) (fun hv7 => ?_) (fun hv7 => ?_)
    · replace hF := (if_neg hv7).symm.trans hF
      refine lv_aload_n hx hb dX9_keep_23 rfl (lv_at hl 0 rfl) ?_
      refine pw_gR C hW pc_8 (k := 9) (by decide) rfl tq_405 dX9_keep_24 hF (fun av8 hF => ?_)
      exact kb_X9_keep_b27 C hF hW hS (lv_sub hl [0] rfl)
    · replace hF := (if_pos hv7).symm.trans hF
      refine lv_aload_n hx hb dX9_keep_16 rfl (lv_at hl 0 rfl) ?_
      refine pw_gR C hW pc_8 (k := 8) (by decide) rfl tq_404 dX9_keep_17 hF (fun av9 hF => ?_)
      refine lv_goto (tgt := 27) hx hb dX9_keep_20 (by decide) ?_
      exact kb_X9_keep_b27 C hF hW hS (lv_sub hl [0] rfl)
  · replace hF := (if_pos hv6).symm.trans hF
    refine lv_ldc (v := -1000000001) hx hb hown (hts _ tq_547) dX9_keep_9 ?_
    exact pw_iret C hW hS dX9_keep_11 hF
theorem mf_X9_keep : ps_mf yX9_keep cX9_keep 3 ((some .int)) 1 := ⟨tq_906, tq_61, by decide +kernel, by decide +kernel, by decide +kernel⟩
theorem c_X9_keep {l : Launch} {D : va_G} {Y : ps_A} {B : Nat} {M : ps_M} {a0 : Nat} {x1 : Int32} {r : Int32} {M' : ps_M} (hF : f_X9_keep M a0 x1 = some (r, M')) : Met l yX9_keep (Cond.code yX9_keep cX9_keep 3 ((some .int)) :: tb_G) rm_X9_keep (ps_PB D Y B M [.ref (B + a0), .int x1]) (va_Qi (fun x (_ : Unit) => x = r) (fun _ t => ps_St D Y B M' t) (fun q => B ≤ q)) 0 0 (fun q => B ≤ q) :=
  pm_of (by decide +kernel) (Nat.le_of_ble_eq_true rfl) (fun p e s m args below meth c C hW hS ls hl => kb_X9_keep C hF hW hS hl)

abbrev rm_X9_goBack : Room := { frames := 2, cells := 0, slots := 0, locals := 43 }
def f_X9_goBack_b27 (M : ps_M) (a0 : Nat) (t0 : Nat) : Option (Int32 × ps_M) := ps_gI M t0 1 2 (fun xv1 => if xv1 = 0 then (some ((-1000000003 : Int32), M)) else (ps_gR M a0 8 2 (fun av3 => ps_gR M t0 1 0 (fun av4 => ps_ck M av3 6 (ps_b1 (f_X7_become M av3 av4) (fun M => ps_gI M t0 1 1 (fun xv5 => ps_pI M a0 8 10 xv5 (fun M => ps_gR M a0 8 3 (fun av6 => ps_ck M av6 2 (ps_b1 (f_X2_clear M av6 ) (fun M => some ((1 : Int32), M))))))))))))
def f_X9_goBack (M : ps_M) (a0 : Nat) (x1 : Int32) : Option (Int32 × ps_M) := ps_b2 (f_X9_isWithin M x1 (0 : Int32) (1 : Int32)) (fun xv7 M => if xv7 = 0 then (some ((-1000000001 : Int32), M)) else (if x1 = 0 then (ps_gR M a0 8 8 (fun av11 => f_X9_goBack_b27 M a0 av11)) else (ps_gR M a0 8 9 (fun av10 => f_X9_goBack_b27 M a0 av10))))
set_option maxRecDepth 100000 in
set_option maxHeartbeats 4000000 in
theorem kb_X9_goBack_b27 (C : ps_C p s m args meth c cX9_goBack 3 RX9 ((some .int)) "goBack" D Y B) {q : Int32 × ps_M}  {M : ps_M} {a0 : Nat} {t0 : Nat} (hF : f_X9_goBack_b27 M a0 t0 = some q) (hW : ps_W D Y B M H) (hS : va_S (fun q => B ≤ q) s.heap H locs) (hl : lv_has ls 3 [(0, .ref (B + a0))]) : W p l e rm_X9_goBack s m args below meth c H locs 0 0 (ps_Qi D Y B below args s 0 0 q) (F0 m 27 ls [.ref (B + t0)]) := by
  have hx := C.1
  have hb := C.2.1
  have hml := C.2.2.1
  have hown := C.2.2.2.1
  have hts := C.2.2.2.2.1
  unfold f_X9_goBack_b27 at hF
  refine lv_astore_n (lv' := [(2, .ref (B + t0)), (0, .ref (B + a0))]) hx hb dX9_goBack_27 rfl hl (by decide) rfl (fun ls hl => ?_)
  refine lv_aload_n hx hb dX9_goBack_28 rfl (lv_at hl 0 rfl) ?_
  refine pw_gI C hW pc_1 (k := 2) (by decide) rfl tq_388 dX9_goBack_29 hF (fun xv1 hF => ?_)
  refine lv_if_ne (tgt := 38) hx hb dX9_goBack_32 (by decide) (fun hv2 => ?_) (fun hv2 => ?_)
  · replace hF := (if_neg hv2).symm.trans hF
    refine lv_aload_n hx hb dX9_goBack_38 rfl (lv_at hl 1 rfl) ?_
    refine pw_gR C hW pc_8 (k := 2) (by decide) rfl tq_398 dX9_goBack_39 hF (fun av3 hF => ?_)
    refine lv_aload_n hx hb dX9_goBack_42 rfl (lv_at hl 0 rfl) ?_
    refine pw_gR C hW pc_1 (k := 0) (by decide) rfl tq_386 dX9_goBack_43 hF (fun av4 hF => ?_)
    obtain ⟨hK, hF⟩ := ps_ck_some hF
    obtain ⟨M9, hc, hF⟩ := ps_b1_some hF
    refine ps_backV (M' := M9) hS (ps_callV C hW pc_6 mf_X7_become tq_598 tq_599 tq_907 ⟨Nat.le_of_ble_eq_true rfl, Nat.le_of_ble_eq_true rfl⟩ rfl rfl (As := [.ref (B + av4)]) (rest := []) (c_X7_become hc) hK rfl hl.1 rfl (Nat.le_of_ble_eq_true rfl) dX9_goBack_46 ⟨Nat.le_of_ble_eq_true rfl, Nat.le_of_ble_eq_true rfl⟩) (fun H locs hW hS => ?_)
    clear hc
    generalize M9 = M at hW hF
    refine lv_aload_n hx hb dX9_goBack_49 rfl (lv_at hl 1 rfl) ?_
    refine lv_aload_n hx hb dX9_goBack_50 rfl (lv_at hl 0 rfl) ?_
    refine pw_gI C hW pc_1 (k := 1) (by decide) rfl tq_387 dX9_goBack_51 hF (fun xv5 hF => ?_)
    refine pw_pI C hW hS pc_8 (k := 10) (by decide) rfl rfl tq_406 rfl dX9_goBack_54 hF (fun M H locs hW hS hF => ?_)
    refine lv_aload_n hx hb dX9_goBack_57 rfl (lv_at hl 1 rfl) ?_
    refine pw_gR C hW pc_8 (k := 3) (by decide) rfl tq_399 dX9_goBack_58 hF (fun av6 hF => ?_)
    obtain ⟨hK, hF⟩ := ps_ck_some hF
    obtain ⟨M9, hc, hF⟩ := ps_b1_some hF
    refine ps_backV (M' := M9) hS (ps_callV C hW pc_2 mf_X2_clear tq_524 tq_525 tq_523 ⟨Nat.le_of_ble_eq_true rfl, Nat.le_of_ble_eq_true rfl⟩ rfl rfl (As := []) (rest := []) (c_X2_clear hc) hK rfl hl.1 rfl (Nat.le_of_ble_eq_true rfl) dX9_goBack_61 ⟨Nat.le_of_ble_eq_true rfl, Nat.le_of_ble_eq_true rfl⟩) (fun H locs hW hS => ?_)
    clear hc
    generalize M9 = M at hW hF
    refine lv_iconst (v := 1) hx hb dX9_goBack_64 (by decide) ?_
    exact pw_iret C hW hS dX9_goBack_65 hF
  · replace hF := (if_pos hv2).symm.trans hF
    refine lv_ldc (v := -1000000003) hx hb hown (hts _ tq_572) dX9_goBack_35 ?_
    exact pw_iret C hW hS dX9_goBack_37 hF
set_option maxRecDepth 100000 in
set_option maxHeartbeats 4000000 in
theorem kb_X9_goBack (C : ps_C p s m args meth c cX9_goBack 3 RX9 ((some .int)) "goBack" D Y B) {q : Int32 × ps_M}  {M : ps_M} {a0 : Nat} {x1 : Int32} (hF : f_X9_goBack M a0 x1 = some q) (hW : ps_W D Y B M H) (hS : va_S (fun q => B ≤ q) s.heap H locs) (hl : lv_has ls 3 [(0, .ref (B + a0)), (1, .int x1)]) : W p l e rm_X9_goBack s m args below meth c H locs 0 0 (ps_Qi D Y B below args s 0 0 q) (F0 m 0 ls []) := by
  have hx := C.1
  have hb := C.2.1
  have hml := C.2.2.1
  have hown := C.2.2.2.1
  have hts := C.2.2.2.2.1
  unfold f_X9_goBack at hF
  refine lv_iload_n hx hb dX9_goBack_0 rfl (lv_at hl 1 rfl) ?_
  refine lv_iconst (v := 0) hx hb dX9_goBack_1 (by decide) ?_
  refine lv_iconst (v := 1) hx hb dX9_goBack_2 (by decide) ?_
  obtain ⟨xv7, M9, hc, hF⟩ := ps_b2_some hF
  refine ps_backI (x0 := xv7) (M' := M9) hS (ps_callS C hW mf_X9_isWithin tq_583 tq_582 ⟨Nat.le_of_ble_eq_true rfl, Nat.le_of_ble_eq_true rfl⟩ rfl rfl (As := [.int x1, .int (0 : Int32), .int (1 : Int32)]) (rest := []) (c_X9_isWithin hc) rfl hl.1 rfl (Nat.le_of_ble_eq_true rfl) dX9_goBack_3 ⟨Nat.le_of_ble_eq_true rfl, Nat.le_of_ble_eq_true rfl⟩) (fun H locs hW hS => ?_)
  clear hc
  generalize M9 = M at hW hF
  refine lv_if_ne (tgt := 12) hx hb dX9_goBack_6 (by decide) (fun hv8 => ?_) (fun hv8 => ?_)
  · replace hF := (if_neg hv8).symm.trans hF
    refine lv_iload_n hx hb dX9_goBack_12 rfl (lv_at hl 1 rfl) ?_
    refine lv_if_ne (tgt := 23) hx hb dX9_goBack_13 (by decide) (fun hv9 => ?_) (fun hv9 => ?_)
    · replace hF := (if_neg hv9).symm.trans hF
      refine lv_aload_n hx hb dX9_goBack_23 rfl (lv_at hl 0 rfl) ?_
      refine pw_gR C hW pc_8 (k := 9) (by decide) rfl tq_405 dX9_goBack_24 hF (fun av10 hF => ?_)
      exact kb_X9_goBack_b27 C hF hW hS (lv_sub hl [0] rfl)
    · replace hF := (if_pos hv9).symm.trans hF
      refine lv_aload_n hx hb dX9_goBack_16 rfl (lv_at hl 0 rfl) ?_
      refine pw_gR C hW pc_8 (k := 8) (by decide) rfl tq_404 dX9_goBack_17 hF (fun av11 hF => ?_)
      refine lv_goto (tgt := 27) hx hb dX9_goBack_20 (by decide) ?_
      exact kb_X9_goBack_b27 C hF hW hS (lv_sub hl [0] rfl)
  · replace hF := (if_pos hv8).symm.trans hF
    refine lv_ldc (v := -1000000001) hx hb hown (hts _ tq_547) dX9_goBack_9 ?_
    exact pw_iret C hW hS dX9_goBack_11 hF
theorem mf_X9_goBack : ps_mf yX9_goBack cX9_goBack 3 ((some .int)) 1 := ⟨tq_911, tq_61, by decide +kernel, by decide +kernel, by decide +kernel⟩
theorem c_X9_goBack {l : Launch} {D : va_G} {Y : ps_A} {B : Nat} {M : ps_M} {a0 : Nat} {x1 : Int32} {r : Int32} {M' : ps_M} (hF : f_X9_goBack M a0 x1 = some (r, M')) : Met l yX9_goBack (Cond.code yX9_goBack cX9_goBack 3 ((some .int)) :: tb_G) rm_X9_goBack (ps_PB D Y B M [.ref (B + a0), .int x1]) (va_Qi (fun x (_ : Unit) => x = r) (fun _ t => ps_St D Y B M' t) (fun q => B ≤ q)) 0 0 (fun q => B ≤ q) :=
  pm_of (by decide +kernel) (Nat.le_of_ble_eq_true rfl) (fun p e s m args below meth c C hW hS ls hl => kb_X9_goBack C hF hW hS hl)

abbrev rm_X10_in : Room := { frames := 0, cells := 0, slots := 0, locals := 0 }
def f_X10_in_b18 (M : ps_M) (t0 : Int32) : Option (Int32 × ps_M) := ps_z t0 M
def f_X10_in_b17 (M : ps_M)  : Option (Int32 × ps_M) := f_X10_in_b18 M (0 : Int32)
def f_X10_in (M : ps_M) (y0 : Int64) (y2 : Int64) (y4 : Int64) : Option (Int32 × ps_M) := if (lg_cmp y0 y2) < 0 then (f_X10_in_b17 M ) else (if 0 < (lg_cmp y0 y4) then (f_X10_in_b17 M ) else (f_X10_in_b18 M (1 : Int32)))
set_option maxRecDepth 100000 in
set_option maxHeartbeats 4000000 in
theorem kb_X10_in_b18 (C : ps_C p s m args meth c cX10_in 6 RX10 ((some .boolean)) "in" D Y B) {q : Int32 × ps_M}  {M : ps_M} {t0 : Int32} (hF : f_X10_in_b18 M t0 = some q) (hW : ps_W D Y B M H) (hS : va_S (fun q => B ≤ q) s.heap H locs) (hl : lv_has ls 6 []) : W p l e rm_X10_in s m args below meth c H locs 0 0 (ps_Qi D Y B below args s 0 0 q) (F0 m 18 ls [.int t0]) := by
  have hx := C.1
  have hb := C.2.1
  have hml := C.2.2.1
  have hown := C.2.2.2.1
  have hts := C.2.2.2.2.1
  unfold f_X10_in_b18 at hF
  exact pw_zret C hW hS dX10_in_18 hF
set_option maxRecDepth 100000 in
set_option maxHeartbeats 4000000 in
theorem kb_X10_in_b17 (C : ps_C p s m args meth c cX10_in 6 RX10 ((some .boolean)) "in" D Y B) {q : Int32 × ps_M}  {M : ps_M}  (hF : f_X10_in_b17 M  = some q) (hW : ps_W D Y B M H) (hS : va_S (fun q => B ≤ q) s.heap H locs) (hl : lv_has ls 6 []) : W p l e rm_X10_in s m args below meth c H locs 0 0 (ps_Qi D Y B below args s 0 0 q) (F0 m 17 ls []) := by
  have hx := C.1
  have hb := C.2.1
  have hml := C.2.2.1
  have hown := C.2.2.2.1
  have hts := C.2.2.2.2.1
  unfold f_X10_in_b17 at hF
  refine lv_iconst (v := 0) hx hb dX10_in_17 (by decide) ?_
  exact kb_X10_in_b18 C hF hW hS (lv_sub hl [] rfl)
set_option maxRecDepth 100000 in
set_option maxHeartbeats 4000000 in
theorem kb_X10_in (C : ps_C p s m args meth c cX10_in 6 RX10 ((some .boolean)) "in" D Y B) {q : Int32 × ps_M}  {M : ps_M} {y0 : Int64} {y2 : Int64} {y4 : Int64} (hF : f_X10_in M y0 y2 y4 = some q) (hW : ps_W D Y B M H) (hS : va_S (fun q => B ≤ q) s.heap H locs) (hl : lv_has ls 6 [(0, .long y0), (2, .long y2), (4, .long y4)]) : W p l e rm_X10_in s m args below meth c H locs 0 0 (ps_Qi D Y B below args s 0 0 q) (F0 m 0 ls []) := by
  have hx := C.1
  have hb := C.2.1
  have hml := C.2.2.1
  have hown := C.2.2.2.1
  have hts := C.2.2.2.2.1
  unfold f_X10_in at hF
  refine lv_lload_n hx hb dX10_in_0 rfl (lv_at hl 0 rfl) ?_
  refine lv_lload_n hx hb dX10_in_1 rfl (lv_at hl 1 rfl) ?_
  refine W.lcmp hx hb dX10_in_2 ?_
  refine lv_if_lt (tgt := 17) hx hb dX10_in_3 (by decide) (fun hv1 => ?_) (fun hv1 => ?_)
  · replace hF := (if_pos hv1).symm.trans hF
    exact kb_X10_in_b17 C hF hW hS (lv_sub hl [] rfl)
  · replace hF := (if_neg hv1).symm.trans hF
    refine lv_lload_n hx hb dX10_in_6 rfl (lv_at hl 0 rfl) ?_
    refine lv_lload hx hb dX10_in_7 (lv_at hl 2 rfl) ?_
    refine W.lcmp hx hb dX10_in_9 ?_
    refine lv_if_gt (tgt := 17) hx hb dX10_in_10 (by decide) (fun hv2 => ?_) (fun hv2 => ?_)
    · replace hF := (if_pos hv2).symm.trans hF
      exact kb_X10_in_b17 C hF hW hS (lv_sub hl [] rfl)
    · replace hF := (if_neg hv2).symm.trans hF
      refine lv_iconst (v := 1) hx hb dX10_in_13 (by decide) ?_
      refine lv_goto (tgt := 18) hx hb dX10_in_14 (by decide) ?_
      exact kb_X10_in_b18 C hF hW hS (lv_sub hl [] rfl)
theorem mf_X10_in : ps_mf yX10_in cX10_in 6 ((some .boolean)) 3 := ⟨tq_1032, tq_71, by decide +kernel, by decide +kernel, by decide +kernel⟩
theorem c_X10_in {l : Launch} {D : va_G} {Y : ps_A} {B : Nat} {M : ps_M} {y0 : Int64} {y2 : Int64} {y4 : Int64} {r : Int32} {M' : ps_M} (hF : f_X10_in M y0 y2 y4 = some (r, M')) : Met l yX10_in (Cond.code yX10_in cX10_in 6 ((some .boolean)) :: tb_G) rm_X10_in (ps_PB D Y B M [.long y0, .long y2, .long y4]) (va_Qi (fun x (_ : Unit) => x = r) (fun _ t => ps_St D Y B M' t) (fun q => B ≤ q)) 0 0 (fun q => B ≤ q) :=
  pm_of (by decide +kernel) (Nat.le_of_ble_eq_true rfl) (fun p e s m args below meth c C hW hS ls hl => kb_X10_in C hF hW hS hl)

abbrev rm_X10_one : Room := { frames := 0, cells := 0, slots := 0, locals := 0 }
def f_X10_one_b9 (M : ps_M) (t0 : Int32) : Option (Int32 × ps_M) := some (t0, M)
def f_X10_one (M : ps_M) (x0 : Int32) : Option (Int32 × ps_M) := if x0 = 0 then (f_X10_one_b9 M (0 : Int32)) else (f_X10_one_b9 M (1 : Int32))
set_option maxRecDepth 100000 in
set_option maxHeartbeats 4000000 in
theorem kb_X10_one_b9 (C : ps_C p s m args meth c cX10_one 1 RX10 ((some .int)) "one" D Y B) {q : Int32 × ps_M}  {M : ps_M} {t0 : Int32} (hF : f_X10_one_b9 M t0 = some q) (hW : ps_W D Y B M H) (hS : va_S (fun q => B ≤ q) s.heap H locs) (hl : lv_has ls 1 []) : W p l e rm_X10_one s m args below meth c H locs 0 0 (ps_Qi D Y B below args s 0 0 q) (F0 m 9 ls [.int t0]) := by
  have hx := C.1
  have hb := C.2.1
  have hml := C.2.2.1
  have hown := C.2.2.2.1
  have hts := C.2.2.2.2.1
  unfold f_X10_one_b9 at hF
  exact pw_iret C hW hS dX10_one_9 hF
set_option maxRecDepth 100000 in
set_option maxHeartbeats 4000000 in
theorem kb_X10_one (C : ps_C p s m args meth c cX10_one 1 RX10 ((some .int)) "one" D Y B) {q : Int32 × ps_M}  {M : ps_M} {x0 : Int32} (hF : f_X10_one M x0 = some q) (hW : ps_W D Y B M H) (hS : va_S (fun q => B ≤ q) s.heap H locs) (hl : lv_has ls 1 [(0, .int x0)]) : W p l e rm_X10_one s m args below meth c H locs 0 0 (ps_Qi D Y B below args s 0 0 q) (F0 m 0 ls []) := by
  have hx := C.1
  have hb := C.2.1
  have hml := C.2.2.1
  have hown := C.2.2.2.1
  have hts := C.2.2.2.2.1
  unfold f_X10_one at hF
  refine lv_iload_n hx hb dX10_one_0 rfl (lv_at hl 0 rfl) ?_
  refine lv_if_eq (tgt := 8) hx hb dX10_one_1 (by decide) (fun hv1 => ?_) (fun hv1 => ?_)
  · replace hF := (if_pos hv1).symm.trans hF
    refine lv_iconst (v := 0) hx hb dX10_one_8 (by decide) ?_
    exact kb_X10_one_b9 C hF hW hS (lv_sub hl [] rfl)
  · replace hF := (if_neg hv1).symm.trans hF
    refine lv_iconst (v := 1) hx hb dX10_one_4 (by decide) ?_
    refine lv_goto (tgt := 9) hx hb dX10_one_5 (by decide) ?_
    exact kb_X10_one_b9 C hF hW hS (lv_sub hl [] rfl)
theorem mf_X10_one : ps_mf yX10_one cX10_one 1 ((some .int)) 1 := ⟨tq_1094, tq_71, by decide +kernel, by decide +kernel, by decide +kernel⟩
theorem c_X10_one {l : Launch} {D : va_G} {Y : ps_A} {B : Nat} {M : ps_M} {x0 : Int32} {r : Int32} {M' : ps_M} (hF : f_X10_one M x0 = some (r, M')) : Met l yX10_one (Cond.code yX10_one cX10_one 1 ((some .int)) :: tb_G) rm_X10_one (ps_PB D Y B M [.int x0]) (va_Qi (fun x (_ : Unit) => x = r) (fun _ t => ps_St D Y B M' t) (fun q => B ≤ q)) 0 0 (fun q => B ≤ q) :=
  pm_of (by decide +kernel) (Nat.le_of_ble_eq_true rfl) (fun p e s m args below meth c C hW hS ls hl => kb_X10_one C hF hW hS hl)

abbrev rm_X10_has : Room := { frames := 0, cells := 0, slots := 0, locals := 0 }
def f_X10_has_b14 (M : ps_M) (t0 : Int32) : Option (Int32 × ps_M) := ps_z t0 M
def f_X10_has (M : ps_M) (x0 : Int32) (x1 : Int32) : Option (Int32 × ps_M) := if ((x0 >>> (x1 &&& 31)) &&& (1 : Int32)) = (1 : Int32) then (f_X10_has_b14 M (1 : Int32)) else (f_X10_has_b14 M (0 : Int32))
set_option maxRecDepth 100000 in
set_option maxHeartbeats 4000000 in
theorem kb_X10_has_b14 (C : ps_C p s m args meth c cX10_has 2 RX10 ((some .boolean)) "has" D Y B) {q : Int32 × ps_M}  {M : ps_M} {t0 : Int32} (hF : f_X10_has_b14 M t0 = some q) (hW : ps_W D Y B M H) (hS : va_S (fun q => B ≤ q) s.heap H locs) (hl : lv_has ls 2 []) : W p l e rm_X10_has s m args below meth c H locs 0 0 (ps_Qi D Y B below args s 0 0 q) (F0 m 14 ls [.int t0]) := by
  have hx := C.1
  have hb := C.2.1
  have hml := C.2.2.1
  have hown := C.2.2.2.1
  have hts := C.2.2.2.2.1
  unfold f_X10_has_b14 at hF
  exact pw_zret C hW hS dX10_has_14 hF
set_option maxRecDepth 100000 in
set_option maxHeartbeats 4000000 in
theorem kb_X10_has (C : ps_C p s m args meth c cX10_has 2 RX10 ((some .boolean)) "has" D Y B) {q : Int32 × ps_M}  {M : ps_M} {x0 : Int32} {x1 : Int32} (hF : f_X10_has M x0 x1 = some q) (hW : ps_W D Y B M H) (hS : va_S (fun q => B ≤ q) s.heap H locs) (hl : lv_has ls 2 [(0, .int x0), (1, .int x1)]) : W p l e rm_X10_has s m args below meth c H locs 0 0 (ps_Qi D Y B below args s 0 0 q) (F0 m 0 ls []) := by
  have hx := C.1
  have hb := C.2.1
  have hml := C.2.2.1
  have hown := C.2.2.2.1
  have hts := C.2.2.2.2.1
  unfold f_X10_has at hF
  refine lv_iload_n hx hb dX10_has_0 rfl (lv_at hl 0 rfl) ?_
  refine lv_iload_n hx hb dX10_has_1 rfl (lv_at hl 1 rfl) ?_
  refine lv_ishr hx hb dX10_has_2 ?_
  refine lv_iconst (v := 1) hx hb dX10_has_3 (by decide) ?_
  refine lv_iand hx hb dX10_has_4 ?_
  refine lv_iconst (v := 1) hx hb dX10_has_5 (by decide) ?_
  refine lv_icmp_ne (tgt := 13) hx hb dX10_has_6 (by decide) (fun hv1 => ?_) (fun hv1 => ?_)
  · replace hF := (if_neg hv1).symm.trans hF
    refine lv_iconst (v := 0) hx hb dX10_has_13 (by decide) ?_
    exact kb_X10_has_b14 C hF hW hS (lv_sub hl [] rfl)
  · replace hF := (if_pos hv1).symm.trans hF
    refine lv_iconst (v := 1) hx hb dX10_has_9 (by decide) ?_
    refine lv_goto (tgt := 14) hx hb dX10_has_10 (by decide) ?_
    exact kb_X10_has_b14 C hF hW hS (lv_sub hl [] rfl)
theorem mf_X10_has : ps_mf yX10_has cX10_has 2 ((some .boolean)) 2 := ⟨tq_1052, tq_71, by decide +kernel, by decide +kernel, by decide +kernel⟩
theorem c_X10_has {l : Launch} {D : va_G} {Y : ps_A} {B : Nat} {M : ps_M} {x0 : Int32} {x1 : Int32} {r : Int32} {M' : ps_M} (hF : f_X10_has M x0 x1 = some (r, M')) : Met l yX10_has (Cond.code yX10_has cX10_has 2 ((some .boolean)) :: tb_G) rm_X10_has (ps_PB D Y B M [.int x0, .int x1]) (va_Qi (fun x (_ : Unit) => x = r) (fun _ t => ps_St D Y B M' t) (fun q => B ≤ q)) 0 0 (fun q => B ≤ q) :=
  pm_of (by decide +kernel) (Nat.le_of_ble_eq_true rfl) (fun p e s m args below meth c C hW hS ls hl => kb_X10_has C hF hW hS hl)

abbrev rm_X10_feed : Room := { frames := 1, cells := 0, slots := 0, locals := 25 }
def f_X10_feed (M : ps_M) (a0 : Nat) (x1 : Int32) : Option (Int32 × ps_M) := ps_b2 (f_X10_in M (x1.toInt64) (0 : Int64) (255 : Int64)) (fun xv1 M => if xv1 = 0 then (some ((-1000000002 : Int32), M)) else (ps_gI M a0 9 21 (fun xv3 => if xv3 = (250 : Int32) then (some ((-1000000004 : Int32), M)) else (ps_gR M a0 9 20 (fun av5 => ps_gI M a0 9 21 (fun xv6 => ps_xI M av5 xv6 x1 (fun M => ps_gI M a0 9 21 (fun xv7 => ps_pI M a0 9 21 (xv7 + (1 : Int32)) (fun M => ps_gI M a0 9 21 (fun xv8 => some (xv8, M)))))))))))
set_option maxRecDepth 100000 in
set_option maxHeartbeats 4000000 in
theorem kb_X10_feed (C : ps_C p s m args meth c cX10_feed 2 RX10 ((some .int)) "feed" D Y B) {q : Int32 × ps_M}  {M : ps_M} {a0 : Nat} {x1 : Int32} (hF : f_X10_feed M a0 x1 = some q) (hW : ps_W D Y B M H) (hS : va_S (fun q => B ≤ q) s.heap H locs) (hl : lv_has ls 2 [(0, .ref (B + a0)), (1, .int x1)]) : W p l e rm_X10_feed s m args below meth c H locs 0 0 (ps_Qi D Y B below args s 0 0 q) (F0 m 0 ls []) := by
  have hx := C.1
  have hb := C.2.1
  have hml := C.2.2.1
  have hown := C.2.2.2.1
  have hts := C.2.2.2.2.1
  unfold f_X10_feed at hF
  refine lv_iload_n hx hb dX10_feed_0 rfl (lv_at hl 1 rfl) ?_
  refine lv_i2l hx hb dX10_feed_1 rfl ?_
  refine lv_lconst (v := 0) hx hb dX10_feed_2 (by decide) ?_
  refine lv_ldc2 (v := 255) hx hb hown (hts _ tq_1029) dX10_feed_3 ?_
  obtain ⟨xv1, M9, hc, hF⟩ := ps_b2_some hF
  refine ps_backI (x0 := xv1) (M' := M9) hS (ps_callS C hW mf_X10_in tq_1031 tq_1030 ⟨Nat.le_of_ble_eq_true rfl, Nat.le_of_ble_eq_true rfl⟩ rfl rfl (As := [.long (x1.toInt64), .long (0 : Int64), .long (255 : Int64)]) (rest := []) (c_X10_in hc) rfl hl.1 rfl (Nat.le_of_ble_eq_true rfl) dX10_feed_6 ⟨Nat.le_of_ble_eq_true rfl, Nat.le_of_ble_eq_true rfl⟩) (fun H locs hW hS => ?_)
  clear hc
  generalize M9 = M at hW hF
  refine lv_if_ne (tgt := 15) hx hb dX10_feed_9 (by decide) (fun hv2 => ?_) (fun hv2 => ?_)
  · replace hF := (if_neg hv2).symm.trans hF
    refine lv_aload_n hx hb dX10_feed_15 rfl (lv_at hl 0 rfl) ?_
    refine pw_gI C hW pc_9 (k := 21) (by decide) rfl tq_939 dX10_feed_16 hF (fun xv3 hF => ?_)
    refine lv_sipush (v := 250) hx hb dX10_feed_19 (by decide) ?_
    refine lv_icmp_ne (tgt := 28) hx hb dX10_feed_22 (by decide) (fun hv4 => ?_) (fun hv4 => ?_)
    · replace hF := (if_neg hv4).symm.trans hF
      refine lv_aload_n hx hb dX10_feed_28 rfl (lv_at hl 0 rfl) ?_
      refine pw_gR C hW pc_9 (k := 20) (by decide) rfl tq_938 dX10_feed_29 hF (fun av5 hF => ?_)
      refine lv_aload_n hx hb dX10_feed_32 rfl (lv_at hl 0 rfl) ?_
      refine pw_gI C hW pc_9 (k := 21) (by decide) rfl tq_939 dX10_feed_33 hF (fun xv6 hF => ?_)
      refine lv_iload_n hx hb dX10_feed_36 rfl (lv_at hl 1 rfl) ?_
      refine pw_xI C hW hS dX10_feed_37 hF (fun M H locs hW hS hF => ?_)
      refine lv_aload_n hx hb dX10_feed_38 rfl (lv_at hl 0 rfl) ?_
      refine lv_dup hx hb dX10_feed_39 rfl ?_
      refine pw_gI C hW pc_9 (k := 21) (by decide) rfl tq_939 dX10_feed_40 hF (fun xv7 hF => ?_)
      refine lv_iconst (v := 1) hx hb dX10_feed_43 (by decide) ?_
      refine lv_iadd hx hb dX10_feed_44 ?_
      refine pw_pI C hW hS pc_9 (k := 21) (by decide) rfl rfl tq_939 rfl dX10_feed_45 hF (fun M H locs hW hS hF => ?_)
      refine lv_aload_n hx hb dX10_feed_48 rfl (lv_at hl 0 rfl) ?_
      refine pw_gI C hW pc_9 (k := 21) (by decide) rfl tq_939 dX10_feed_49 hF (fun xv8 hF => ?_)
      exact pw_iret C hW hS dX10_feed_52 hF
    · replace hF := (if_pos hv4).symm.trans hF
      refine lv_ldc (v := -1000000004) hx hb hown (hts _ tq_1034) dX10_feed_25 ?_
      exact pw_iret C hW hS dX10_feed_27 hF
  · replace hF := (if_pos hv2).symm.trans hF
    refine lv_ldc (v := -1000000002) hx hb hown (hts _ tq_1033) dX10_feed_12 ?_
    exact pw_iret C hW hS dX10_feed_14 hF
theorem mf_X10_feed : ps_mf yX10_feed cX10_feed 2 ((some .int)) 1 := ⟨tq_1028, tq_71, by decide +kernel, by decide +kernel, by decide +kernel⟩
theorem c_X10_feed {l : Launch} {D : va_G} {Y : ps_A} {B : Nat} {M : ps_M} {a0 : Nat} {x1 : Int32} {r : Int32} {M' : ps_M} (hF : f_X10_feed M a0 x1 = some (r, M')) : Met l yX10_feed (Cond.code yX10_feed cX10_feed 2 ((some .int)) :: tb_G) rm_X10_feed (ps_PB D Y B M [.ref (B + a0), .int x1]) (va_Qi (fun x (_ : Unit) => x = r) (fun _ t => ps_St D Y B M' t) (fun q => B ≤ q)) 0 0 (fun q => B ≤ q) :=
  pm_of (by decide +kernel) (Nat.le_of_ble_eq_true rfl) (fun p e s m args below meth c C hW hS ls hl => kb_X10_feed C hF hW hS hl)

abbrev rm_X10_here : Room := { frames := 0, cells := 0, slots := 0, locals := 0 }
def f_X10_here_b62 (M : ps_M) (t0 : Int32) : Option (Int32 × ps_M) := some (t0, M)
def f_X10_here_b38 (M : ps_M) (a0 : Nat) : Option (Int32 × ps_M) := ps_gI M a0 9 22 (fun xv1 => ps_gI M a0 9 21 (fun xv2 => if xv2 ≤ xv1 then (f_X10_here_b62 M (-1 : Int32)) else (ps_gR M a0 9 20 (fun av4 => ps_gI M a0 9 22 (fun xv5 => ps_aI M av4 xv5 (fun xv6 => f_X10_here_b62 M xv6))))))
def f_X10_here_w0 (k0 : ps_M → Nat → Option (Int32 × ps_M)) (M : ps_M) (a0 : Nat) : Option (Int32 × ps_M) := ps_gI M a0 9 22 (fun xv7 => ps_gI M a0 9 21 (fun xv8 => if xv8 ≤ xv7 then (f_X10_here_b38 M a0) else (ps_gR M a0 9 20 (fun av10 => ps_gI M a0 9 22 (fun xv11 => ps_aI M av10 xv11 (fun xv12 => if xv12 = (32 : Int32) then (ps_gI M a0 9 22 (fun xv14 => ps_pI M a0 9 22 (xv14 + (1 : Int32)) (fun M => k0 M a0))) else (f_X10_here_b38 M a0)))))))
def f_X10_here_l0 : Nat → ps_M → Nat → Option (Int32 × ps_M)
  | 0, _, _ => none
  | n + 1, M, a0 => f_X10_here_w0 (f_X10_here_l0 n) M a0
def f_X10_here (M : ps_M) (a0 : Nat) : Option (Int32 × ps_M) := f_X10_here_l0 ps_fu M a0
set_option maxRecDepth 100000 in
set_option maxHeartbeats 4000000 in
theorem kb_X10_here_b62 (C : ps_C p s m args meth c cX10_here 1 RX10 ((some .int)) "here" D Y B) {q : Int32 × ps_M}  {M : ps_M} {t0 : Int32} (hF : f_X10_here_b62 M t0 = some q) (hW : ps_W D Y B M H) (hS : va_S (fun q => B ≤ q) s.heap H locs) (hl : lv_has ls 1 []) : W p l e rm_X10_here s m args below meth c H locs 0 0 (ps_Qi D Y B below args s 0 0 q) (F0 m 62 ls [.int t0]) := by
  have hx := C.1
  have hb := C.2.1
  have hml := C.2.2.1
  have hown := C.2.2.2.1
  have hts := C.2.2.2.2.1
  unfold f_X10_here_b62 at hF
  exact pw_iret C hW hS dX10_here_62 hF
set_option maxRecDepth 100000 in
set_option maxHeartbeats 4000000 in
theorem kb_X10_here_b38 (C : ps_C p s m args meth c cX10_here 1 RX10 ((some .int)) "here" D Y B) {q : Int32 × ps_M}  {M : ps_M} {a0 : Nat} (hF : f_X10_here_b38 M a0 = some q) (hW : ps_W D Y B M H) (hS : va_S (fun q => B ≤ q) s.heap H locs) (hl : lv_has ls 1 [(0, .ref (B + a0))]) : W p l e rm_X10_here s m args below meth c H locs 0 0 (ps_Qi D Y B below args s 0 0 q) (F0 m 38 ls []) := by
  have hx := C.1
  have hb := C.2.1
  have hml := C.2.2.1
  have hown := C.2.2.2.1
  have hts := C.2.2.2.2.1
  unfold f_X10_here_b38 at hF
  refine lv_aload_n hx hb dX10_here_38 rfl (lv_at hl 0 rfl) ?_
  refine pw_gI C hW pc_9 (k := 22) (by decide) rfl tq_940 dX10_here_39 hF (fun xv1 hF => ?_)
  refine lv_aload_n hx hb dX10_here_42 rfl (lv_at hl 0 rfl) ?_
  refine pw_gI C hW pc_9 (k := 21) (by decide) rfl tq_939 dX10_here_43 hF (fun xv2 hF => ?_)
  refine lv_icmp_ge (tgt := 61) hx hb dX10_here_46 (by decide) (fun hv3 => ?_) (fun hv3 => ?_)
  · replace hF := (if_pos hv3).symm.trans hF
    refine lv_iconst (v := -1) hx hb dX10_here_61 (by decide) ?_
    exact kb_X10_here_b62 C hF hW hS (lv_sub hl [] rfl)
  · replace hF := (if_neg hv3).symm.trans hF
    refine lv_aload_n hx hb dX10_here_49 rfl (lv_at hl 0 rfl) ?_
    refine pw_gR C hW pc_9 (k := 20) (by decide) rfl tq_938 dX10_here_50 hF (fun av4 hF => ?_)
    refine lv_aload_n hx hb dX10_here_53 rfl (lv_at hl 0 rfl) ?_
    refine pw_gI C hW pc_9 (k := 22) (by decide) rfl tq_940 dX10_here_54 hF (fun xv5 hF => ?_)
    refine pw_aI C hW dX10_here_57 hF (fun xv6 hF => ?_)
    refine lv_goto (tgt := 62) hx hb dX10_here_58 (by decide) ?_
    exact kb_X10_here_b62 C hF hW hS (lv_sub hl [] rfl)
set_option maxRecDepth 100000 in
set_option maxHeartbeats 4000000 in
theorem kb_X10_here_w0 (C : ps_C p s m args meth c cX10_here 1 RX10 ((some .int)) "here" D Y B) {q : Int32 × ps_M} (k0 : ps_M → Nat → Option (Int32 × ps_M)) (hk0 : ∀ (M : ps_M) (H : Heap) (locs : List Loc) (ls : Array Slot) (a0 : Nat), k0 M a0 = some q → ps_W D Y B M H → va_S (fun q => B ≤ q) s.heap H locs → lv_has ls 1 [(0, .ref (B + a0))] → W p l e rm_X10_here s m args below meth c H locs 0 0 (ps_Qi D Y B below args s 0 0 q) (F0 m 0 ls [])) {M : ps_M} {a0 : Nat} (hF : f_X10_here_w0 k0 M a0 = some q) (hW : ps_W D Y B M H) (hS : va_S (fun q => B ≤ q) s.heap H locs) (hl : lv_has ls 1 [(0, .ref (B + a0))]) : W p l e rm_X10_here s m args below meth c H locs 0 0 (ps_Qi D Y B below args s 0 0 q) (F0 m 0 ls []) := by
  have hx := C.1
  have hb := C.2.1
  have hml := C.2.2.1
  have hown := C.2.2.2.1
  have hts := C.2.2.2.2.1
  unfold f_X10_here_w0 at hF
  refine lv_aload_n hx hb dX10_here_0 rfl (lv_at hl 0 rfl) ?_
  refine pw_gI C hW pc_9 (k := 22) (by decide) rfl tq_940 dX10_here_1 hF (fun xv7 hF => ?_)
  refine lv_aload_n hx hb dX10_here_4 rfl (lv_at hl 0 rfl) ?_
  refine pw_gI C hW pc_9 (k := 21) (by decide) rfl tq_939 dX10_here_5 hF (fun xv8 hF => ?_)
  refine lv_icmp_ge (tgt := 38) hx hb dX10_here_8 (by decide) (fun hv9 => ?_) (fun hv9 => ?_)
  · replace hF := (if_pos hv9).symm.trans hF
    exact kb_X10_here_b38 C hF hW hS (lv_sub hl [0] rfl)
  · replace hF := (if_neg hv9).symm.trans hF
    refine lv_aload_n hx hb dX10_here_11 rfl (lv_at hl 0 rfl) ?_
    refine pw_gR C hW pc_9 (k := 20) (by decide) rfl tq_938 dX10_here_12 hF (fun av10 hF => ?_)
    refine lv_aload_n hx hb dX10_here_15 rfl (lv_at hl 0 rfl) ?_
    refine pw_gI C hW pc_9 (k := 22) (by decide) rfl tq_940 dX10_here_16 hF (fun xv11 hF => ?_)
    refine pw_aI C hW dX10_here_19 hF (fun xv12 hF => ?_)
    refine lv_bipush (v := 32) hx hb dX10_here_20 (by decide) ?_
    refine lv_icmp_ne (tgt := 38) hx hb dX10_here_22 (by decide) (fun hv13 => ?_) (fun hv13 => ?_)
    · replace hF := (if_neg hv13).symm.trans hF
      exact kb_X10_here_b38 C hF hW hS (lv_sub hl [0] rfl)
    · replace hF := (if_pos hv13).symm.trans hF
      refine lv_aload_n hx hb dX10_here_25 rfl (lv_at hl 0 rfl) ?_
      refine lv_dup hx hb dX10_here_26 rfl ?_
      refine pw_gI C hW pc_9 (k := 22) (by decide) rfl tq_940 dX10_here_27 hF (fun xv14 hF => ?_)
      refine lv_iconst (v := 1) hx hb dX10_here_30 (by decide) ?_
      refine lv_iadd hx hb dX10_here_31 ?_
      refine pw_pI C hW hS pc_9 (k := 22) (by decide) rfl rfl tq_940 rfl dX10_here_32 hF (fun M H locs hW hS hF => ?_)
      refine lv_goto (tgt := 0) hx hb dX10_here_35 (by decide) ?_
      exact hk0 M _ _ _ a0 hF hW hS (lv_sub hl [0] rfl)
theorem kb_X10_here_l0 (C : ps_C p s m args meth c cX10_here 1 RX10 ((some .int)) "here" D Y B) {q : Int32 × ps_M}  : ∀ (n : Nat) (M : ps_M) (H : Heap) (locs : List Loc) (ls : Array Slot) (a0 : Nat), f_X10_here_l0 n M a0 = some q → ps_W D Y B M H → va_S (fun q => B ≤ q) s.heap H locs → lv_has ls 1 [(0, .ref (B + a0))] → W p l e rm_X10_here s m args below meth c H locs 0 0 (ps_Qi D Y B below args s 0 0 q) (F0 m 0 ls []) := by
  intro n
  induction n with
  | zero => intro M H locs ls a0 hF; cases hF
  | succ n ih => intro M H locs ls a0 hF hW hS hl; exact kb_X10_here_w0 C  (f_X10_here_l0 n) ih hF hW hS hl
theorem mf_X10_here : ps_mf yX10_here cX10_here 1 ((some .int)) 0 := ⟨tq_1042, tq_71, by decide +kernel, by decide +kernel, by decide +kernel⟩
theorem c_X10_here {l : Launch} {D : va_G} {Y : ps_A} {B : Nat} {M : ps_M} {a0 : Nat} {r : Int32} {M' : ps_M} (hF : f_X10_here M a0 = some (r, M')) : Met l yX10_here (Cond.code yX10_here cX10_here 1 ((some .int)) :: tb_G) rm_X10_here (ps_PB D Y B M [.ref (B + a0)]) (va_Qi (fun x (_ : Unit) => x = r) (fun _ t => ps_St D Y B M' t) (fun q => B ≤ q)) 0 0 (fun q => B ≤ q) :=
  pm_of (by decide +kernel) (Nat.le_of_ble_eq_true rfl) (fun p e s m args below meth c C hW hS ls hl => kb_X10_here_l0 C ps_fu M _ _ _ a0 hF hW hS (lv_sub hl [0] rfl))

abbrev rm_X10_want : Room := { frames := 0, cells := 0, slots := 0, locals := 0 }
def f_X10_want_b33 (M : ps_M) (t0 : Int32) : Option (Int32 × ps_M) := ps_z t0 M
def f_X10_want_b21 (M : ps_M) (a0 : Nat) : Option (Int32 × ps_M) := ps_gI M a0 9 24 (fun xv1 => if xv1 = 0 then (f_X10_want_b33 M (1 : Int32)) else (f_X10_want_b33 M (0 : Int32)))
def f_X10_want (M : ps_M) (a0 : Nat) (x1 : Int32) (x2 : Int32) (x3 : Int32) : Option (Int32 × ps_M) := if x1 = 0 then (ps_gI M a0 9 24 (fun xv4 => if xv4 = 0 then (ps_pI M a0 9 24 x2 (fun M => ps_pI M a0 9 25 x3 (fun M => f_X10_want_b21 M a0))) else (f_X10_want_b21 M a0))) else (f_X10_want_b21 M a0)
set_option maxRecDepth 100000 in
set_option maxHeartbeats 4000000 in
theorem kb_X10_want_b33 (C : ps_C p s m args meth c cX10_want 4 RX10 ((some .boolean)) "want" D Y B) {q : Int32 × ps_M}  {M : ps_M} {t0 : Int32} (hF : f_X10_want_b33 M t0 = some q) (hW : ps_W D Y B M H) (hS : va_S (fun q => B ≤ q) s.heap H locs) (hl : lv_has ls 4 []) : W p l e rm_X10_want s m args below meth c H locs 0 0 (ps_Qi D Y B below args s 0 0 q) (F0 m 33 ls [.int t0]) := by
  have hx := C.1
  have hb := C.2.1
  have hml := C.2.2.1
  have hown := C.2.2.2.1
  have hts := C.2.2.2.2.1
  unfold f_X10_want_b33 at hF
  exact pw_zret C hW hS dX10_want_33 hF
set_option maxRecDepth 100000 in
set_option maxHeartbeats 4000000 in
theorem kb_X10_want_b21 (C : ps_C p s m args meth c cX10_want 4 RX10 ((some .boolean)) "want" D Y B) {q : Int32 × ps_M}  {M : ps_M} {a0 : Nat} (hF : f_X10_want_b21 M a0 = some q) (hW : ps_W D Y B M H) (hS : va_S (fun q => B ≤ q) s.heap H locs) (hl : lv_has ls 4 [(0, .ref (B + a0))]) : W p l e rm_X10_want s m args below meth c H locs 0 0 (ps_Qi D Y B below args s 0 0 q) (F0 m 21 ls []) := by
  have hx := C.1
  have hb := C.2.1
  have hml := C.2.2.1
  have hown := C.2.2.2.1
  have hts := C.2.2.2.2.1
  unfold f_X10_want_b21 at hF
  refine lv_aload_n hx hb dX10_want_21 rfl (lv_at hl 0 rfl) ?_
  refine pw_gI C hW pc_9 (k := 24) (by decide) rfl tq_942 dX10_want_22 hF (fun xv1 hF => ?_)
  refine lv_if_ne (tgt := 32) hx hb dX10_want_25 (by decide) (fun hv2 => ?_) (fun hv2 => ?_)
  · replace hF := (if_neg hv2).symm.trans hF
    refine lv_iconst (v := 0) hx hb dX10_want_32 (by decide) ?_
    exact kb_X10_want_b33 C hF hW hS (lv_sub hl [] rfl)
  · replace hF := (if_pos hv2).symm.trans hF
    refine lv_iconst (v := 1) hx hb dX10_want_28 (by decide) ?_
    refine lv_goto (tgt := 33) hx hb dX10_want_29 (by decide) ?_
    exact kb_X10_want_b33 C hF hW hS (lv_sub hl [] rfl)
set_option maxRecDepth 100000 in
set_option maxHeartbeats 4000000 in
theorem kb_X10_want (C : ps_C p s m args meth c cX10_want 4 RX10 ((some .boolean)) "want" D Y B) {q : Int32 × ps_M}  {M : ps_M} {a0 : Nat} {x1 : Int32} {x2 : Int32} {x3 : Int32} (hF : f_X10_want M a0 x1 x2 x3 = some q) (hW : ps_W D Y B M H) (hS : va_S (fun q => B ≤ q) s.heap H locs) (hl : lv_has ls 4 [(0, .ref (B + a0)), (1, .int x1), (2, .int x2), (3, .int x3)]) : W p l e rm_X10_want s m args below meth c H locs 0 0 (ps_Qi D Y B below args s 0 0 q) (F0 m 0 ls []) := by
  have hx := C.1
  have hb := C.2.1
  have hml := C.2.2.1
  have hown := C.2.2.2.1
  have hts := C.2.2.2.2.1
  unfold f_X10_want at hF
  refine lv_iload_n hx hb dX10_want_0 rfl (lv_at hl 1 rfl) ?_
  refine lv_if_ne (tgt := 21) hx hb dX10_want_1 (by decide) (fun hv3 => ?_) (fun hv3 => ?_)
  · replace hF := (if_neg hv3).symm.trans hF
    exact kb_X10_want_b21 C hF hW hS (lv_sub hl [0] rfl)
  · replace hF := (if_pos hv3).symm.trans hF
    refine lv_aload_n hx hb dX10_want_4 rfl (lv_at hl 0 rfl) ?_
    refine pw_gI C hW pc_9 (k := 24) (by decide) rfl tq_942 dX10_want_5 hF (fun xv4 hF => ?_)
    refine lv_if_ne (tgt := 21) hx hb dX10_want_8 (by decide) (fun hv5 => ?_) (fun hv5 => ?_)
    · replace hF := (if_neg hv5).symm.trans hF
      exact kb_X10_want_b21 C hF hW hS (lv_sub hl [0] rfl)
    · replace hF := (if_pos hv5).symm.trans hF
      refine lv_aload_n hx hb dX10_want_11 rfl (lv_at hl 0 rfl) ?_
      refine lv_iload_n hx hb dX10_want_12 rfl (lv_at hl 2 rfl) ?_
      refine pw_pI C hW hS pc_9 (k := 24) (by decide) rfl rfl tq_942 rfl dX10_want_13 hF (fun M H locs hW hS hF => ?_)
      refine lv_aload_n hx hb dX10_want_16 rfl (lv_at hl 0 rfl) ?_
      refine lv_iload_n hx hb dX10_want_17 rfl (lv_at hl 3 rfl) ?_
      refine pw_pI C hW hS pc_9 (k := 25) (by decide) rfl rfl tq_943 rfl dX10_want_18 hF (fun M H locs hW hS hF => ?_)
      exact kb_X10_want_b21 C hF hW hS (lv_sub hl [0] rfl)
theorem mf_X10_want : ps_mf yX10_want cX10_want 4 ((some .boolean)) 3 := ⟨tq_1056, tq_71, by decide +kernel, by decide +kernel, by decide +kernel⟩
theorem c_X10_want {l : Launch} {D : va_G} {Y : ps_A} {B : Nat} {M : ps_M} {a0 : Nat} {x1 : Int32} {x2 : Int32} {x3 : Int32} {r : Int32} {M' : ps_M} (hF : f_X10_want M a0 x1 x2 x3 = some (r, M')) : Met l yX10_want (Cond.code yX10_want cX10_want 4 ((some .boolean)) :: tb_G) rm_X10_want (ps_PB D Y B M [.ref (B + a0), .int x1, .int x2, .int x3]) (va_Qi (fun x (_ : Unit) => x = r) (fun _ t => ps_St D Y B M' t) (fun q => B ≤ q)) 0 0 (fun q => B ≤ q) :=
  pm_of (by decide +kernel) (Nat.le_of_ble_eq_true rfl) (fun p e s m args below meth c C hW hS ls hl => kb_X10_want C hF hW hS hl)

abbrev rm_X10_takeNumber : Room := { frames := 1, cells := 0, slots := 0, locals := 25 }
def f_X10_takeNumber_b113 (k50 : ps_M → Nat → Int32 → Int32 → Int32 → Option (Int32 × ps_M)) (M : ps_M) (a0 : Nat) (x1 : Int32) (x2 : Int32) (t0 : Int32) : Option (Int32 × ps_M) := ps_gI M a0 9 22 (fun xv1 => ps_pI M a0 9 22 (xv1 + (1 : Int32)) (fun M => k50 M a0 x1 x2 t0))
def f_X10_takeNumber_b160 (M : ps_M) (a0 : Nat) (x4 : Int32) (t0 : Nat) (t1 : Int32) : Option (Int32 × ps_M) := ps_gI M a0 9 23 (fun xv2 => ps_ck M t0 9 (ps_b2 (f_X10_want M t0 t1 (2 : Int32) xv2) (fun xv3 M => some (x4, M))))
def f_X10_takeNumber_b159 (M : ps_M) (a0 : Nat) (x4 : Int32) (t0 : Nat) : Option (Int32 × ps_M) := f_X10_takeNumber_b160 M a0 x4 t0 (0 : Int32)
def f_X10_takeNumber_b128 (M : ps_M) (a0 : Nat) (x1 : Int32) (x2 : Int32) (x4 : Int32) : Option (Int32 × ps_M) := ps_gI M a0 9 22 (fun xv4 => ps_gI M a0 9 23 (fun xv5 => if (4 : Int32) ≤ (xv4 - xv5) then (f_X10_takeNumber_b159 M a0 x4 a0) else (ps_b2 (f_X10_in M (x4.toInt64) (x1.toInt64) (x2.toInt64)) (fun xv7 M => if xv7 = 0 then (f_X10_takeNumber_b159 M a0 x4 a0) else (f_X10_takeNumber_b160 M a0 x4 a0 (1 : Int32))))))
def f_X10_takeNumber_w50 (k50 : ps_M → Nat → Int32 → Int32 → Int32 → Option (Int32 × ps_M)) (M : ps_M) (a0 : Nat) (x1 : Int32) (x2 : Int32) (x4 : Int32) : Option (Int32 × ps_M) := ps_gI M a0 9 22 (fun xv9 => ps_gI M a0 9 21 (fun xv10 => if xv10 ≤ xv9 then (f_X10_takeNumber_b128 M a0 x1 x2 x4) else (ps_gR M a0 9 20 (fun av12 => ps_gI M a0 9 22 (fun xv13 => ps_aI M av12 xv13 (fun xv14 => ps_b2 (f_X10_in M (xv14.toInt64) (48 : Int64) (57 : Int64)) (fun xv15 M => if xv15 = 0 then (f_X10_takeNumber_b128 M a0 x1 x2 x4) else (if x4 ≤ (99999 : Int32) then (ps_gR M a0 9 20 (fun av18 => ps_gI M a0 9 22 (fun xv19 => ps_aI M av18 xv19 (fun xv20 => f_X10_takeNumber_b113 k50 M a0 x1 x2 ((((10 : Int32) * x4) + xv20) - (48 : Int32)))))) else (f_X10_takeNumber_b113 k50 M a0 x1 x2 x4)))))))))
def f_X10_takeNumber_l50 : Nat → ps_M → Nat → Int32 → Int32 → Int32 → Option (Int32 × ps_M)
  | 0, _, _, _, _, _ => none
  | n + 1, M, a0, x1, x2, x4 => f_X10_takeNumber_w50 (f_X10_takeNumber_l50 n) M a0 x1 x2 x4
def f_X10_takeNumber (M : ps_M) (a0 : Nat) (x1 : Int32) (x2 : Int32) : Option (Int32 × ps_M) := ps_gI M a0 9 24 (fun xv21 => if xv21 ≤ 0 then (ps_ck M a0 9 (ps_b2 (f_X10_here M a0 ) (fun xv23 M => ps_gI M a0 9 22 (fun xv24 => ps_pI M a0 9 23 xv24 (fun M => ps_b2 (f_X10_in M (xv23.toInt64) (48 : Int64) (57 : Int64)) (fun xv25 M => ps_gI M a0 9 22 (fun xv26 => ps_ck M a0 9 (ps_b2 (f_X10_want M a0 xv25 (1 : Int32) xv26) (fun xv27 M => if xv27 = 0 then (some ((0 : Int32), M)) else (f_X10_takeNumber_l50 ps_fu M a0 x1 x2 (0 : Int32))))))))))) else (some ((0 : Int32), M)))
set_option maxRecDepth 100000 in
set_option maxHeartbeats 4000000 in
theorem kb_X10_takeNumber_b113 (C : ps_C p s m args meth c cX10_takeNumber 6 RX10 ((some .int)) "takeNumber" D Y B) {q : Int32 × ps_M} (k50 : ps_M → Nat → Int32 → Int32 → Int32 → Option (Int32 × ps_M)) (hk50 : ∀ (M : ps_M) (H : Heap) (locs : List Loc) (ls : Array Slot) (a0 : Nat) (x1 : Int32) (x2 : Int32) (x4 : Int32), k50 M a0 x1 x2 x4 = some q → ps_W D Y B M H → va_S (fun q => B ≤ q) s.heap H locs → lv_has ls 6 [(0, .ref (B + a0)), (1, .int x1), (2, .int x2), (4, .int x4)] → W p l e rm_X10_takeNumber s m args below meth c H locs 0 0 (ps_Qi D Y B below args s 0 0 q) (F0 m 50 ls [])) {M : ps_M} {a0 : Nat} {x1 : Int32} {x2 : Int32} {t0 : Int32} (hF : f_X10_takeNumber_b113 k50 M a0 x1 x2 t0 = some q) (hW : ps_W D Y B M H) (hS : va_S (fun q => B ≤ q) s.heap H locs) (hl : lv_has ls 6 [(0, .ref (B + a0)), (1, .int x1), (2, .int x2)]) : W p l e rm_X10_takeNumber s m args below meth c H locs 0 0 (ps_Qi D Y B below args s 0 0 q) (F0 m 113 ls [.int t0]) := by
  have hx := C.1
  have hb := C.2.1
  have hml := C.2.2.1
  have hown := C.2.2.2.1
  have hts := C.2.2.2.2.1
  unfold f_X10_takeNumber_b113 at hF
  refine lv_istore (lv' := [(4, .int t0), (0, .ref (B + a0)), (1, .int x1), (2, .int x2)]) hx hb dX10_takeNumber_113 hl (by decide) rfl (fun ls hl => ?_)
  refine lv_aload_n hx hb dX10_takeNumber_115 rfl (lv_at hl 1 rfl) ?_
  refine lv_dup hx hb dX10_takeNumber_116 rfl ?_
  refine pw_gI C hW pc_9 (k := 22) (by decide) rfl tq_940 dX10_takeNumber_117 hF (fun xv1 hF => ?_)
  refine lv_iconst (v := 1) hx hb dX10_takeNumber_120 (by decide) ?_
  refine lv_iadd hx hb dX10_takeNumber_121 ?_
  refine pw_pI C hW hS pc_9 (k := 22) (by decide) rfl rfl tq_940 rfl dX10_takeNumber_122 hF (fun M H locs hW hS hF => ?_)
  refine lv_goto (tgt := 50) hx hb dX10_takeNumber_125 (by decide) ?_
  exact hk50 M _ _ _ a0 x1 x2 t0 hF hW hS (lv_sub hl [1, 2, 3, 0] rfl)
set_option maxRecDepth 100000 in
set_option maxHeartbeats 4000000 in
theorem kb_X10_takeNumber_b160 (C : ps_C p s m args meth c cX10_takeNumber 6 RX10 ((some .int)) "takeNumber" D Y B) {q : Int32 × ps_M}  {M : ps_M} {a0 : Nat} {x4 : Int32} {t0 : Nat} {t1 : Int32} (hF : f_X10_takeNumber_b160 M a0 x4 t0 t1 = some q) (hW : ps_W D Y B M H) (hS : va_S (fun q => B ≤ q) s.heap H locs) (hl : lv_has ls 6 [(0, .ref (B + a0)), (4, .int x4)]) : W p l e rm_X10_takeNumber s m args below meth c H locs 0 0 (ps_Qi D Y B below args s 0 0 q) (F0 m 160 ls [.int t1, .ref (B + t0)]) := by
  have hx := C.1
  have hb := C.2.1
  have hml := C.2.2.1
  have hown := C.2.2.2.1
  have hts := C.2.2.2.2.1
  unfold f_X10_takeNumber_b160 at hF
  refine lv_iconst (v := 2) hx hb dX10_takeNumber_160 (by decide) ?_
  refine lv_aload_n hx hb dX10_takeNumber_161 rfl (lv_at hl 0 rfl) ?_
  refine pw_gI C hW pc_9 (k := 23) (by decide) rfl tq_941 dX10_takeNumber_162 hF (fun xv2 hF => ?_)
  obtain ⟨hK, hF⟩ := ps_ck_some hF
  obtain ⟨xv3, M9, hc, hF⟩ := ps_b2_some hF
  refine ps_backI (x0 := xv3) (M' := M9) hS (ps_callV C hW pc_9 mf_X10_want tq_1055 tq_33 tq_1053 ⟨Nat.le_of_ble_eq_true rfl, Nat.le_of_ble_eq_true rfl⟩ rfl rfl (As := [.int t1, .int (2 : Int32), .int xv2]) (rest := []) (c_X10_want hc) hK rfl hl.1 rfl (Nat.le_of_ble_eq_true rfl) dX10_takeNumber_165 ⟨Nat.le_of_ble_eq_true rfl, Nat.le_of_ble_eq_true rfl⟩) (fun H locs hW hS => ?_)
  clear hc
  generalize M9 = M at hW hF
  refine lv_istore (lv' := [(5, .int xv3), (0, .ref (B + a0)), (4, .int x4)]) hx hb dX10_takeNumber_168 hl (by decide) rfl (fun ls hl => ?_)
  refine lv_iload hx hb dX10_takeNumber_170 (lv_at hl 2 rfl) ?_
  exact pw_iret C hW hS dX10_takeNumber_172 hF
set_option maxRecDepth 100000 in
set_option maxHeartbeats 4000000 in
theorem kb_X10_takeNumber_b159 (C : ps_C p s m args meth c cX10_takeNumber 6 RX10 ((some .int)) "takeNumber" D Y B) {q : Int32 × ps_M}  {M : ps_M} {a0 : Nat} {x4 : Int32} {t0 : Nat} (hF : f_X10_takeNumber_b159 M a0 x4 t0 = some q) (hW : ps_W D Y B M H) (hS : va_S (fun q => B ≤ q) s.heap H locs) (hl : lv_has ls 6 [(0, .ref (B + a0)), (4, .int x4)]) : W p l e rm_X10_takeNumber s m args below meth c H locs 0 0 (ps_Qi D Y B below args s 0 0 q) (F0 m 159 ls [.ref (B + t0)]) := by
  have hx := C.1
  have hb := C.2.1
  have hml := C.2.2.1
  have hown := C.2.2.2.1
  have hts := C.2.2.2.2.1
  unfold f_X10_takeNumber_b159 at hF
  refine lv_iconst (v := 0) hx hb dX10_takeNumber_159 (by decide) ?_
  exact kb_X10_takeNumber_b160 C hF hW hS (lv_sub hl [0, 1] rfl)
set_option maxRecDepth 100000 in
set_option maxHeartbeats 4000000 in
theorem kb_X10_takeNumber_b128 (C : ps_C p s m args meth c cX10_takeNumber 6 RX10 ((some .int)) "takeNumber" D Y B) {q : Int32 × ps_M}  {M : ps_M} {a0 : Nat} {x1 : Int32} {x2 : Int32} {x4 : Int32} (hF : f_X10_takeNumber_b128 M a0 x1 x2 x4 = some q) (hW : ps_W D Y B M H) (hS : va_S (fun q => B ≤ q) s.heap H locs) (hl : lv_has ls 6 [(0, .ref (B + a0)), (1, .int x1), (2, .int x2), (4, .int x4)]) : W p l e rm_X10_takeNumber s m args below meth c H locs 0 0 (ps_Qi D Y B below args s 0 0 q) (F0 m 128 ls []) := by
  have hx := C.1
  have hb := C.2.1
  have hml := C.2.2.1
  have hown := C.2.2.2.1
  have hts := C.2.2.2.2.1
  unfold f_X10_takeNumber_b128 at hF
  refine lv_aload_n hx hb dX10_takeNumber_128 rfl (lv_at hl 0 rfl) ?_
  refine lv_aload_n hx hb dX10_takeNumber_129 rfl (lv_at hl 0 rfl) ?_
  refine pw_gI C hW pc_9 (k := 22) (by decide) rfl tq_940 dX10_takeNumber_130 hF (fun xv4 hF => ?_)
  refine lv_aload_n hx hb dX10_takeNumber_133 rfl (lv_at hl 0 rfl) ?_
  refine pw_gI C hW pc_9 (k := 23) (by decide) rfl tq_941 dX10_takeNumber_134 hF (fun xv5 hF => ?_)
  refine lv_isub hx hb dX10_takeNumber_137 ?_
  refine lv_iconst (v := 4) hx hb dX10_takeNumber_138 (by decide) ?_
  refine lv_icmp_ge (tgt := 159) hx hb dX10_takeNumber_139 (by decide) (fun hv6 => ?_) (fun hv6 => ?_)
  · replace hF := (if_pos hv6).symm.trans hF
    exact kb_X10_takeNumber_b159 C hF hW hS (lv_sub hl [0, 3] rfl)
  · replace hF := (if_neg hv6).symm.trans hF
    refine lv_iload hx hb dX10_takeNumber_142 (lv_at hl 3 rfl) ?_
    refine lv_i2l hx hb dX10_takeNumber_144 rfl ?_
    refine lv_iload_n hx hb dX10_takeNumber_145 rfl (lv_at hl 1 rfl) ?_
    refine lv_i2l hx hb dX10_takeNumber_146 rfl ?_
    refine lv_iload_n hx hb dX10_takeNumber_147 rfl (lv_at hl 2 rfl) ?_
    refine lv_i2l hx hb dX10_takeNumber_148 rfl ?_
    obtain ⟨xv7, M9, hc, hF⟩ := ps_b2_some hF
    refine ps_backI (x0 := xv7) (M' := M9) hS (ps_callS C hW mf_X10_in tq_1031 tq_1030 ⟨Nat.le_of_ble_eq_true rfl, Nat.le_of_ble_eq_true rfl⟩ rfl rfl (As := [.long (x4.toInt64), .long (x1.toInt64), .long (x2.toInt64)]) (rest := [.ref (B + a0)]) (c_X10_in hc) rfl hl.1 rfl (Nat.le_of_ble_eq_true rfl) dX10_takeNumber_149 ⟨Nat.le_of_ble_eq_true rfl, Nat.le_of_ble_eq_true rfl⟩) (fun H locs hW hS => ?_)
    clear hc
    generalize M9 = M at hW hF
    refine lv_if_eq (tgt := 159) hx hb dX10_takeNumber_152 (by decide) (fun hv8 => ?_) (fun hv8 => ?_)
    · replace hF := (if_pos hv8).symm.trans hF
      exact kb_X10_takeNumber_b159 C hF hW hS (lv_sub hl [0, 3] rfl)
    · replace hF := (if_neg hv8).symm.trans hF
      refine lv_iconst (v := 1) hx hb dX10_takeNumber_155 (by decide) ?_
      refine lv_goto (tgt := 160) hx hb dX10_takeNumber_156 (by decide) ?_
      exact kb_X10_takeNumber_b160 C hF hW hS (lv_sub hl [0, 3] rfl)
set_option maxRecDepth 100000 in
set_option maxHeartbeats 4000000 in
theorem kb_X10_takeNumber_w50 (C : ps_C p s m args meth c cX10_takeNumber 6 RX10 ((some .int)) "takeNumber" D Y B) {q : Int32 × ps_M} (k50 : ps_M → Nat → Int32 → Int32 → Int32 → Option (Int32 × ps_M)) (hk50 : ∀ (M : ps_M) (H : Heap) (locs : List Loc) (ls : Array Slot) (a0 : Nat) (x1 : Int32) (x2 : Int32) (x4 : Int32), k50 M a0 x1 x2 x4 = some q → ps_W D Y B M H → va_S (fun q => B ≤ q) s.heap H locs → lv_has ls 6 [(0, .ref (B + a0)), (1, .int x1), (2, .int x2), (4, .int x4)] → W p l e rm_X10_takeNumber s m args below meth c H locs 0 0 (ps_Qi D Y B below args s 0 0 q) (F0 m 50 ls [])) {M : ps_M} {a0 : Nat} {x1 : Int32} {x2 : Int32} {x4 : Int32} (hF : f_X10_takeNumber_w50 k50 M a0 x1 x2 x4 = some q) (hW : ps_W D Y B M H) (hS : va_S (fun q => B ≤ q) s.heap H locs) (hl : lv_has ls 6 [(0, .ref (B + a0)), (1, .int x1), (2, .int x2), (4, .int x4)]) : W p l e rm_X10_takeNumber s m args below meth c H locs 0 0 (ps_Qi D Y B below args s 0 0 q) (F0 m 50 ls []) := by
  have hx := C.1
  have hb := C.2.1
  have hml := C.2.2.1
  have hown := C.2.2.2.1
  have hts := C.2.2.2.2.1
  unfold f_X10_takeNumber_w50 at hF
  refine lv_aload_n hx hb dX10_takeNumber_50 rfl (lv_at hl 0 rfl) ?_
  refine pw_gI C hW pc_9 (k := 22) (by decide) rfl tq_940 dX10_takeNumber_51 hF (fun xv9 hF => ?_)
  refine lv_aload_n hx hb dX10_takeNumber_54 rfl (lv_at hl 0 rfl) ?_
  refine pw_gI C hW pc_9 (k := 21) (by decide) rfl tq_939 dX10_takeNumber_55 hF (fun xv10 hF => ?_)
  refine lv_icmp_ge (tgt := 128) hx hb dX10_takeNumber_58 (by decide) (fun hv11 => ?_) (fun hv11 => ?_)
  · replace hF := (if_pos hv11).symm.trans hF
    exact kb_X10_takeNumber_b128 C hF hW hS (lv_sub hl [0, 1, 2, 3] rfl)
  · replace hF := (if_neg hv11).symm.trans hF
    refine lv_aload_n hx hb dX10_takeNumber_61 rfl (lv_at hl 0 rfl) ?_
    refine pw_gR C hW pc_9 (k := 20) (by decide) rfl tq_938 dX10_takeNumber_62 hF (fun av12 hF => ?_)
    refine lv_aload_n hx hb dX10_takeNumber_65 rfl (lv_at hl 0 rfl) ?_
    refine pw_gI C hW pc_9 (k := 22) (by decide) rfl tq_940 dX10_takeNumber_66 hF (fun xv13 hF => ?_)
    refine pw_aI C hW dX10_takeNumber_69 hF (fun xv14 hF => ?_)
    refine lv_i2l hx hb dX10_takeNumber_70 rfl ?_
    refine lv_ldc2 (v := 48) hx hb hown (hts _ tq_1065) dX10_takeNumber_71 ?_
    refine lv_ldc2 (v := 57) hx hb hown (hts _ tq_1066) dX10_takeNumber_74 ?_
    obtain ⟨xv15, M9, hc, hF⟩ := ps_b2_some hF
    refine ps_backI (x0 := xv15) (M' := M9) hS (ps_callS C hW mf_X10_in tq_1031 tq_1030 ⟨Nat.le_of_ble_eq_true rfl, Nat.le_of_ble_eq_true rfl⟩ rfl rfl (As := [.long (xv14.toInt64), .long (48 : Int64), .long (57 : Int64)]) (rest := []) (c_X10_in hc) rfl hl.1 rfl (Nat.le_of_ble_eq_true rfl) dX10_takeNumber_77 ⟨Nat.le_of_ble_eq_true rfl, Nat.le_of_ble_eq_true rfl⟩) (fun H locs hW hS => ?_)
    clear hc
    generalize M9 = M at hW hF
    refine lv_if_eq (tgt := 128) hx hb dX10_takeNumber_80 (by decide) (fun hv16 => ?_) (fun hv16 => ?_)
    · replace hF := (if_pos hv16).symm.trans hF
      exact kb_X10_takeNumber_b128 C hF hW hS (lv_sub hl [0, 1, 2, 3] rfl)
    · replace hF := (if_neg hv16).symm.trans hF
      refine lv_iload hx hb dX10_takeNumber_83 (lv_at hl 3 rfl) ?_
      refine lv_ldc (v := 99999) hx hb hown (hts _ tq_1067) dX10_takeNumber_85 ?_
      refine lv_icmp_le (tgt := 95) hx hb dX10_takeNumber_87 (by decide) (fun hv17 => ?_) (fun hv17 => ?_)
      · replace hF := (if_pos hv17).symm.trans hF
        refine lv_bipush (v := 10) hx hb dX10_takeNumber_95 (by decide) ?_
        refine lv_iload hx hb dX10_takeNumber_97 (lv_at hl 3 rfl) ?_
        refine lv_imul hx hb dX10_takeNumber_99 ?_
        refine lv_aload_n hx hb dX10_takeNumber_100 rfl (lv_at hl 0 rfl) ?_
        refine pw_gR C hW pc_9 (k := 20) (by decide) rfl tq_938 dX10_takeNumber_101 hF (fun av18 hF => ?_)
        refine lv_aload_n hx hb dX10_takeNumber_104 rfl (lv_at hl 0 rfl) ?_
        refine pw_gI C hW pc_9 (k := 22) (by decide) rfl tq_940 dX10_takeNumber_105 hF (fun xv19 hF => ?_)
        refine pw_aI C hW dX10_takeNumber_108 hF (fun xv20 hF => ?_)
        refine lv_iadd hx hb dX10_takeNumber_109 ?_
        refine lv_bipush (v := 48) hx hb dX10_takeNumber_110 (by decide) ?_
        refine lv_isub hx hb dX10_takeNumber_112 ?_
        exact kb_X10_takeNumber_b113 C k50 hk50 hF hW hS (lv_sub hl [0, 1, 2] rfl)
      · replace hF := (if_neg hv17).symm.trans hF
        refine lv_iload hx hb dX10_takeNumber_90 (lv_at hl 3 rfl) ?_
        refine lv_goto (tgt := 113) hx hb dX10_takeNumber_92 (by decide) ?_
        exact kb_X10_takeNumber_b113 C k50 hk50 hF hW hS (lv_sub hl [0, 1, 2] rfl)
theorem kb_X10_takeNumber_l50 (C : ps_C p s m args meth c cX10_takeNumber 6 RX10 ((some .int)) "takeNumber" D Y B) {q : Int32 × ps_M}  : ∀ (n : Nat) (M : ps_M) (H : Heap) (locs : List Loc) (ls : Array Slot) (a0 : Nat) (x1 : Int32) (x2 : Int32) (x4 : Int32), f_X10_takeNumber_l50 n M a0 x1 x2 x4 = some q → ps_W D Y B M H → va_S (fun q => B ≤ q) s.heap H locs → lv_has ls 6 [(0, .ref (B + a0)), (1, .int x1), (2, .int x2), (4, .int x4)] → W p l e rm_X10_takeNumber s m args below meth c H locs 0 0 (ps_Qi D Y B below args s 0 0 q) (F0 m 50 ls []) := by
  intro n
  induction n with
  | zero => intro M H locs ls a0 x1 x2 x4 hF; cases hF
  | succ n ih => intro M H locs ls a0 x1 x2 x4 hF hW hS hl; exact kb_X10_takeNumber_w50 C  (f_X10_takeNumber_l50 n) ih hF hW hS hl
set_option maxRecDepth 100000 in
set_option maxHeartbeats 4000000 in
theorem kb_X10_takeNumber (C : ps_C p s m args meth c cX10_takeNumber 6 RX10 ((some .int)) "takeNumber" D Y B) {q : Int32 × ps_M}  {M : ps_M} {a0 : Nat} {x1 : Int32} {x2 : Int32} (hF : f_X10_takeNumber M a0 x1 x2 = some q) (hW : ps_W D Y B M H) (hS : va_S (fun q => B ≤ q) s.heap H locs) (hl : lv_has ls 6 [(0, .ref (B + a0)), (1, .int x1), (2, .int x2)]) : W p l e rm_X10_takeNumber s m args below meth c H locs 0 0 (ps_Qi D Y B below args s 0 0 q) (F0 m 0 ls []) := by
  have hx := C.1
  have hb := C.2.1
  have hml := C.2.2.1
  have hown := C.2.2.2.1
  have hts := C.2.2.2.2.1
  unfold f_X10_takeNumber at hF
  refine lv_aload_n hx hb dX10_takeNumber_0 rfl (lv_at hl 0 rfl) ?_
  refine pw_gI C hW pc_9 (k := 24) (by decide) rfl tq_942 dX10_takeNumber_1 hF (fun xv21 hF => ?_)
  refine lv_if_le (tgt := 9) hx hb dX10_takeNumber_4 (by decide) (fun hv22 => ?_) (fun hv22 => ?_)
  · replace hF := (if_pos hv22).symm.trans hF
    refine lv_aload_n hx hb dX10_takeNumber_9 rfl (lv_at hl 0 rfl) ?_
    obtain ⟨hK, hF⟩ := ps_ck_some hF
    obtain ⟨xv23, M9, hc, hF⟩ := ps_b2_some hF
    refine ps_backI (x0 := xv23) (M' := M9) hS (ps_callV C hW pc_9 mf_X10_here tq_1041 tq_31 tq_1039 ⟨Nat.le_of_ble_eq_true rfl, Nat.le_of_ble_eq_true rfl⟩ rfl rfl (As := []) (rest := []) (c_X10_here hc) hK rfl hl.1 rfl (Nat.le_of_ble_eq_true rfl) dX10_takeNumber_10 ⟨Nat.le_of_ble_eq_true rfl, Nat.le_of_ble_eq_true rfl⟩) (fun H locs hW hS => ?_)
    clear hc
    generalize M9 = M at hW hF
    refine lv_istore_n (lv' := [(3, .int xv23), (0, .ref (B + a0)), (1, .int x1), (2, .int x2)]) hx hb dX10_takeNumber_13 rfl hl (by decide) rfl (fun ls hl => ?_)
    refine lv_aload_n hx hb dX10_takeNumber_14 rfl (lv_at hl 1 rfl) ?_
    refine lv_aload_n hx hb dX10_takeNumber_15 rfl (lv_at hl 1 rfl) ?_
    refine pw_gI C hW pc_9 (k := 22) (by decide) rfl tq_940 dX10_takeNumber_16 hF (fun xv24 hF => ?_)
    refine pw_pI C hW hS pc_9 (k := 23) (by decide) rfl rfl tq_941 rfl dX10_takeNumber_19 hF (fun M H locs hW hS hF => ?_)
    refine lv_aload_n hx hb dX10_takeNumber_22 rfl (lv_at hl 1 rfl) ?_
    refine lv_iload_n hx hb dX10_takeNumber_23 rfl (lv_at hl 0 rfl) ?_
    refine lv_i2l hx hb dX10_takeNumber_24 rfl ?_
    refine lv_ldc2 (v := 48) hx hb hown (hts _ tq_1065) dX10_takeNumber_25 ?_
    refine lv_ldc2 (v := 57) hx hb hown (hts _ tq_1066) dX10_takeNumber_28 ?_
    obtain ⟨xv25, M9, hc, hF⟩ := ps_b2_some hF
    refine ps_backI (x0 := xv25) (M' := M9) hS (ps_callS C hW mf_X10_in tq_1031 tq_1030 ⟨Nat.le_of_ble_eq_true rfl, Nat.le_of_ble_eq_true rfl⟩ rfl rfl (As := [.long (xv23.toInt64), .long (48 : Int64), .long (57 : Int64)]) (rest := [.ref (B + a0)]) (c_X10_in hc) rfl hl.1 rfl (Nat.le_of_ble_eq_true rfl) dX10_takeNumber_31 ⟨Nat.le_of_ble_eq_true rfl, Nat.le_of_ble_eq_true rfl⟩) (fun H locs hW hS => ?_)
    clear hc
    generalize M9 = M at hW hF
    refine lv_iconst (v := 1) hx hb dX10_takeNumber_34 (by decide) ?_
    refine lv_aload_n hx hb dX10_takeNumber_35 rfl (lv_at hl 1 rfl) ?_
    refine pw_gI C hW pc_9 (k := 22) (by decide) rfl tq_940 dX10_takeNumber_36 hF (fun xv26 hF => ?_)
    obtain ⟨hK, hF⟩ := ps_ck_some hF
    obtain ⟨xv27, M9, hc, hF⟩ := ps_b2_some hF
    refine ps_backI (x0 := xv27) (M' := M9) hS (ps_callV C hW pc_9 mf_X10_want tq_1055 tq_33 tq_1053 ⟨Nat.le_of_ble_eq_true rfl, Nat.le_of_ble_eq_true rfl⟩ rfl rfl (As := [.int xv25, .int (1 : Int32), .int xv26]) (rest := []) (c_X10_want hc) hK rfl hl.1 rfl (Nat.le_of_ble_eq_true rfl) dX10_takeNumber_39 ⟨Nat.le_of_ble_eq_true rfl, Nat.le_of_ble_eq_true rfl⟩) (fun H locs hW hS => ?_)
    clear hc
    generalize M9 = M at hW hF
    refine lv_if_ne (tgt := 47) hx hb dX10_takeNumber_42 (by decide) (fun hv28 => ?_) (fun hv28 => ?_)
    · replace hF := (if_neg hv28).symm.trans hF
      refine lv_iconst (v := 0) hx hb dX10_takeNumber_47 (by decide) ?_
      refine lv_istore (lv' := [(4, .int (0 : Int32)), (3, .int xv23), (0, .ref (B + a0)), (1, .int x1), (2, .int x2)]) hx hb dX10_takeNumber_48 hl (by decide) rfl (fun ls hl => ?_)
      exact kb_X10_takeNumber_l50 C ps_fu M _ _ _ a0 x1 x2 (0 : Int32) hF hW hS (lv_sub hl [2, 3, 4, 0] rfl)
    · replace hF := (if_pos hv28).symm.trans hF
      refine lv_iconst (v := 0) hx hb dX10_takeNumber_45 (by decide) ?_
      exact pw_iret C hW hS dX10_takeNumber_46 hF
  · replace hF := (if_neg hv22).symm.trans hF
    refine lv_iconst (v := 0) hx hb dX10_takeNumber_7 (by decide) ?_
    exact pw_iret C hW hS dX10_takeNumber_8 hF
theorem mf_X10_takeNumber : ps_mf yX10_takeNumber cX10_takeNumber 6 ((some .int)) 2 := ⟨tq_1064, tq_71, by decide +kernel, by decide +kernel, by decide +kernel⟩
theorem c_X10_takeNumber {l : Launch} {D : va_G} {Y : ps_A} {B : Nat} {M : ps_M} {a0 : Nat} {x1 : Int32} {x2 : Int32} {r : Int32} {M' : ps_M} (hF : f_X10_takeNumber M a0 x1 x2 = some (r, M')) : Met l yX10_takeNumber (Cond.code yX10_takeNumber cX10_takeNumber 6 ((some .int)) :: tb_G) rm_X10_takeNumber (ps_PB D Y B M [.ref (B + a0), .int x1, .int x2]) (va_Qi (fun x (_ : Unit) => x = r) (fun _ t => ps_St D Y B M' t) (fun q => B ≤ q)) 0 0 (fun q => B ≤ q) :=
  pm_of (by decide +kernel) (Nat.le_of_ble_eq_true rfl) (fun p e s m args below meth c C hW hS ls hl => kb_X10_takeNumber C hF hW hS hl)

abbrev rm_X10_takeLog : Room := { frames := 2, cells := 0, slots := 0, locals := 50 }
def f_X10_takeLog_b83 (k2 : ps_M → Nat → Int32 → Option (ps_M)) (M : ps_M) (a0 : Nat) (x1 : Int32) (t0 : Nat) (t1 : Int32) : Option (ps_M) := ps_gI M a0 9 22 (fun xv1 => ps_ck M t0 9 (ps_b2 (f_X10_want M t0 t1 (1 : Int32) xv1) (fun xv2 M => if xv2 = 0 then (k2 M a0 x1) else (ps_gI M a0 9 22 (fun xv4 => ps_pI M a0 9 22 (xv4 + (1 : Int32)) (fun M => k2 M a0 x1))))))
def f_X10_takeLog_b63 (k2 : ps_M → Nat → Int32 → Option (ps_M)) (M : ps_M) (a0 : Nat) (t0 : Int32) : Option (ps_M) := if t0 = 0 then (k2 M a0 t0) else (ps_gI M a0 9 7 (fun xv6 => if (12 : Int32) ≤ xv6 then (f_X10_takeLog_b83 k2 M a0 t0 a0 (0 : Int32)) else (f_X10_takeLog_b83 k2 M a0 t0 a0 (1 : Int32))))
def f_X10_takeLog_b62 (k2 : ps_M → Nat → Int32 → Option (ps_M)) (M : ps_M) (a0 : Nat) : Option (ps_M) := f_X10_takeLog_b63 k2 M a0 (0 : Int32)
def f_X10_takeLog_b107 (M : ps_M)  : Option (ps_M) := some M
def f_X10_takeLog_w2 (k2 : ps_M → Nat → Int32 → Option (ps_M)) (M : ps_M) (a0 : Nat) (x1 : Int32) : Option (ps_M) := if x1 = 0 then (f_X10_takeLog_b107 M ) else (ps_gI M a0 9 24 (fun xv9 => if xv9 = 0 then (ps_gR M a0 9 14 (fun av11 => ps_gI M a0 9 7 (fun xv12 => ps_ck M a0 9 (ps_b2 (f_X10_takeNumber M a0 (1 : Int32) (9 : Int32)) (fun xv13 M => ps_xI M av11 ((12 : Int32) + xv12) xv13 (fun M => ps_gI M a0 9 7 (fun xv14 => ps_pI M a0 9 7 (xv14 + (1 : Int32)) (fun M => ps_gI M a0 9 24 (fun xv15 => if xv15 = 0 then (ps_ck M a0 9 (ps_b2 (f_X10_here M a0 ) (fun xv17 M => if xv17 = (44 : Int32) then (f_X10_takeLog_b63 k2 M a0 (1 : Int32)) else (f_X10_takeLog_b62 k2 M a0)))) else (f_X10_takeLog_b62 k2 M a0)))))))))) else (f_X10_takeLog_b107 M )))
def f_X10_takeLog_l2 : Nat → ps_M → Nat → Int32 → Option (ps_M)
  | 0, _, _, _ => none
  | n + 1, M, a0, x1 => f_X10_takeLog_w2 (f_X10_takeLog_l2 n) M a0 x1
def f_X10_takeLog (M : ps_M) (a0 : Nat) : Option (ps_M) := f_X10_takeLog_l2 ps_fu M a0 (1 : Int32)
set_option maxRecDepth 100000 in
set_option maxHeartbeats 4000000 in
theorem kb_X10_takeLog_b83 (C : ps_C p s m args meth c cX10_takeLog 2 RX10 none "takeLog" D Y B) {q : ps_M} (k2 : ps_M → Nat → Int32 → Option (ps_M)) (hk2 : ∀ (M : ps_M) (H : Heap) (locs : List Loc) (ls : Array Slot) (a0 : Nat) (x1 : Int32), k2 M a0 x1 = some q → ps_W D Y B M H → va_S (fun q => B ≤ q) s.heap H locs → lv_has ls 2 [(0, .ref (B + a0)), (1, .int x1)] → W p l e rm_X10_takeLog s m args below meth c H locs 0 0 (ps_Qv D Y B below args s 0 0 q) (F0 m 2 ls [])) {M : ps_M} {a0 : Nat} {x1 : Int32} {t0 : Nat} {t1 : Int32} (hF : f_X10_takeLog_b83 k2 M a0 x1 t0 t1 = some q) (hW : ps_W D Y B M H) (hS : va_S (fun q => B ≤ q) s.heap H locs) (hl : lv_has ls 2 [(0, .ref (B + a0)), (1, .int x1)]) : W p l e rm_X10_takeLog s m args below meth c H locs 0 0 (ps_Qv D Y B below args s 0 0 q) (F0 m 83 ls [.int t1, .ref (B + t0)]) := by
  have hx := C.1
  have hb := C.2.1
  have hml := C.2.2.1
  have hown := C.2.2.2.1
  have hts := C.2.2.2.2.1
  unfold f_X10_takeLog_b83 at hF
  refine lv_iconst (v := 1) hx hb dX10_takeLog_83 (by decide) ?_
  refine lv_aload_n hx hb dX10_takeLog_84 rfl (lv_at hl 0 rfl) ?_
  refine pw_gI C hW pc_9 (k := 22) (by decide) rfl tq_940 dX10_takeLog_85 hF (fun xv1 hF => ?_)
  obtain ⟨hK, hF⟩ := ps_ck_some hF
  obtain ⟨xv2, M9, hc, hF⟩ := ps_b2_some hF
  refine ps_backI (x0 := xv2) (M' := M9) hS (ps_callV C hW pc_9 mf_X10_want tq_1055 tq_33 tq_1053 ⟨Nat.le_of_ble_eq_true rfl, Nat.le_of_ble_eq_true rfl⟩ rfl rfl (As := [.int t1, .int (1 : Int32), .int xv1]) (rest := []) (c_X10_want hc) hK rfl hl.1 rfl (Nat.le_of_ble_eq_true rfl) dX10_takeLog_88 ⟨Nat.le_of_ble_eq_true rfl, Nat.le_of_ble_eq_true rfl⟩) (fun H locs hW hS => ?_)
  clear hc
  generalize M9 = M at hW hF
  refine lv_if_eq (tgt := 2) hx hb dX10_takeLog_91 (by decide) (fun hv3 => ?_) (fun hv3 => ?_)
  · replace hF := (if_pos hv3).symm.trans hF
    exact hk2 M _ _ _ a0 x1 hF hW hS (lv_sub hl [0, 1] rfl)
  · replace hF := (if_neg hv3).symm.trans hF
    refine lv_aload_n hx hb dX10_takeLog_94 rfl (lv_at hl 0 rfl) ?_
    refine lv_dup hx hb dX10_takeLog_95 rfl ?_
    refine pw_gI C hW pc_9 (k := 22) (by decide) rfl tq_940 dX10_takeLog_96 hF (fun xv4 hF => ?_)
    refine lv_iconst (v := 1) hx hb dX10_takeLog_99 (by decide) ?_
    refine lv_iadd hx hb dX10_takeLog_100 ?_
    refine pw_pI C hW hS pc_9 (k := 22) (by decide) rfl rfl tq_940 rfl dX10_takeLog_101 hF (fun M H locs hW hS hF => ?_)
    refine lv_goto (tgt := 2) hx hb dX10_takeLog_104 (by decide) ?_
    exact hk2 M _ _ _ a0 x1 hF hW hS (lv_sub hl [0, 1] rfl)
set_option maxRecDepth 100000 in
set_option maxHeartbeats 4000000 in
theorem kb_X10_takeLog_b63 (C : ps_C p s m args meth c cX10_takeLog 2 RX10 none "takeLog" D Y B) {q : ps_M} (k2 : ps_M → Nat → Int32 → Option (ps_M)) (hk2 : ∀ (M : ps_M) (H : Heap) (locs : List Loc) (ls : Array Slot) (a0 : Nat) (x1 : Int32), k2 M a0 x1 = some q → ps_W D Y B M H → va_S (fun q => B ≤ q) s.heap H locs → lv_has ls 2 [(0, .ref (B + a0)), (1, .int x1)] → W p l e rm_X10_takeLog s m args below meth c H locs 0 0 (ps_Qv D Y B below args s 0 0 q) (F0 m 2 ls [])) {M : ps_M} {a0 : Nat} {t0 : Int32} (hF : f_X10_takeLog_b63 k2 M a0 t0 = some q) (hW : ps_W D Y B M H) (hS : va_S (fun q => B ≤ q) s.heap H locs) (hl : lv_has ls 2 [(0, .ref (B + a0))]) : W p l e rm_X10_takeLog s m args below meth c H locs 0 0 (ps_Qv D Y B below args s 0 0 q) (F0 m 63 ls [.int t0]) := by
  have hx := C.1
  have hb := C.2.1
  have hml := C.2.2.1
  have hown := C.2.2.2.1
  have hts := C.2.2.2.2.1
  unfold f_X10_takeLog_b63 at hF
  refine lv_istore_n (lv' := [(1, .int t0), (0, .ref (B + a0))]) hx hb dX10_takeLog_63 rfl hl (by decide) rfl (fun ls hl => ?_)
  refine lv_iload_n hx hb dX10_takeLog_64 rfl (lv_at hl 0 rfl) ?_
  refine lv_if_eq (tgt := 2) hx hb dX10_takeLog_65 (by decide) (fun hv5 => ?_) (fun hv5 => ?_)
  · replace hF := (if_pos hv5).symm.trans hF
    exact hk2 M _ _ _ a0 t0 hF hW hS (lv_sub hl [1, 0] rfl)
  · replace hF := (if_neg hv5).symm.trans hF
    refine lv_aload_n hx hb dX10_takeLog_68 rfl (lv_at hl 1 rfl) ?_
    refine lv_aload_n hx hb dX10_takeLog_69 rfl (lv_at hl 1 rfl) ?_
    refine pw_gI C hW pc_9 (k := 7) (by decide) rfl tq_925 dX10_takeLog_70 hF (fun xv6 hF => ?_)
    refine lv_bipush (v := 12) hx hb dX10_takeLog_73 (by decide) ?_
    refine lv_icmp_ge (tgt := 82) hx hb dX10_takeLog_75 (by decide) (fun hv7 => ?_) (fun hv7 => ?_)
    · replace hF := (if_pos hv7).symm.trans hF
      refine lv_iconst (v := 0) hx hb dX10_takeLog_82 (by decide) ?_
      exact kb_X10_takeLog_b83 C k2 hk2 hF hW hS (lv_sub hl [1, 0] rfl)
    · replace hF := (if_neg hv7).symm.trans hF
      refine lv_iconst (v := 1) hx hb dX10_takeLog_78 (by decide) ?_
      refine lv_goto (tgt := 83) hx hb dX10_takeLog_79 (by decide) ?_
      exact kb_X10_takeLog_b83 C k2 hk2 hF hW hS (lv_sub hl [1, 0] rfl)
set_option maxRecDepth 100000 in
set_option maxHeartbeats 4000000 in
theorem kb_X10_takeLog_b62 (C : ps_C p s m args meth c cX10_takeLog 2 RX10 none "takeLog" D Y B) {q : ps_M} (k2 : ps_M → Nat → Int32 → Option (ps_M)) (hk2 : ∀ (M : ps_M) (H : Heap) (locs : List Loc) (ls : Array Slot) (a0 : Nat) (x1 : Int32), k2 M a0 x1 = some q → ps_W D Y B M H → va_S (fun q => B ≤ q) s.heap H locs → lv_has ls 2 [(0, .ref (B + a0)), (1, .int x1)] → W p l e rm_X10_takeLog s m args below meth c H locs 0 0 (ps_Qv D Y B below args s 0 0 q) (F0 m 2 ls [])) {M : ps_M} {a0 : Nat} (hF : f_X10_takeLog_b62 k2 M a0 = some q) (hW : ps_W D Y B M H) (hS : va_S (fun q => B ≤ q) s.heap H locs) (hl : lv_has ls 2 [(0, .ref (B + a0))]) : W p l e rm_X10_takeLog s m args below meth c H locs 0 0 (ps_Qv D Y B below args s 0 0 q) (F0 m 62 ls []) := by
  have hx := C.1
  have hb := C.2.1
  have hml := C.2.2.1
  have hown := C.2.2.2.1
  have hts := C.2.2.2.2.1
  unfold f_X10_takeLog_b62 at hF
  refine lv_iconst (v := 0) hx hb dX10_takeLog_62 (by decide) ?_
  exact kb_X10_takeLog_b63 C k2 hk2 hF hW hS (lv_sub hl [0] rfl)
set_option maxRecDepth 100000 in
set_option maxHeartbeats 4000000 in
theorem kb_X10_takeLog_b107 (C : ps_C p s m args meth c cX10_takeLog 2 RX10 none "takeLog" D Y B) {q : ps_M}  {M : ps_M}  (hF : f_X10_takeLog_b107 M  = some q) (hW : ps_W D Y B M H) (hS : va_S (fun q => B ≤ q) s.heap H locs) (hl : lv_has ls 2 []) : W p l e rm_X10_takeLog s m args below meth c H locs 0 0 (ps_Qv D Y B below args s 0 0 q) (F0 m 107 ls []) := by
  have hx := C.1
  have hb := C.2.1
  have hml := C.2.2.1
  have hown := C.2.2.2.1
  have hts := C.2.2.2.2.1
  unfold f_X10_takeLog_b107 at hF
  exact pw_vret C hW hS dX10_takeLog_107 hF
set_option maxRecDepth 100000 in
set_option maxHeartbeats 4000000 in
theorem kb_X10_takeLog_w2 (C : ps_C p s m args meth c cX10_takeLog 2 RX10 none "takeLog" D Y B) {q : ps_M} (k2 : ps_M → Nat → Int32 → Option (ps_M)) (hk2 : ∀ (M : ps_M) (H : Heap) (locs : List Loc) (ls : Array Slot) (a0 : Nat) (x1 : Int32), k2 M a0 x1 = some q → ps_W D Y B M H → va_S (fun q => B ≤ q) s.heap H locs → lv_has ls 2 [(0, .ref (B + a0)), (1, .int x1)] → W p l e rm_X10_takeLog s m args below meth c H locs 0 0 (ps_Qv D Y B below args s 0 0 q) (F0 m 2 ls [])) {M : ps_M} {a0 : Nat} {x1 : Int32} (hF : f_X10_takeLog_w2 k2 M a0 x1 = some q) (hW : ps_W D Y B M H) (hS : va_S (fun q => B ≤ q) s.heap H locs) (hl : lv_has ls 2 [(0, .ref (B + a0)), (1, .int x1)]) : W p l e rm_X10_takeLog s m args below meth c H locs 0 0 (ps_Qv D Y B below args s 0 0 q) (F0 m 2 ls []) := by
  have hx := C.1
  have hb := C.2.1
  have hml := C.2.2.1
  have hown := C.2.2.2.1
  have hts := C.2.2.2.2.1
  unfold f_X10_takeLog_w2 at hF
  refine lv_iload_n hx hb dX10_takeLog_2 rfl (lv_at hl 1 rfl) ?_
  refine lv_if_eq (tgt := 107) hx hb dX10_takeLog_3 (by decide) (fun hv8 => ?_) (fun hv8 => ?_)
  · replace hF := (if_pos hv8).symm.trans hF
    exact kb_X10_takeLog_b107 C hF hW hS (lv_sub hl [] rfl)
  · replace hF := (if_neg hv8).symm.trans hF
    refine lv_aload_n hx hb dX10_takeLog_6 rfl (lv_at hl 0 rfl) ?_
    refine pw_gI C hW pc_9 (k := 24) (by decide) rfl tq_942 dX10_takeLog_7 hF (fun xv9 hF => ?_)
    refine lv_if_ne (tgt := 107) hx hb dX10_takeLog_10 (by decide) (fun hv10 => ?_) (fun hv10 => ?_)
    · replace hF := (if_neg hv10).symm.trans hF
      exact kb_X10_takeLog_b107 C hF hW hS (lv_sub hl [] rfl)
    · replace hF := (if_pos hv10).symm.trans hF
      refine lv_aload_n hx hb dX10_takeLog_13 rfl (lv_at hl 0 rfl) ?_
      refine pw_gR C hW pc_9 (k := 14) (by decide) rfl tq_932 dX10_takeLog_14 hF (fun av11 hF => ?_)
      refine lv_bipush (v := 12) hx hb dX10_takeLog_17 (by decide) ?_
      refine lv_aload_n hx hb dX10_takeLog_19 rfl (lv_at hl 0 rfl) ?_
      refine pw_gI C hW pc_9 (k := 7) (by decide) rfl tq_925 dX10_takeLog_20 hF (fun xv12 hF => ?_)
      refine lv_iadd hx hb dX10_takeLog_23 ?_
      refine lv_aload_n hx hb dX10_takeLog_24 rfl (lv_at hl 0 rfl) ?_
      refine lv_iconst (v := 1) hx hb dX10_takeLog_25 (by decide) ?_
      refine lv_bipush (v := 9) hx hb dX10_takeLog_26 (by decide) ?_
      obtain ⟨hK, hF⟩ := ps_ck_some hF
      obtain ⟨xv13, M9, hc, hF⟩ := ps_b2_some hF
      refine ps_backI (x0 := xv13) (M' := M9) hS (ps_callV C hW pc_9 mf_X10_takeNumber tq_1063 tq_35 tq_1061 ⟨Nat.le_of_ble_eq_true rfl, Nat.le_of_ble_eq_true rfl⟩ rfl rfl (As := [.int (1 : Int32), .int (9 : Int32)]) (rest := [.int ((12 : Int32) + xv12), .ref (B + av11)]) (c_X10_takeNumber hc) hK rfl hl.1 rfl (Nat.le_of_ble_eq_true rfl) dX10_takeLog_28 ⟨Nat.le_of_ble_eq_true rfl, Nat.le_of_ble_eq_true rfl⟩) (fun H locs hW hS => ?_)
      clear hc
      generalize M9 = M at hW hF
      refine pw_xI C hW hS dX10_takeLog_31 hF (fun M H locs hW hS hF => ?_)
      refine lv_aload_n hx hb dX10_takeLog_32 rfl (lv_at hl 0 rfl) ?_
      refine lv_dup hx hb dX10_takeLog_33 rfl ?_
      refine pw_gI C hW pc_9 (k := 7) (by decide) rfl tq_925 dX10_takeLog_34 hF (fun xv14 hF => ?_)
      refine lv_iconst (v := 1) hx hb dX10_takeLog_37 (by decide) ?_
      refine lv_iadd hx hb dX10_takeLog_38 ?_
      refine pw_pI C hW hS pc_9 (k := 7) (by decide) rfl rfl tq_925 rfl dX10_takeLog_39 hF (fun M H locs hW hS hF => ?_)
      refine lv_aload_n hx hb dX10_takeLog_42 rfl (lv_at hl 0 rfl) ?_
      refine pw_gI C hW pc_9 (k := 24) (by decide) rfl tq_942 dX10_takeLog_43 hF (fun xv15 hF => ?_)
      refine lv_if_ne (tgt := 62) hx hb dX10_takeLog_46 (by decide) (fun hv16 => ?_) (fun hv16 => ?_)
      · replace hF := (if_neg hv16).symm.trans hF
        exact kb_X10_takeLog_b62 C k2 hk2 hF hW hS (lv_sub hl [0] rfl)
      · replace hF := (if_pos hv16).symm.trans hF
        refine lv_aload_n hx hb dX10_takeLog_49 rfl (lv_at hl 0 rfl) ?_
        obtain ⟨hK, hF⟩ := ps_ck_some hF
        obtain ⟨xv17, M9, hc, hF⟩ := ps_b2_some hF
        refine ps_backI (x0 := xv17) (M' := M9) hS (ps_callV C hW pc_9 mf_X10_here tq_1041 tq_31 tq_1039 ⟨Nat.le_of_ble_eq_true rfl, Nat.le_of_ble_eq_true rfl⟩ rfl rfl (As := []) (rest := []) (c_X10_here hc) hK rfl hl.1 rfl (Nat.le_of_ble_eq_true rfl) dX10_takeLog_50 ⟨Nat.le_of_ble_eq_true rfl, Nat.le_of_ble_eq_true rfl⟩) (fun H locs hW hS => ?_)
        clear hc
        generalize M9 = M at hW hF
        refine lv_bipush (v := 44) hx hb dX10_takeLog_53 (by decide) ?_
        refine lv_icmp_ne (tgt := 62) hx hb dX10_takeLog_55 (by decide) (fun hv18 => ?_) (fun hv18 => ?_)
        · replace hF := (if_neg hv18).symm.trans hF
          exact kb_X10_takeLog_b62 C k2 hk2 hF hW hS (lv_sub hl [0] rfl)
        · replace hF := (if_pos hv18).symm.trans hF
          refine lv_iconst (v := 1) hx hb dX10_takeLog_58 (by decide) ?_
          refine lv_goto (tgt := 63) hx hb dX10_takeLog_59 (by decide) ?_
          exact kb_X10_takeLog_b63 C k2 hk2 hF hW hS (lv_sub hl [0] rfl)
theorem kb_X10_takeLog_l2 (C : ps_C p s m args meth c cX10_takeLog 2 RX10 none "takeLog" D Y B) {q : ps_M}  : ∀ (n : Nat) (M : ps_M) (H : Heap) (locs : List Loc) (ls : Array Slot) (a0 : Nat) (x1 : Int32), f_X10_takeLog_l2 n M a0 x1 = some q → ps_W D Y B M H → va_S (fun q => B ≤ q) s.heap H locs → lv_has ls 2 [(0, .ref (B + a0)), (1, .int x1)] → W p l e rm_X10_takeLog s m args below meth c H locs 0 0 (ps_Qv D Y B below args s 0 0 q) (F0 m 2 ls []) := by
  intro n
  induction n with
  | zero => intro M H locs ls a0 x1 hF; cases hF
  | succ n ih => intro M H locs ls a0 x1 hF hW hS hl; exact kb_X10_takeLog_w2 C  (f_X10_takeLog_l2 n) ih hF hW hS hl
set_option maxRecDepth 100000 in
set_option maxHeartbeats 4000000 in
theorem kb_X10_takeLog (C : ps_C p s m args meth c cX10_takeLog 2 RX10 none "takeLog" D Y B) {q : ps_M}  {M : ps_M} {a0 : Nat} (hF : f_X10_takeLog M a0 = some q) (hW : ps_W D Y B M H) (hS : va_S (fun q => B ≤ q) s.heap H locs) (hl : lv_has ls 2 [(0, .ref (B + a0))]) : W p l e rm_X10_takeLog s m args below meth c H locs 0 0 (ps_Qv D Y B below args s 0 0 q) (F0 m 0 ls []) := by
  have hx := C.1
  have hb := C.2.1
  have hml := C.2.2.1
  have hown := C.2.2.2.1
  have hts := C.2.2.2.2.1
  unfold f_X10_takeLog at hF
  refine lv_iconst (v := 1) hx hb dX10_takeLog_0 (by decide) ?_
  refine lv_istore_n (lv' := [(1, .int (1 : Int32)), (0, .ref (B + a0))]) hx hb dX10_takeLog_1 rfl hl (by decide) rfl (fun ls hl => ?_)
  exact kb_X10_takeLog_l2 C ps_fu M _ _ _ a0 (1 : Int32) hF hW hS (lv_sub hl [1, 0] rfl)
theorem mf_X10_takeLog : ps_mf yX10_takeLog cX10_takeLog 2 none 0 := ⟨tq_1060, tq_71, by decide +kernel, by decide +kernel, by decide +kernel⟩
theorem c_X10_takeLog {l : Launch} {D : va_G} {Y : ps_A} {B : Nat} {M : ps_M} {a0 : Nat} {M' : ps_M} (hF : f_X10_takeLog M a0 = some M') : Met l yX10_takeLog (Cond.code yX10_takeLog cX10_takeLog 2 none :: tb_G) rm_X10_takeLog (ps_PB D Y B M [.ref (B + a0)]) (va_Qv (fun (_ : Unit) => True) (fun _ t => ps_St D Y B M' t) (fun q => B ≤ q)) 0 0 (fun q => B ≤ q) :=
  pm_of (by decide +kernel) (Nat.le_of_ble_eq_true rfl) (fun p e s m args below meth c C hW hS ls hl => kb_X10_takeLog C hF hW hS hl)

abbrev rm_X10_takePerson : Room := { frames := 2, cells := 0, slots := 0, locals := 50 }
def f_X10_takePerson (M : ps_M) (a0 : Nat) : Option (ps_M) := ps_gI M a0 9 8 (fun xv1 => ps_v (((4 : Int32) + xv1)) (fun xv2 => ps_gR M a0 9 15 (fun av3 => ps_ck M a0 9 (ps_b2 (f_X10_takeNumber M a0 (1 : Int32) (20 : Int32)) (fun xv4 M => ps_xI M av3 xv2 xv4 (fun M => ps_gR M a0 9 16 (fun av5 => ps_ck M a0 9 (ps_b2 (f_X10_takeNumber M a0 (0 : Int32) (9 : Int32)) (fun xv6 M => ps_xI M av5 xv2 xv6 (fun M => ps_gR M a0 9 17 (fun av7 => ps_ck M a0 9 (ps_b2 (f_X10_takeNumber M a0 (0 : Int32) (5 : Int32)) (fun xv8 M => ps_xI M av7 xv2 xv8 (fun M => ps_gR M a0 9 18 (fun av9 => ps_ck M a0 9 (ps_b2 (f_X10_takeNumber M a0 (0 : Int32) (9 : Int32)) (fun xv10 M => ps_xI M av9 xv2 xv10 (fun M => ps_gR M a0 9 19 (fun av11 => ps_ck M a0 9 (ps_b2 (f_X10_takeNumber M a0 (0 : Int32) (2 : Int32)) (fun xv12 M => ps_xI M av11 xv2 xv12 (fun M => ps_gI M a0 9 8 (fun xv13 => ps_pI M a0 9 8 (xv13 + (1 : Int32)) (fun M => some M))))))))))))))))))))))))
set_option maxRecDepth 100000 in
set_option maxHeartbeats 4000000 in
theorem kb_X10_takePerson (C : ps_C p s m args meth c cX10_takePerson 2 RX10 none "takePerson" D Y B) {q : ps_M}  {M : ps_M} {a0 : Nat} (hF : f_X10_takePerson M a0 = some q) (hW : ps_W D Y B M H) (hS : va_S (fun q => B ≤ q) s.heap H locs) (hl : lv_has ls 2 [(0, .ref (B + a0))]) : W p l e rm_X10_takePerson s m args below meth c H locs 0 0 (ps_Qv D Y B below args s 0 0 q) (F0 m 0 ls []) := by
  have hx := C.1
  have hb := C.2.1
  have hml := C.2.2.1
  have hown := C.2.2.2.1
  have hts := C.2.2.2.2.1
  unfold f_X10_takePerson at hF
  refine lv_iconst (v := 4) hx hb dX10_takePerson_0 (by decide) ?_
  refine lv_aload_n hx hb dX10_takePerson_1 rfl (lv_at hl 0 rfl) ?_
  refine pw_gI C hW pc_9 (k := 8) (by decide) rfl tq_926 dX10_takePerson_2 hF (fun xv1 hF => ?_)
  refine lv_iadd hx hb dX10_takePerson_5 ?_
  refine pw_v hF (fun xv2 hF => ?_)
  refine lv_istore_n (lv' := [(1, .int xv2), (0, .ref (B + a0))]) hx hb dX10_takePerson_6 rfl hl (by decide) rfl (fun ls hl => ?_)
  refine lv_aload_n hx hb dX10_takePerson_7 rfl (lv_at hl 1 rfl) ?_
  refine pw_gR C hW pc_9 (k := 15) (by decide) rfl tq_933 dX10_takePerson_8 hF (fun av3 hF => ?_)
  refine lv_iload_n hx hb dX10_takePerson_11 rfl (lv_at hl 0 rfl) ?_
  refine lv_aload_n hx hb dX10_takePerson_12 rfl (lv_at hl 1 rfl) ?_
  refine lv_iconst (v := 1) hx hb dX10_takePerson_13 (by decide) ?_
  refine lv_bipush (v := 20) hx hb dX10_takePerson_14 (by decide) ?_
  obtain ⟨hK, hF⟩ := ps_ck_some hF
  obtain ⟨xv4, M9, hc, hF⟩ := ps_b2_some hF
  refine ps_backI (x0 := xv4) (M' := M9) hS (ps_callV C hW pc_9 mf_X10_takeNumber tq_1063 tq_35 tq_1061 ⟨Nat.le_of_ble_eq_true rfl, Nat.le_of_ble_eq_true rfl⟩ rfl rfl (As := [.int (1 : Int32), .int (20 : Int32)]) (rest := [.int xv2, .ref (B + av3)]) (c_X10_takeNumber hc) hK rfl hl.1 rfl (Nat.le_of_ble_eq_true rfl) dX10_takePerson_16 ⟨Nat.le_of_ble_eq_true rfl, Nat.le_of_ble_eq_true rfl⟩) (fun H locs hW hS => ?_)
  clear hc
  generalize M9 = M at hW hF
  refine pw_xI C hW hS dX10_takePerson_19 hF (fun M H locs hW hS hF => ?_)
  refine lv_aload_n hx hb dX10_takePerson_20 rfl (lv_at hl 1 rfl) ?_
  refine pw_gR C hW pc_9 (k := 16) (by decide) rfl tq_934 dX10_takePerson_21 hF (fun av5 hF => ?_)
  refine lv_iload_n hx hb dX10_takePerson_24 rfl (lv_at hl 0 rfl) ?_
  refine lv_aload_n hx hb dX10_takePerson_25 rfl (lv_at hl 1 rfl) ?_
  refine lv_iconst (v := 0) hx hb dX10_takePerson_26 (by decide) ?_
  refine lv_bipush (v := 9) hx hb dX10_takePerson_27 (by decide) ?_
  obtain ⟨hK, hF⟩ := ps_ck_some hF
  obtain ⟨xv6, M9, hc, hF⟩ := ps_b2_some hF
  refine ps_backI (x0 := xv6) (M' := M9) hS (ps_callV C hW pc_9 mf_X10_takeNumber tq_1063 tq_35 tq_1061 ⟨Nat.le_of_ble_eq_true rfl, Nat.le_of_ble_eq_true rfl⟩ rfl rfl (As := [.int (0 : Int32), .int (9 : Int32)]) (rest := [.int xv2, .ref (B + av5)]) (c_X10_takeNumber hc) hK rfl hl.1 rfl (Nat.le_of_ble_eq_true rfl) dX10_takePerson_29 ⟨Nat.le_of_ble_eq_true rfl, Nat.le_of_ble_eq_true rfl⟩) (fun H locs hW hS => ?_)
  clear hc
  generalize M9 = M at hW hF
  refine pw_xI C hW hS dX10_takePerson_32 hF (fun M H locs hW hS hF => ?_)
  refine lv_aload_n hx hb dX10_takePerson_33 rfl (lv_at hl 1 rfl) ?_
  refine pw_gR C hW pc_9 (k := 17) (by decide) rfl tq_935 dX10_takePerson_34 hF (fun av7 hF => ?_)
  refine lv_iload_n hx hb dX10_takePerson_37 rfl (lv_at hl 0 rfl) ?_
  refine lv_aload_n hx hb dX10_takePerson_38 rfl (lv_at hl 1 rfl) ?_
  refine lv_iconst (v := 0) hx hb dX10_takePerson_39 (by decide) ?_
  refine lv_iconst (v := 5) hx hb dX10_takePerson_40 (by decide) ?_
  obtain ⟨hK, hF⟩ := ps_ck_some hF
  obtain ⟨xv8, M9, hc, hF⟩ := ps_b2_some hF
  refine ps_backI (x0 := xv8) (M' := M9) hS (ps_callV C hW pc_9 mf_X10_takeNumber tq_1063 tq_35 tq_1061 ⟨Nat.le_of_ble_eq_true rfl, Nat.le_of_ble_eq_true rfl⟩ rfl rfl (As := [.int (0 : Int32), .int (5 : Int32)]) (rest := [.int xv2, .ref (B + av7)]) (c_X10_takeNumber hc) hK rfl hl.1 rfl (Nat.le_of_ble_eq_true rfl) dX10_takePerson_41 ⟨Nat.le_of_ble_eq_true rfl, Nat.le_of_ble_eq_true rfl⟩) (fun H locs hW hS => ?_)
  clear hc
  generalize M9 = M at hW hF
  refine pw_xI C hW hS dX10_takePerson_44 hF (fun M H locs hW hS hF => ?_)
  refine lv_aload_n hx hb dX10_takePerson_45 rfl (lv_at hl 1 rfl) ?_
  refine pw_gR C hW pc_9 (k := 18) (by decide) rfl tq_936 dX10_takePerson_46 hF (fun av9 hF => ?_)
  refine lv_iload_n hx hb dX10_takePerson_49 rfl (lv_at hl 0 rfl) ?_
  refine lv_aload_n hx hb dX10_takePerson_50 rfl (lv_at hl 1 rfl) ?_
  refine lv_iconst (v := 0) hx hb dX10_takePerson_51 (by decide) ?_
  refine lv_bipush (v := 9) hx hb dX10_takePerson_52 (by decide) ?_
  obtain ⟨hK, hF⟩ := ps_ck_some hF
  obtain ⟨xv10, M9, hc, hF⟩ := ps_b2_some hF
  refine ps_backI (x0 := xv10) (M' := M9) hS (ps_callV C hW pc_9 mf_X10_takeNumber tq_1063 tq_35 tq_1061 ⟨Nat.le_of_ble_eq_true rfl, Nat.le_of_ble_eq_true rfl⟩ rfl rfl (As := [.int (0 : Int32), .int (9 : Int32)]) (rest := [.int xv2, .ref (B + av9)]) (c_X10_takeNumber hc) hK rfl hl.1 rfl (Nat.le_of_ble_eq_true rfl) dX10_takePerson_54 ⟨Nat.le_of_ble_eq_true rfl, Nat.le_of_ble_eq_true rfl⟩) (fun H locs hW hS => ?_)
  clear hc
  generalize M9 = M at hW hF
  refine pw_xI C hW hS dX10_takePerson_57 hF (fun M H locs hW hS hF => ?_)
  refine lv_aload_n hx hb dX10_takePerson_58 rfl (lv_at hl 1 rfl) ?_
  refine pw_gR C hW pc_9 (k := 19) (by decide) rfl tq_937 dX10_takePerson_59 hF (fun av11 hF => ?_)
  refine lv_iload_n hx hb dX10_takePerson_62 rfl (lv_at hl 0 rfl) ?_
  refine lv_aload_n hx hb dX10_takePerson_63 rfl (lv_at hl 1 rfl) ?_
  refine lv_iconst (v := 0) hx hb dX10_takePerson_64 (by decide) ?_
  refine lv_iconst (v := 2) hx hb dX10_takePerson_65 (by decide) ?_
  obtain ⟨hK, hF⟩ := ps_ck_some hF
  obtain ⟨xv12, M9, hc, hF⟩ := ps_b2_some hF
  refine ps_backI (x0 := xv12) (M' := M9) hS (ps_callV C hW pc_9 mf_X10_takeNumber tq_1063 tq_35 tq_1061 ⟨Nat.le_of_ble_eq_true rfl, Nat.le_of_ble_eq_true rfl⟩ rfl rfl (As := [.int (0 : Int32), .int (2 : Int32)]) (rest := [.int xv2, .ref (B + av11)]) (c_X10_takeNumber hc) hK rfl hl.1 rfl (Nat.le_of_ble_eq_true rfl) dX10_takePerson_66 ⟨Nat.le_of_ble_eq_true rfl, Nat.le_of_ble_eq_true rfl⟩) (fun H locs hW hS => ?_)
  clear hc
  generalize M9 = M at hW hF
  refine pw_xI C hW hS dX10_takePerson_69 hF (fun M H locs hW hS hF => ?_)
  refine lv_aload_n hx hb dX10_takePerson_70 rfl (lv_at hl 1 rfl) ?_
  refine lv_dup hx hb dX10_takePerson_71 rfl ?_
  refine pw_gI C hW pc_9 (k := 8) (by decide) rfl tq_926 dX10_takePerson_72 hF (fun xv13 hF => ?_)
  refine lv_iconst (v := 1) hx hb dX10_takePerson_75 (by decide) ?_
  refine lv_iadd hx hb dX10_takePerson_76 ?_
  refine pw_pI C hW hS pc_9 (k := 8) (by decide) rfl rfl tq_926 rfl dX10_takePerson_77 hF (fun M H locs hW hS hF => ?_)
  exact pw_vret C hW hS dX10_takePerson_80 hF
theorem mf_X10_takePerson : ps_mf yX10_takePerson cX10_takePerson 2 none 0 := ⟨tq_1071, tq_71, by decide +kernel, by decide +kernel, by decide +kernel⟩
theorem c_X10_takePerson {l : Launch} {D : va_G} {Y : ps_A} {B : Nat} {M : ps_M} {a0 : Nat} {M' : ps_M} (hF : f_X10_takePerson M a0 = some M') : Met l yX10_takePerson (Cond.code yX10_takePerson cX10_takePerson 2 none :: tb_G) rm_X10_takePerson (ps_PB D Y B M [.ref (B + a0)]) (va_Qv (fun (_ : Unit) => True) (fun _ t => ps_St D Y B M' t) (fun q => B ≤ q)) 0 0 (fun q => B ≤ q) :=
  pm_of (by decide +kernel) (Nat.le_of_ble_eq_true rfl) (fun p e s m args below meth c C hW hS ls hl => kb_X10_takePerson C hF hW hS hl)

abbrev rm_X10_wordOf : Room := { frames := 0, cells := 0, slots := 0, locals := 0 }
def f_X10_wordOf_b41 (M : ps_M) (t0 : Int32) : Option (Int32 × ps_M) := some (t0, M)
def f_X10_wordOf (M : ps_M) (x0 : Int32) : Option (Int32 × ps_M) := if x0 = (108 : Int32) then (f_X10_wordOf_b41 M (0 : Int32)) else (if x0 = (115 : Int32) then (f_X10_wordOf_b41 M (1 : Int32)) else (if x0 = (99 : Int32) then (f_X10_wordOf_b41 M (2 : Int32)) else (if x0 = (112 : Int32) then (f_X10_wordOf_b41 M (3 : Int32)) else (f_X10_wordOf_b41 M (-1 : Int32)))))
set_option maxRecDepth 100000 in
set_option maxHeartbeats 4000000 in
theorem kb_X10_wordOf_b41 (C : ps_C p s m args meth c cX10_wordOf 1 RX10 ((some .int)) "wordOf" D Y B) {q : Int32 × ps_M}  {M : ps_M} {t0 : Int32} (hF : f_X10_wordOf_b41 M t0 = some q) (hW : ps_W D Y B M H) (hS : va_S (fun q => B ≤ q) s.heap H locs) (hl : lv_has ls 1 []) : W p l e rm_X10_wordOf s m args below meth c H locs 0 0 (ps_Qi D Y B below args s 0 0 q) (F0 m 41 ls [.int t0]) := by
  have hx := C.1
  have hb := C.2.1
  have hml := C.2.2.1
  have hown := C.2.2.2.1
  have hts := C.2.2.2.2.1
  unfold f_X10_wordOf_b41 at hF
  exact pw_iret C hW hS dX10_wordOf_41 hF
set_option maxRecDepth 100000 in
set_option maxHeartbeats 4000000 in
theorem kb_X10_wordOf (C : ps_C p s m args meth c cX10_wordOf 1 RX10 ((some .int)) "wordOf" D Y B) {q : Int32 × ps_M}  {M : ps_M} {x0 : Int32} (hF : f_X10_wordOf M x0 = some q) (hW : ps_W D Y B M H) (hS : va_S (fun q => B ≤ q) s.heap H locs) (hl : lv_has ls 1 [(0, .int x0)]) : W p l e rm_X10_wordOf s m args below meth c H locs 0 0 (ps_Qi D Y B below args s 0 0 q) (F0 m 0 ls []) := by
  have hx := C.1
  have hb := C.2.1
  have hml := C.2.2.1
  have hown := C.2.2.2.1
  have hts := C.2.2.2.2.1
  unfold f_X10_wordOf at hF
  refine lv_iload_n hx hb dX10_wordOf_0 rfl (lv_at hl 0 rfl) ?_
  refine lv_bipush (v := 108) hx hb dX10_wordOf_1 (by decide) ?_
  refine lv_icmp_ne (tgt := 10) hx hb dX10_wordOf_3 (by decide) (fun hv1 => ?_) (fun hv1 => ?_)
  · replace hF := (if_neg hv1).symm.trans hF
    refine lv_iload_n hx hb dX10_wordOf_10 rfl (lv_at hl 0 rfl) ?_
    refine lv_bipush (v := 115) hx hb dX10_wordOf_11 (by decide) ?_
    refine lv_icmp_ne (tgt := 20) hx hb dX10_wordOf_13 (by decide) (fun hv2 => ?_) (fun hv2 => ?_)
    · replace hF := (if_neg hv2).symm.trans hF
      refine lv_iload_n hx hb dX10_wordOf_20 rfl (lv_at hl 0 rfl) ?_
      refine lv_bipush (v := 99) hx hb dX10_wordOf_21 (by decide) ?_
      refine lv_icmp_ne (tgt := 30) hx hb dX10_wordOf_23 (by decide) (fun hv3 => ?_) (fun hv3 => ?_)
      · replace hF := (if_neg hv3).symm.trans hF
        refine lv_iload_n hx hb dX10_wordOf_30 rfl (lv_at hl 0 rfl) ?_
        refine lv_bipush (v := 112) hx hb dX10_wordOf_31 (by decide) ?_
        refine lv_icmp_ne (tgt := 40) hx hb dX10_wordOf_33 (by decide) (fun hv4 => ?_) (fun hv4 => ?_)
        · replace hF := (if_neg hv4).symm.trans hF
          refine lv_iconst (v := -1) hx hb dX10_wordOf_40 (by decide) ?_
          exact kb_X10_wordOf_b41 C hF hW hS (lv_sub hl [] rfl)
        · replace hF := (if_pos hv4).symm.trans hF
          refine lv_iconst (v := 3) hx hb dX10_wordOf_36 (by decide) ?_
          refine lv_goto (tgt := 41) hx hb dX10_wordOf_37 (by decide) ?_
          exact kb_X10_wordOf_b41 C hF hW hS (lv_sub hl [] rfl)
      · replace hF := (if_pos hv3).symm.trans hF
        refine lv_iconst (v := 2) hx hb dX10_wordOf_26 (by decide) ?_
        refine lv_goto (tgt := 41) hx hb dX10_wordOf_27 (by decide) ?_
        exact kb_X10_wordOf_b41 C hF hW hS (lv_sub hl [] rfl)
    · replace hF := (if_pos hv2).symm.trans hF
      refine lv_iconst (v := 1) hx hb dX10_wordOf_16 (by decide) ?_
      refine lv_goto (tgt := 41) hx hb dX10_wordOf_17 (by decide) ?_
      exact kb_X10_wordOf_b41 C hF hW hS (lv_sub hl [] rfl)
  · replace hF := (if_pos hv1).symm.trans hF
    refine lv_iconst (v := 0) hx hb dX10_wordOf_6 (by decide) ?_
    refine lv_goto (tgt := 41) hx hb dX10_wordOf_7 (by decide) ?_
    exact kb_X10_wordOf_b41 C hF hW hS (lv_sub hl [] rfl)
theorem mf_X10_wordOf : ps_mf yX10_wordOf cX10_wordOf 1 ((some .int)) 1 := ⟨tq_1049, tq_71, by decide +kernel, by decide +kernel, by decide +kernel⟩
theorem c_X10_wordOf {l : Launch} {D : va_G} {Y : ps_A} {B : Nat} {M : ps_M} {x0 : Int32} {r : Int32} {M' : ps_M} (hF : f_X10_wordOf M x0 = some (r, M')) : Met l yX10_wordOf (Cond.code yX10_wordOf cX10_wordOf 1 ((some .int)) :: tb_G) rm_X10_wordOf (ps_PB D Y B M [.int x0]) (va_Qi (fun x (_ : Unit) => x = r) (fun _ t => ps_St D Y B M' t) (fun q => B ≤ q)) 0 0 (fun q => B ≤ q) :=
  pm_of (by decide +kernel) (Nat.le_of_ble_eq_true rfl) (fun p e s m args below meth c C hW hS ls hl => kb_X10_wordOf C hF hW hS hl)

abbrev rm_X10_takeClause : Room := { frames := 3, cells := 0, slots := 0, locals := 71 }
def f_X10_takeClause_b108 (M : ps_M)  : Option (ps_M) := some M
def f_X10_takeClause_b196 (M : ps_M)  : Option (ps_M) := some M
def f_X10_takeClause_b100 (M : ps_M) (a0 : Nat) (x1 : Int32) (x2 : Int32) (t0 : Nat) (t1 : Int32) : Option (ps_M) := ps_ck M t0 9 (ps_b2 (f_X10_want M t0 t1 (3 : Int32) x2) (fun xv1 M => if xv1 = 0 then (f_X10_takeClause_b108 M ) else (ps_gI M a0 9 13 (fun xv3 => ps_pI M a0 9 13 (xv3 ||| ((1 : Int32) <<< (x1 &&& 31))) (fun M => if x1 = 0 then (ps_ck M a0 9 (ps_b1 (f_X10_takeLog M a0 ) (fun M => f_X10_takeClause_b196 M ))) else (if x1 = (1 : Int32) then (ps_ck M a0 9 (ps_b2 (f_X10_takeNumber M a0 (1 : Int32) (9 : Int32)) (fun xv8 M => ps_pI M a0 9 9 xv8 (fun M => ps_ck M a0 9 (ps_b2 (f_X10_takeNumber M a0 (0 : Int32) (9 : Int32)) (fun xv9 M => ps_pI M a0 9 10 xv9 (fun M => ps_ck M a0 9 (ps_b2 (f_X10_takeNumber M a0 (0 : Int32) (9 : Int32)) (fun xv10 M => ps_pI M a0 9 11 xv10 (fun M => f_X10_takeClause_b196 M )))))))))) else (if x1 = (2 : Int32) then (ps_ck M a0 9 (ps_b2 (f_X10_takeNumber M a0 (0 : Int32) (12 : Int32)) (fun xv7 M => ps_pI M a0 9 12 xv7 (fun M => f_X10_takeClause_b196 M )))) else (ps_ck M a0 9 (ps_b1 (f_X10_takePerson M a0 ) (fun M => f_X10_takeClause_b196 M ))))))))))
def f_X10_takeClause_b77 (M : ps_M) (a0 : Nat) (x1 : Int32) (x2 : Int32) (x3 : Int32) (t0 : Int32) : Option (ps_M) := ps_ck M a0 9 (ps_b2 (f_X10_want M a0 x3 (1 : Int32) x2) (fun xv11 M => if xv11 = 0 then (f_X10_takeClause_b108 M ) else (if t0 = 0 then (f_X10_takeClause_b100 M a0 x1 x2 a0 (1 : Int32)) else (f_X10_takeClause_b100 M a0 x1 x2 a0 (0 : Int32)))))
def f_X10_takeClause_b47 (M : ps_M) (a0 : Nat) (x1 : Int32) (x2 : Int32) (t0 : Int32) : Option (ps_M) := if x1 = (3 : Int32) then (ps_gI M a0 9 8 (fun xv17 => if xv17 = (4 : Int32) then (f_X10_takeClause_b77 M a0 x1 x2 t0 (1 : Int32)) else (f_X10_takeClause_b77 M a0 x1 x2 t0 (0 : Int32)))) else (ps_gI M a0 9 13 (fun xv15 => ps_b2 (f_X10_has M xv15 x1) (fun xv16 M => f_X10_takeClause_b77 M a0 x1 x2 t0 xv16)))
def f_X10_takeClause_b42 (M : ps_M) (a0 : Nat) (x1 : Int32) (x2 : Int32) : Option (ps_M) := f_X10_takeClause_b47 M a0 x1 x2 (1 : Int32)
def f_X10_takeClause_b46 (M : ps_M) (a0 : Nat) (x1 : Int32) (x2 : Int32) : Option (ps_M) := f_X10_takeClause_b47 M a0 x1 x2 (0 : Int32)
def f_X10_takeClause (M : ps_M) (a0 : Nat) : Option (ps_M) := ps_ck M a0 9 (ps_b2 (f_X10_here M a0 ) (fun xv19 M => ps_b2 (f_X10_wordOf M xv19) (fun xv20 M => ps_gI M a0 9 22 (fun xv21 => ps_gI M a0 9 22 (fun xv22 => ps_pI M a0 9 22 (xv22 + (1 : Int32)) (fun M => if xv20 = 0 then (f_X10_takeClause_b42 M a0 xv20 xv21) else (if xv20 ≤ 0 then (f_X10_takeClause_b46 M a0 xv20 xv21) else (ps_gI M a0 9 13 (fun xv25 => ps_b2 (f_X10_has M xv25 (0 : Int32)) (fun xv26 M => if xv26 = 0 then (f_X10_takeClause_b46 M a0 xv20 xv21) else (f_X10_takeClause_b42 M a0 xv20 xv21)))))))))))
set_option maxRecDepth 100000 in
set_option maxHeartbeats 4000000 in
theorem kb_X10_takeClause_b108 (C : ps_C p s m args meth c cX10_takeClause 5 RX10 none "takeClause" D Y B) {q : ps_M}  {M : ps_M}  (hF : f_X10_takeClause_b108 M  = some q) (hW : ps_W D Y B M H) (hS : va_S (fun q => B ≤ q) s.heap H locs) (hl : lv_has ls 5 []) : W p l e rm_X10_takeClause s m args below meth c H locs 0 0 (ps_Qv D Y B below args s 0 0 q) (F0 m 108 ls []) := by
  have hx := C.1
  have hb := C.2.1
  have hml := C.2.2.1
  have hown := C.2.2.2.1
  have hts := C.2.2.2.2.1
  unfold f_X10_takeClause_b108 at hF
  exact pw_vret C hW hS dX10_takeClause_108 hF
set_option maxRecDepth 100000 in
set_option maxHeartbeats 4000000 in
theorem kb_X10_takeClause_b196 (C : ps_C p s m args meth c cX10_takeClause 5 RX10 none "takeClause" D Y B) {q : ps_M}  {M : ps_M}  (hF : f_X10_takeClause_b196 M  = some q) (hW : ps_W D Y B M H) (hS : va_S (fun q => B ≤ q) s.heap H locs) (hl : lv_has ls 5 []) : W p l e rm_X10_takeClause s m args below meth c H locs 0 0 (ps_Qv D Y B below args s 0 0 q) (F0 m 196 ls []) := by
  have hx := C.1
  have hb := C.2.1
  have hml := C.2.2.1
  have hown := C.2.2.2.1
  have hts := C.2.2.2.2.1
  unfold f_X10_takeClause_b196 at hF
  exact pw_vret C hW hS dX10_takeClause_196 hF
set_option maxRecDepth 100000 in
set_option maxHeartbeats 4000000 in
theorem kb_X10_takeClause_b100 (C : ps_C p s m args meth c cX10_takeClause 5 RX10 none "takeClause" D Y B) {q : ps_M}  {M : ps_M} {a0 : Nat} {x1 : Int32} {x2 : Int32} {t0 : Nat} {t1 : Int32} (hF : f_X10_takeClause_b100 M a0 x1 x2 t0 t1 = some q) (hW : ps_W D Y B M H) (hS : va_S (fun q => B ≤ q) s.heap H locs) (hl : lv_has ls 5 [(0, .ref (B + a0)), (1, .int x1), (2, .int x2)]) : W p l e rm_X10_takeClause s m args below meth c H locs 0 0 (ps_Qv D Y B below args s 0 0 q) (F0 m 100 ls [.int t1, .ref (B + t0)]) := by
  have hx := C.1
  have hb := C.2.1
  have hml := C.2.2.1
  have hown := C.2.2.2.1
  have hts := C.2.2.2.2.1
  unfold f_X10_takeClause_b100 at hF
  refine lv_iconst (v := 3) hx hb dX10_takeClause_100 (by decide) ?_
  refine lv_iload_n hx hb dX10_takeClause_101 rfl (lv_at hl 2 rfl) ?_
  obtain ⟨hK, hF⟩ := ps_ck_some hF
  obtain ⟨xv1, M9, hc, hF⟩ := ps_b2_some hF
  refine ps_backI (x0 := xv1) (M' := M9) hS (ps_callV C hW pc_9 mf_X10_want tq_1055 tq_33 tq_1053 ⟨Nat.le_of_ble_eq_true rfl, Nat.le_of_ble_eq_true rfl⟩ rfl rfl (As := [.int t1, .int (3 : Int32), .int x2]) (rest := []) (c_X10_want hc) hK rfl hl.1 rfl (Nat.le_of_ble_eq_true rfl) dX10_takeClause_102 ⟨Nat.le_of_ble_eq_true rfl, Nat.le_of_ble_eq_true rfl⟩) (fun H locs hW hS => ?_)
  clear hc
  generalize M9 = M at hW hF
  refine lv_if_ne (tgt := 109) hx hb dX10_takeClause_105 (by decide) (fun hv2 => ?_) (fun hv2 => ?_)
  · replace hF := (if_neg hv2).symm.trans hF
    refine lv_aload_n hx hb dX10_takeClause_109 rfl (lv_at hl 0 rfl) ?_
    refine lv_dup hx hb dX10_takeClause_110 rfl ?_
    refine pw_gI C hW pc_9 (k := 13) (by decide) rfl tq_931 dX10_takeClause_111 hF (fun xv3 hF => ?_)
    refine lv_iconst (v := 1) hx hb dX10_takeClause_114 (by decide) ?_
    refine lv_iload_n hx hb dX10_takeClause_115 rfl (lv_at hl 1 rfl) ?_
    refine lv_ishl hx hb dX10_takeClause_116 ?_
    refine lv_ior hx hb dX10_takeClause_117 ?_
    refine pw_pI C hW hS pc_9 (k := 13) (by decide) rfl rfl tq_931 rfl dX10_takeClause_118 hF (fun M H locs hW hS hF => ?_)
    refine lv_iload_n hx hb dX10_takeClause_121 rfl (lv_at hl 1 rfl) ?_
    refine lv_if_ne (tgt := 132) hx hb dX10_takeClause_122 (by decide) (fun hv4 => ?_) (fun hv4 => ?_)
    · replace hF := (if_neg hv4).symm.trans hF
      refine lv_iload_n hx hb dX10_takeClause_132 rfl (lv_at hl 1 rfl) ?_
      refine lv_iconst (v := 1) hx hb dX10_takeClause_133 (by decide) ?_
      refine lv_icmp_ne (tgt := 173) hx hb dX10_takeClause_134 (by decide) (fun hv5 => ?_) (fun hv5 => ?_)
      · replace hF := (if_neg hv5).symm.trans hF
        refine lv_iload_n hx hb dX10_takeClause_173 rfl (lv_at hl 1 rfl) ?_
        refine lv_iconst (v := 2) hx hb dX10_takeClause_174 (by decide) ?_
        refine lv_icmp_ne (tgt := 192) hx hb dX10_takeClause_175 (by decide) (fun hv6 => ?_) (fun hv6 => ?_)
        · replace hF := (if_neg hv6).symm.trans hF
          refine lv_aload_n hx hb dX10_takeClause_192 rfl (lv_at hl 0 rfl) ?_
          obtain ⟨hK, hF⟩ := ps_ck_some hF
          obtain ⟨M9, hc, hF⟩ := ps_b1_some hF
          refine ps_backV (M' := M9) hS (ps_callV C hW pc_9 mf_X10_takePerson tq_1070 tq_36 tq_1068 ⟨Nat.le_of_ble_eq_true rfl, Nat.le_of_ble_eq_true rfl⟩ rfl rfl (As := []) (rest := []) (c_X10_takePerson hc) hK rfl hl.1 rfl (Nat.le_of_ble_eq_true rfl) dX10_takeClause_193 ⟨Nat.le_of_ble_eq_true rfl, Nat.le_of_ble_eq_true rfl⟩) (fun H locs hW hS => ?_)
          clear hc
          generalize M9 = M at hW hF
          exact kb_X10_takeClause_b196 C hF hW hS (lv_sub hl [] rfl)
        · replace hF := (if_pos hv6).symm.trans hF
          refine lv_aload_n hx hb dX10_takeClause_178 rfl (lv_at hl 0 rfl) ?_
          refine lv_aload_n hx hb dX10_takeClause_179 rfl (lv_at hl 0 rfl) ?_
          refine lv_iconst (v := 0) hx hb dX10_takeClause_180 (by decide) ?_
          refine lv_bipush (v := 12) hx hb dX10_takeClause_181 (by decide) ?_
          obtain ⟨hK, hF⟩ := ps_ck_some hF
          obtain ⟨xv7, M9, hc, hF⟩ := ps_b2_some hF
          refine ps_backI (x0 := xv7) (M' := M9) hS (ps_callV C hW pc_9 mf_X10_takeNumber tq_1063 tq_35 tq_1061 ⟨Nat.le_of_ble_eq_true rfl, Nat.le_of_ble_eq_true rfl⟩ rfl rfl (As := [.int (0 : Int32), .int (12 : Int32)]) (rest := [.ref (B + a0)]) (c_X10_takeNumber hc) hK rfl hl.1 rfl (Nat.le_of_ble_eq_true rfl) dX10_takeClause_183 ⟨Nat.le_of_ble_eq_true rfl, Nat.le_of_ble_eq_true rfl⟩) (fun H locs hW hS => ?_)
          clear hc
          generalize M9 = M at hW hF
          refine pw_pI C hW hS pc_9 (k := 12) (by decide) rfl rfl tq_930 rfl dX10_takeClause_186 hF (fun M H locs hW hS hF => ?_)
          refine lv_goto (tgt := 196) hx hb dX10_takeClause_189 (by decide) ?_
          exact kb_X10_takeClause_b196 C hF hW hS (lv_sub hl [] rfl)
      · replace hF := (if_pos hv5).symm.trans hF
        refine lv_aload_n hx hb dX10_takeClause_137 rfl (lv_at hl 0 rfl) ?_
        refine lv_aload_n hx hb dX10_takeClause_138 rfl (lv_at hl 0 rfl) ?_
        refine lv_iconst (v := 1) hx hb dX10_takeClause_139 (by decide) ?_
        refine lv_bipush (v := 9) hx hb dX10_takeClause_140 (by decide) ?_
        obtain ⟨hK, hF⟩ := ps_ck_some hF
        obtain ⟨xv8, M9, hc, hF⟩ := ps_b2_some hF
        refine ps_backI (x0 := xv8) (M' := M9) hS (ps_callV C hW pc_9 mf_X10_takeNumber tq_1063 tq_35 tq_1061 ⟨Nat.le_of_ble_eq_true rfl, Nat.le_of_ble_eq_true rfl⟩ rfl rfl (As := [.int (1 : Int32), .int (9 : Int32)]) (rest := [.ref (B + a0)]) (c_X10_takeNumber hc) hK rfl hl.1 rfl (Nat.le_of_ble_eq_true rfl) dX10_takeClause_142 ⟨Nat.le_of_ble_eq_true rfl, Nat.le_of_ble_eq_true rfl⟩) (fun H locs hW hS => ?_)
        clear hc
        generalize M9 = M at hW hF
        refine pw_pI C hW hS pc_9 (k := 9) (by decide) rfl rfl tq_927 rfl dX10_takeClause_145 hF (fun M H locs hW hS hF => ?_)
        refine lv_aload_n hx hb dX10_takeClause_148 rfl (lv_at hl 0 rfl) ?_
        refine lv_aload_n hx hb dX10_takeClause_149 rfl (lv_at hl 0 rfl) ?_
        refine lv_iconst (v := 0) hx hb dX10_takeClause_150 (by decide) ?_
        refine lv_bipush (v := 9) hx hb dX10_takeClause_151 (by decide) ?_
        obtain ⟨hK, hF⟩ := ps_ck_some hF
        obtain ⟨xv9, M9, hc, hF⟩ := ps_b2_some hF
        refine ps_backI (x0 := xv9) (M' := M9) hS (ps_callV C hW pc_9 mf_X10_takeNumber tq_1063 tq_35 tq_1061 ⟨Nat.le_of_ble_eq_true rfl, Nat.le_of_ble_eq_true rfl⟩ rfl rfl (As := [.int (0 : Int32), .int (9 : Int32)]) (rest := [.ref (B + a0)]) (c_X10_takeNumber hc) hK rfl hl.1 rfl (Nat.le_of_ble_eq_true rfl) dX10_takeClause_153 ⟨Nat.le_of_ble_eq_true rfl, Nat.le_of_ble_eq_true rfl⟩) (fun H locs hW hS => ?_)
        clear hc
        generalize M9 = M at hW hF
        refine pw_pI C hW hS pc_9 (k := 10) (by decide) rfl rfl tq_928 rfl dX10_takeClause_156 hF (fun M H locs hW hS hF => ?_)
        refine lv_aload_n hx hb dX10_takeClause_159 rfl (lv_at hl 0 rfl) ?_
        refine lv_aload_n hx hb dX10_takeClause_160 rfl (lv_at hl 0 rfl) ?_
        refine lv_iconst (v := 0) hx hb dX10_takeClause_161 (by decide) ?_
        refine lv_bipush (v := 9) hx hb dX10_takeClause_162 (by decide) ?_
        obtain ⟨hK, hF⟩ := ps_ck_some hF
        obtain ⟨xv10, M9, hc, hF⟩ := ps_b2_some hF
        refine ps_backI (x0 := xv10) (M' := M9) hS (ps_callV C hW pc_9 mf_X10_takeNumber tq_1063 tq_35 tq_1061 ⟨Nat.le_of_ble_eq_true rfl, Nat.le_of_ble_eq_true rfl⟩ rfl rfl (As := [.int (0 : Int32), .int (9 : Int32)]) (rest := [.ref (B + a0)]) (c_X10_takeNumber hc) hK rfl hl.1 rfl (Nat.le_of_ble_eq_true rfl) dX10_takeClause_164 ⟨Nat.le_of_ble_eq_true rfl, Nat.le_of_ble_eq_true rfl⟩) (fun H locs hW hS => ?_)
        clear hc
        generalize M9 = M at hW hF
        refine pw_pI C hW hS pc_9 (k := 11) (by decide) rfl rfl tq_929 rfl dX10_takeClause_167 hF (fun M H locs hW hS hF => ?_)
        refine lv_goto (tgt := 196) hx hb dX10_takeClause_170 (by decide) ?_
        exact kb_X10_takeClause_b196 C hF hW hS (lv_sub hl [] rfl)
    · replace hF := (if_pos hv4).symm.trans hF
      refine lv_aload_n hx hb dX10_takeClause_125 rfl (lv_at hl 0 rfl) ?_
      obtain ⟨hK, hF⟩ := ps_ck_some hF
      obtain ⟨M9, hc, hF⟩ := ps_b1_some hF
      refine ps_backV (M' := M9) hS (ps_callV C hW pc_9 mf_X10_takeLog tq_1059 tq_34 tq_1057 ⟨Nat.le_of_ble_eq_true rfl, Nat.le_of_ble_eq_true rfl⟩ rfl rfl (As := []) (rest := []) (c_X10_takeLog hc) hK rfl hl.1 rfl (Nat.le_of_ble_eq_true rfl) dX10_takeClause_126 ⟨Nat.le_of_ble_eq_true rfl, Nat.le_of_ble_eq_true rfl⟩) (fun H locs hW hS => ?_)
      clear hc
      generalize M9 = M at hW hF
      refine lv_goto (tgt := 196) hx hb dX10_takeClause_129 (by decide) ?_
      exact kb_X10_takeClause_b196 C hF hW hS (lv_sub hl [] rfl)
  · replace hF := (if_pos hv2).symm.trans hF
    exact kb_X10_takeClause_b108 C hF hW hS (lv_sub hl [] rfl)
set_option maxRecDepth 100000 in
set_option maxHeartbeats 4000000 in
theorem kb_X10_takeClause_b77 (C : ps_C p s m args meth c cX10_takeClause 5 RX10 none "takeClause" D Y B) {q : ps_M}  {M : ps_M} {a0 : Nat} {x1 : Int32} {x2 : Int32} {x3 : Int32} {t0 : Int32} (hF : f_X10_takeClause_b77 M a0 x1 x2 x3 t0 = some q) (hW : ps_W D Y B M H) (hS : va_S (fun q => B ≤ q) s.heap H locs) (hl : lv_has ls 5 [(0, .ref (B + a0)), (1, .int x1), (2, .int x2), (3, .int x3)]) : W p l e rm_X10_takeClause s m args below meth c H locs 0 0 (ps_Qv D Y B below args s 0 0 q) (F0 m 77 ls [.int t0]) := by
  have hx := C.1
  have hb := C.2.1
  have hml := C.2.2.1
  have hown := C.2.2.2.1
  have hts := C.2.2.2.2.1
  unfold f_X10_takeClause_b77 at hF
  refine lv_istore (lv' := [(4, .int t0), (0, .ref (B + a0)), (1, .int x1), (2, .int x2), (3, .int x3)]) hx hb dX10_takeClause_77 hl (by decide) rfl (fun ls hl => ?_)
  refine lv_aload_n hx hb dX10_takeClause_79 rfl (lv_at hl 1 rfl) ?_
  refine lv_iload_n hx hb dX10_takeClause_80 rfl (lv_at hl 4 rfl) ?_
  refine lv_iconst (v := 1) hx hb dX10_takeClause_81 (by decide) ?_
  refine lv_iload_n hx hb dX10_takeClause_82 rfl (lv_at hl 3 rfl) ?_
  obtain ⟨hK, hF⟩ := ps_ck_some hF
  obtain ⟨xv11, M9, hc, hF⟩ := ps_b2_some hF
  refine ps_backI (x0 := xv11) (M' := M9) hS (ps_callV C hW pc_9 mf_X10_want tq_1055 tq_33 tq_1053 ⟨Nat.le_of_ble_eq_true rfl, Nat.le_of_ble_eq_true rfl⟩ rfl rfl (As := [.int x3, .int (1 : Int32), .int x2]) (rest := []) (c_X10_want hc) hK rfl hl.1 rfl (Nat.le_of_ble_eq_true rfl) dX10_takeClause_83 ⟨Nat.le_of_ble_eq_true rfl, Nat.le_of_ble_eq_true rfl⟩) (fun H locs hW hS => ?_)
  clear hc
  generalize M9 = M at hW hF
  refine lv_if_eq (tgt := 108) hx hb dX10_takeClause_86 (by decide) (fun hv12 => ?_) (fun hv12 => ?_)
  · replace hF := (if_pos hv12).symm.trans hF
    exact kb_X10_takeClause_b108 C hF hW hS (lv_sub hl [] rfl)
  · replace hF := (if_neg hv12).symm.trans hF
    refine lv_aload_n hx hb dX10_takeClause_89 rfl (lv_at hl 1 rfl) ?_
    refine lv_iload hx hb dX10_takeClause_90 (lv_at hl 0 rfl) ?_
    refine lv_if_ne (tgt := 99) hx hb dX10_takeClause_92 (by decide) (fun hv13 => ?_) (fun hv13 => ?_)
    · replace hF := (if_neg hv13).symm.trans hF
      refine lv_iconst (v := 0) hx hb dX10_takeClause_99 (by decide) ?_
      exact kb_X10_takeClause_b100 C hF hW hS (lv_sub hl [1, 2, 3] rfl)
    · replace hF := (if_pos hv13).symm.trans hF
      refine lv_iconst (v := 1) hx hb dX10_takeClause_95 (by decide) ?_
      refine lv_goto (tgt := 100) hx hb dX10_takeClause_96 (by decide) ?_
      exact kb_X10_takeClause_b100 C hF hW hS (lv_sub hl [1, 2, 3] rfl)
set_option maxRecDepth 100000 in
set_option maxHeartbeats 4000000 in
theorem kb_X10_takeClause_b47 (C : ps_C p s m args meth c cX10_takeClause 5 RX10 none "takeClause" D Y B) {q : ps_M}  {M : ps_M} {a0 : Nat} {x1 : Int32} {x2 : Int32} {t0 : Int32} (hF : f_X10_takeClause_b47 M a0 x1 x2 t0 = some q) (hW : ps_W D Y B M H) (hS : va_S (fun q => B ≤ q) s.heap H locs) (hl : lv_has ls 5 [(0, .ref (B + a0)), (1, .int x1), (2, .int x2)]) : W p l e rm_X10_takeClause s m args below meth c H locs 0 0 (ps_Qv D Y B below args s 0 0 q) (F0 m 47 ls [.int t0]) := by
  have hx := C.1
  have hb := C.2.1
  have hml := C.2.2.1
  have hown := C.2.2.2.1
  have hts := C.2.2.2.2.1
  unfold f_X10_takeClause_b47 at hF
  refine lv_istore_n (lv' := [(3, .int t0), (0, .ref (B + a0)), (1, .int x1), (2, .int x2)]) hx hb dX10_takeClause_47 rfl hl (by decide) rfl (fun ls hl => ?_)
  refine lv_iload_n hx hb dX10_takeClause_48 rfl (lv_at hl 2 rfl) ?_
  refine lv_iconst (v := 3) hx hb dX10_takeClause_49 (by decide) ?_
  refine lv_icmp_ne (tgt := 69) hx hb dX10_takeClause_50 (by decide) (fun hv14 => ?_) (fun hv14 => ?_)
  · replace hF := (if_neg hv14).symm.trans hF
    refine lv_aload_n hx hb dX10_takeClause_69 rfl (lv_at hl 1 rfl) ?_
    refine pw_gI C hW pc_9 (k := 13) (by decide) rfl tq_931 dX10_takeClause_70 hF (fun xv15 hF => ?_)
    refine lv_iload_n hx hb dX10_takeClause_73 rfl (lv_at hl 2 rfl) ?_
    obtain ⟨xv16, M9, hc, hF⟩ := ps_b2_some hF
    refine ps_backI (x0 := xv16) (M' := M9) hS (ps_callS C hW mf_X10_has tq_1051 tq_1050 ⟨Nat.le_of_ble_eq_true rfl, Nat.le_of_ble_eq_true rfl⟩ rfl rfl (As := [.int xv15, .int x1]) (rest := []) (c_X10_has hc) rfl hl.1 rfl (Nat.le_of_ble_eq_true rfl) dX10_takeClause_74 ⟨Nat.le_of_ble_eq_true rfl, Nat.le_of_ble_eq_true rfl⟩) (fun H locs hW hS => ?_)
    clear hc
    generalize M9 = M at hW hF
    exact kb_X10_takeClause_b77 C hF hW hS (lv_sub hl [1, 2, 3, 0] rfl)
  · replace hF := (if_pos hv14).symm.trans hF
    refine lv_aload_n hx hb dX10_takeClause_53 rfl (lv_at hl 1 rfl) ?_
    refine pw_gI C hW pc_9 (k := 8) (by decide) rfl tq_926 dX10_takeClause_54 hF (fun xv17 hF => ?_)
    refine lv_iconst (v := 4) hx hb dX10_takeClause_57 (by decide) ?_
    refine lv_icmp_ne (tgt := 65) hx hb dX10_takeClause_58 (by decide) (fun hv18 => ?_) (fun hv18 => ?_)
    · replace hF := (if_neg hv18).symm.trans hF
      refine lv_iconst (v := 0) hx hb dX10_takeClause_65 (by decide) ?_
      refine lv_goto (tgt := 77) hx hb dX10_takeClause_66 (by decide) ?_
      exact kb_X10_takeClause_b77 C hF hW hS (lv_sub hl [1, 2, 3, 0] rfl)
    · replace hF := (if_pos hv18).symm.trans hF
      refine lv_iconst (v := 1) hx hb dX10_takeClause_61 (by decide) ?_
      refine lv_goto (tgt := 77) hx hb dX10_takeClause_62 (by decide) ?_
      exact kb_X10_takeClause_b77 C hF hW hS (lv_sub hl [1, 2, 3, 0] rfl)
set_option maxRecDepth 100000 in
set_option maxHeartbeats 4000000 in
theorem kb_X10_takeClause_b42 (C : ps_C p s m args meth c cX10_takeClause 5 RX10 none "takeClause" D Y B) {q : ps_M}  {M : ps_M} {a0 : Nat} {x1 : Int32} {x2 : Int32} (hF : f_X10_takeClause_b42 M a0 x1 x2 = some q) (hW : ps_W D Y B M H) (hS : va_S (fun q => B ≤ q) s.heap H locs) (hl : lv_has ls 5 [(0, .ref (B + a0)), (1, .int x1), (2, .int x2)]) : W p l e rm_X10_takeClause s m args below meth c H locs 0 0 (ps_Qv D Y B below args s 0 0 q) (F0 m 42 ls []) := by
  have hx := C.1
  have hb := C.2.1
  have hml := C.2.2.1
  have hown := C.2.2.2.1
  have hts := C.2.2.2.2.1
  unfold f_X10_takeClause_b42 at hF
  refine lv_iconst (v := 1) hx hb dX10_takeClause_42 (by decide) ?_
  refine lv_goto (tgt := 47) hx hb dX10_takeClause_43 (by decide) ?_
  exact kb_X10_takeClause_b47 C hF hW hS (lv_sub hl [0, 1, 2] rfl)
set_option maxRecDepth 100000 in
set_option maxHeartbeats 4000000 in
theorem kb_X10_takeClause_b46 (C : ps_C p s m args meth c cX10_takeClause 5 RX10 none "takeClause" D Y B) {q : ps_M}  {M : ps_M} {a0 : Nat} {x1 : Int32} {x2 : Int32} (hF : f_X10_takeClause_b46 M a0 x1 x2 = some q) (hW : ps_W D Y B M H) (hS : va_S (fun q => B ≤ q) s.heap H locs) (hl : lv_has ls 5 [(0, .ref (B + a0)), (1, .int x1), (2, .int x2)]) : W p l e rm_X10_takeClause s m args below meth c H locs 0 0 (ps_Qv D Y B below args s 0 0 q) (F0 m 46 ls []) := by
  have hx := C.1
  have hb := C.2.1
  have hml := C.2.2.1
  have hown := C.2.2.2.1
  have hts := C.2.2.2.2.1
  unfold f_X10_takeClause_b46 at hF
  refine lv_iconst (v := 0) hx hb dX10_takeClause_46 (by decide) ?_
  exact kb_X10_takeClause_b47 C hF hW hS (lv_sub hl [0, 1, 2] rfl)
set_option maxRecDepth 100000 in
set_option maxHeartbeats 4000000 in
theorem kb_X10_takeClause (C : ps_C p s m args meth c cX10_takeClause 5 RX10 none "takeClause" D Y B) {q : ps_M}  {M : ps_M} {a0 : Nat} (hF : f_X10_takeClause M a0 = some q) (hW : ps_W D Y B M H) (hS : va_S (fun q => B ≤ q) s.heap H locs) (hl : lv_has ls 5 [(0, .ref (B + a0))]) : W p l e rm_X10_takeClause s m args below meth c H locs 0 0 (ps_Qv D Y B below args s 0 0 q) (F0 m 0 ls []) := by
  have hx := C.1
  have hb := C.2.1
  have hml := C.2.2.1
  have hown := C.2.2.2.1
  have hts := C.2.2.2.2.1
  unfold f_X10_takeClause at hF
  refine lv_aload_n hx hb dX10_takeClause_0 rfl (lv_at hl 0 rfl) ?_
  obtain ⟨hK, hF⟩ := ps_ck_some hF
  obtain ⟨xv19, M9, hc, hF⟩ := ps_b2_some hF
  refine ps_backI (x0 := xv19) (M' := M9) hS (ps_callV C hW pc_9 mf_X10_here tq_1041 tq_31 tq_1039 ⟨Nat.le_of_ble_eq_true rfl, Nat.le_of_ble_eq_true rfl⟩ rfl rfl (As := []) (rest := []) (c_X10_here hc) hK rfl hl.1 rfl (Nat.le_of_ble_eq_true rfl) dX10_takeClause_1 ⟨Nat.le_of_ble_eq_true rfl, Nat.le_of_ble_eq_true rfl⟩) (fun H locs hW hS => ?_)
  clear hc
  generalize M9 = M at hW hF
  obtain ⟨xv20, M9, hc, hF⟩ := ps_b2_some hF
  refine ps_backI (x0 := xv20) (M' := M9) hS (ps_callS C hW mf_X10_wordOf tq_1048 tq_1047 ⟨Nat.le_of_ble_eq_true rfl, Nat.le_of_ble_eq_true rfl⟩ rfl rfl (As := [.int xv19]) (rest := []) (c_X10_wordOf hc) rfl hl.1 rfl (Nat.le_of_ble_eq_true rfl) dX10_takeClause_4 ⟨Nat.le_of_ble_eq_true rfl, Nat.le_of_ble_eq_true rfl⟩) (fun H locs hW hS => ?_)
  clear hc
  generalize M9 = M at hW hF
  refine lv_istore_n (lv' := [(1, .int xv20), (0, .ref (B + a0))]) hx hb dX10_takeClause_7 rfl hl (by decide) rfl (fun ls hl => ?_)
  refine lv_aload_n hx hb dX10_takeClause_8 rfl (lv_at hl 1 rfl) ?_
  refine pw_gI C hW pc_9 (k := 22) (by decide) rfl tq_940 dX10_takeClause_9 hF (fun xv21 hF => ?_)
  refine lv_istore_n (lv' := [(2, .int xv21), (1, .int xv20), (0, .ref (B + a0))]) hx hb dX10_takeClause_12 rfl hl (by decide) rfl (fun ls hl => ?_)
  refine lv_aload_n hx hb dX10_takeClause_13 rfl (lv_at hl 2 rfl) ?_
  refine lv_dup hx hb dX10_takeClause_14 rfl ?_
  refine pw_gI C hW pc_9 (k := 22) (by decide) rfl tq_940 dX10_takeClause_15 hF (fun xv22 hF => ?_)
  refine lv_iconst (v := 1) hx hb dX10_takeClause_18 (by decide) ?_
  refine lv_iadd hx hb dX10_takeClause_19 ?_
  refine pw_pI C hW hS pc_9 (k := 22) (by decide) rfl rfl tq_940 rfl dX10_takeClause_20 hF (fun M H locs hW hS hF => ?_)
  refine lv_iload_n hx hb dX10_takeClause_23 rfl (lv_at hl 1 rfl) ?_
  refine lv_if_eq (tgt := 42) hx hb dX10_takeClause_24 (by decide) (fun hv23 => ?_) (fun hv23 => ?_)
  · replace hF := (if_pos hv23).symm.trans hF
    exact kb_X10_takeClause_b42 C hF hW hS (lv_sub hl [2, 1, 0] rfl)
  · replace hF := (if_neg hv23).symm.trans hF
    refine lv_iload_n hx hb dX10_takeClause_27 rfl (lv_at hl 1 rfl) ?_
    refine lv_if_le (tgt := 46) hx hb dX10_takeClause_28 (by decide) (fun hv24 => ?_) (fun hv24 => ?_)
    · replace hF := (if_pos hv24).symm.trans hF
      exact kb_X10_takeClause_b46 C hF hW hS (lv_sub hl [2, 1, 0] rfl)
    · replace hF := (if_neg hv24).symm.trans hF
      refine lv_aload_n hx hb dX10_takeClause_31 rfl (lv_at hl 2 rfl) ?_
      refine pw_gI C hW pc_9 (k := 13) (by decide) rfl tq_931 dX10_takeClause_32 hF (fun xv25 hF => ?_)
      refine lv_iconst (v := 0) hx hb dX10_takeClause_35 (by decide) ?_
      obtain ⟨xv26, M9, hc, hF⟩ := ps_b2_some hF
      refine ps_backI (x0 := xv26) (M' := M9) hS (ps_callS C hW mf_X10_has tq_1051 tq_1050 ⟨Nat.le_of_ble_eq_true rfl, Nat.le_of_ble_eq_true rfl⟩ rfl rfl (As := [.int xv25, .int (0 : Int32)]) (rest := []) (c_X10_has hc) rfl hl.1 rfl (Nat.le_of_ble_eq_true rfl) dX10_takeClause_36 ⟨Nat.le_of_ble_eq_true rfl, Nat.le_of_ble_eq_true rfl⟩) (fun H locs hW hS => ?_)
      clear hc
      generalize M9 = M at hW hF
      refine lv_if_eq (tgt := 46) hx hb dX10_takeClause_39 (by decide) (fun hv27 => ?_) (fun hv27 => ?_)
      · replace hF := (if_pos hv27).symm.trans hF
        exact kb_X10_takeClause_b46 C hF hW hS (lv_sub hl [2, 1, 0] rfl)
      · replace hF := (if_neg hv27).symm.trans hF
        exact kb_X10_takeClause_b42 C hF hW hS (lv_sub hl [2, 1, 0] rfl)
theorem mf_X10_takeClause : ps_mf yX10_takeClause cX10_takeClause 5 none 0 := ⟨tq_1046, tq_71, by decide +kernel, by decide +kernel, by decide +kernel⟩
theorem c_X10_takeClause {l : Launch} {D : va_G} {Y : ps_A} {B : Nat} {M : ps_M} {a0 : Nat} {M' : ps_M} (hF : f_X10_takeClause M a0 = some M') : Met l yX10_takeClause (Cond.code yX10_takeClause cX10_takeClause 5 none :: tb_G) rm_X10_takeClause (ps_PB D Y B M [.ref (B + a0)]) (va_Qv (fun (_ : Unit) => True) (fun _ t => ps_St D Y B M' t) (fun q => B ≤ q)) 0 0 (fun q => B ≤ q) :=
  pm_of (by decide +kernel) (Nat.le_of_ble_eq_true rfl) (fun p e s m args below meth c C hW hS ls hl => kb_X10_takeClause C hF hW hS hl)

abbrev rm_X10_begin : Room := { frames := 0, cells := 0, slots := 0, locals := 0 }
def f_X10_begin_w3 (k3 : ps_M → Nat → Int32 → Int32 → Int32 → Int32 → Option (ps_M)) (M : ps_M) (a0 : Nat) (x1 : Int32) (x2 : Int32) (x3 : Int32) (x4 : Int32) : Option (ps_M) := if (4 : Int32) ≤ x4 then (ps_gR M a0 9 0 (fun av2 => ps_xI M av2 (x1 + (16 : Int32)) x2 (fun M => ps_gR M a0 9 0 (fun av3 => ps_xI M av3 (x1 + (17 : Int32)) x3 (fun M => ps_gR M a0 9 0 (fun av4 => ps_xI M av4 (x1 + (18 : Int32)) x2 (fun M => ps_gR M a0 9 0 (fun av5 => ps_xI M av5 (x1 + (19 : Int32)) (0 : Int32) (fun M => ps_gR M a0 9 0 (fun av6 => ps_xI M av6 (x1 + (20 : Int32)) (0 : Int32) (fun M => ps_gR M a0 9 0 (fun av7 => ps_xI M av7 (x1 + (21 : Int32)) (0 : Int32) (fun M => ps_gR M a0 9 0 (fun av8 => ps_xI M av8 (x1 + (22 : Int32)) (0 : Int32) (fun M => ps_gR M a0 9 0 (fun av9 => ps_xI M av9 (x1 + (23 : Int32)) (0 : Int32) (fun M => some M))))))))))))))))) else (ps_gR M a0 9 0 (fun av10 => ps_xI M av10 ((x1 + (4 : Int32)) + x4) (0 : Int32) (fun M => ps_gR M a0 9 0 (fun av11 => ps_xI M av11 ((x1 + (8 : Int32)) + x4) (0 : Int32) (fun M => ps_v (x4 + 1) (fun xv12 => k3 M a0 x1 x2 x3 xv12))))))
def f_X10_begin_l3 : Nat → ps_M → Nat → Int32 → Int32 → Int32 → Int32 → Option (ps_M)
  | 0, _, _, _, _, _, _ => none
  | n + 1, M, a0, x1, x2, x3, x4 => f_X10_begin_w3 (f_X10_begin_l3 n) M a0 x1 x2 x3 x4
def f_X10_begin (M : ps_M) (a0 : Nat) (x1 : Int32) (x2 : Int32) (x3 : Int32) : Option (ps_M) := f_X10_begin_l3 ps_fu M a0 x1 x2 x3 (0 : Int32)
set_option maxRecDepth 100000 in
set_option maxHeartbeats 4000000 in
theorem kb_X10_begin_w3 (C : ps_C p s m args meth c cX10_begin 5 RX10 none "begin" D Y B) {q : ps_M} (k3 : ps_M → Nat → Int32 → Int32 → Int32 → Int32 → Option (ps_M)) (hk3 : ∀ (M : ps_M) (H : Heap) (locs : List Loc) (ls : Array Slot) (a0 : Nat) (x1 : Int32) (x2 : Int32) (x3 : Int32) (x4 : Int32), k3 M a0 x1 x2 x3 x4 = some q → ps_W D Y B M H → va_S (fun q => B ≤ q) s.heap H locs → lv_has ls 5 [(0, .ref (B + a0)), (1, .int x1), (2, .int x2), (3, .int x3), (4, .int x4)] → W p l e rm_X10_begin s m args below meth c H locs 0 0 (ps_Qv D Y B below args s 0 0 q) (F0 m 3 ls [])) {M : ps_M} {a0 : Nat} {x1 : Int32} {x2 : Int32} {x3 : Int32} {x4 : Int32} (hF : f_X10_begin_w3 k3 M a0 x1 x2 x3 x4 = some q) (hW : ps_W D Y B M H) (hS : va_S (fun q => B ≤ q) s.heap H locs) (hl : lv_has ls 5 [(0, .ref (B + a0)), (1, .int x1), (2, .int x2), (3, .int x3), (4, .int x4)]) : W p l e rm_X10_begin s m args below meth c H locs 0 0 (ps_Qv D Y B below args s 0 0 q) (F0 m 3 ls []) := by
  have hx := C.1
  have hb := C.2.1
  have hml := C.2.2.1
  have hown := C.2.2.2.1
  have hts := C.2.2.2.2.1
  unfold f_X10_begin_w3 at hF
  refine lv_iload hx hb dX10_begin_3 (lv_at hl 4 rfl) ?_
  refine lv_iconst (v := 4) hx hb dX10_begin_5 (by decide) ?_
  refine lv_icmp_ge (tgt := 40) hx hb dX10_begin_6 (by decide) (fun hv1 => ?_) (fun hv1 => ?_)
  · replace hF := (if_pos hv1).symm.trans hF
    refine lv_aload_n hx hb dX10_begin_40 rfl (lv_at hl 0 rfl) ?_
    refine pw_gR C hW pc_9 (k := 0) (by decide) rfl tq_918 dX10_begin_41 hF (fun av2 hF => ?_)
    refine lv_iload_n hx hb dX10_begin_44 rfl (lv_at hl 1 rfl) ?_
    refine lv_bipush (v := 16) hx hb dX10_begin_45 (by decide) ?_
    refine lv_iadd hx hb dX10_begin_47 ?_
    refine lv_iload_n hx hb dX10_begin_48 rfl (lv_at hl 2 rfl) ?_
    refine pw_xI C hW hS dX10_begin_49 hF (fun M H locs hW hS hF => ?_)
    refine lv_aload_n hx hb dX10_begin_50 rfl (lv_at hl 0 rfl) ?_
    refine pw_gR C hW pc_9 (k := 0) (by decide) rfl tq_918 dX10_begin_51 hF (fun av3 hF => ?_)
    refine lv_iload_n hx hb dX10_begin_54 rfl (lv_at hl 1 rfl) ?_
    refine lv_bipush (v := 17) hx hb dX10_begin_55 (by decide) ?_
    refine lv_iadd hx hb dX10_begin_57 ?_
    refine lv_iload_n hx hb dX10_begin_58 rfl (lv_at hl 3 rfl) ?_
    refine pw_xI C hW hS dX10_begin_59 hF (fun M H locs hW hS hF => ?_)
    refine lv_aload_n hx hb dX10_begin_60 rfl (lv_at hl 0 rfl) ?_
    refine pw_gR C hW pc_9 (k := 0) (by decide) rfl tq_918 dX10_begin_61 hF (fun av4 hF => ?_)
    refine lv_iload_n hx hb dX10_begin_64 rfl (lv_at hl 1 rfl) ?_
    refine lv_bipush (v := 18) hx hb dX10_begin_65 (by decide) ?_
    refine lv_iadd hx hb dX10_begin_67 ?_
    refine lv_iload_n hx hb dX10_begin_68 rfl (lv_at hl 2 rfl) ?_
    refine pw_xI C hW hS dX10_begin_69 hF (fun M H locs hW hS hF => ?_)
    refine lv_aload_n hx hb dX10_begin_70 rfl (lv_at hl 0 rfl) ?_
    refine pw_gR C hW pc_9 (k := 0) (by decide) rfl tq_918 dX10_begin_71 hF (fun av5 hF => ?_)
    refine lv_iload_n hx hb dX10_begin_74 rfl (lv_at hl 1 rfl) ?_
    refine lv_bipush (v := 19) hx hb dX10_begin_75 (by decide) ?_
    refine lv_iadd hx hb dX10_begin_77 ?_
    refine lv_iconst (v := 0) hx hb dX10_begin_78 (by decide) ?_
    refine pw_xI C hW hS dX10_begin_79 hF (fun M H locs hW hS hF => ?_)
    refine lv_aload_n hx hb dX10_begin_80 rfl (lv_at hl 0 rfl) ?_
    refine pw_gR C hW pc_9 (k := 0) (by decide) rfl tq_918 dX10_begin_81 hF (fun av6 hF => ?_)
    refine lv_iload_n hx hb dX10_begin_84 rfl (lv_at hl 1 rfl) ?_
    refine lv_bipush (v := 20) hx hb dX10_begin_85 (by decide) ?_
    refine lv_iadd hx hb dX10_begin_87 ?_
    refine lv_iconst (v := 0) hx hb dX10_begin_88 (by decide) ?_
    refine pw_xI C hW hS dX10_begin_89 hF (fun M H locs hW hS hF => ?_)
    refine lv_aload_n hx hb dX10_begin_90 rfl (lv_at hl 0 rfl) ?_
    refine pw_gR C hW pc_9 (k := 0) (by decide) rfl tq_918 dX10_begin_91 hF (fun av7 hF => ?_)
    refine lv_iload_n hx hb dX10_begin_94 rfl (lv_at hl 1 rfl) ?_
    refine lv_bipush (v := 21) hx hb dX10_begin_95 (by decide) ?_
    refine lv_iadd hx hb dX10_begin_97 ?_
    refine lv_iconst (v := 0) hx hb dX10_begin_98 (by decide) ?_
    refine pw_xI C hW hS dX10_begin_99 hF (fun M H locs hW hS hF => ?_)
    refine lv_aload_n hx hb dX10_begin_100 rfl (lv_at hl 0 rfl) ?_
    refine pw_gR C hW pc_9 (k := 0) (by decide) rfl tq_918 dX10_begin_101 hF (fun av8 hF => ?_)
    refine lv_iload_n hx hb dX10_begin_104 rfl (lv_at hl 1 rfl) ?_
    refine lv_bipush (v := 22) hx hb dX10_begin_105 (by decide) ?_
    refine lv_iadd hx hb dX10_begin_107 ?_
    refine lv_iconst (v := 0) hx hb dX10_begin_108 (by decide) ?_
    refine pw_xI C hW hS dX10_begin_109 hF (fun M H locs hW hS hF => ?_)
    refine lv_aload_n hx hb dX10_begin_110 rfl (lv_at hl 0 rfl) ?_
    refine pw_gR C hW pc_9 (k := 0) (by decide) rfl tq_918 dX10_begin_111 hF (fun av9 hF => ?_)
    refine lv_iload_n hx hb dX10_begin_114 rfl (lv_at hl 1 rfl) ?_
    refine lv_bipush (v := 23) hx hb dX10_begin_115 (by decide) ?_
    refine lv_iadd hx hb dX10_begin_117 ?_
    refine lv_iconst (v := 0) hx hb dX10_begin_118 (by decide) ?_
    refine pw_xI C hW hS dX10_begin_119 hF (fun M H locs hW hS hF => ?_)
    exact pw_vret C hW hS dX10_begin_120 hF
  · replace hF := (if_neg hv1).symm.trans hF
    refine lv_aload_n hx hb dX10_begin_9 rfl (lv_at hl 0 rfl) ?_
    refine pw_gR C hW pc_9 (k := 0) (by decide) rfl tq_918 dX10_begin_10 hF (fun av10 hF => ?_)
    refine lv_iload_n hx hb dX10_begin_13 rfl (lv_at hl 1 rfl) ?_
    refine lv_iconst (v := 4) hx hb dX10_begin_14 (by decide) ?_
    refine lv_iadd hx hb dX10_begin_15 ?_
    refine lv_iload hx hb dX10_begin_16 (lv_at hl 4 rfl) ?_
    refine lv_iadd hx hb dX10_begin_18 ?_
    refine lv_iconst (v := 0) hx hb dX10_begin_19 (by decide) ?_
    refine pw_xI C hW hS dX10_begin_20 hF (fun M H locs hW hS hF => ?_)
    refine lv_aload_n hx hb dX10_begin_21 rfl (lv_at hl 0 rfl) ?_
    refine pw_gR C hW pc_9 (k := 0) (by decide) rfl tq_918 dX10_begin_22 hF (fun av11 hF => ?_)
    refine lv_iload_n hx hb dX10_begin_25 rfl (lv_at hl 1 rfl) ?_
    refine lv_bipush (v := 8) hx hb dX10_begin_26 (by decide) ?_
    refine lv_iadd hx hb dX10_begin_28 ?_
    refine lv_iload hx hb dX10_begin_29 (lv_at hl 4 rfl) ?_
    refine lv_iadd hx hb dX10_begin_31 ?_
    refine lv_iconst (v := 0) hx hb dX10_begin_32 (by decide) ?_
    refine pw_xI C hW hS dX10_begin_33 hF (fun M H locs hW hS hF => ?_)
    obtain ⟨xv12, exv12, hF⟩ := ps_ve hF
    refine lv_iinc (v := xv12) (lv' := [(4, .int xv12), (0, .ref (B + a0)), (1, .int x1), (2, .int x2), (3, .int x3)]) hx hb dX10_begin_34 hl (k := 4) rfl (by rw [exv12]; rfl) (by decide) rfl (fun ls hl => ?_)
    clear exv12
    refine lv_goto (tgt := 3) hx hb dX10_begin_37 (by decide) ?_
    exact hk3 M _ _ _ a0 x1 x2 x3 xv12 hF hW hS (lv_sub hl [1, 2, 3, 4, 0] rfl)
theorem kb_X10_begin_l3 (C : ps_C p s m args meth c cX10_begin 5 RX10 none "begin" D Y B) {q : ps_M}  : ∀ (n : Nat) (M : ps_M) (H : Heap) (locs : List Loc) (ls : Array Slot) (a0 : Nat) (x1 : Int32) (x2 : Int32) (x3 : Int32) (x4 : Int32), f_X10_begin_l3 n M a0 x1 x2 x3 x4 = some q → ps_W D Y B M H → va_S (fun q => B ≤ q) s.heap H locs → lv_has ls 5 [(0, .ref (B + a0)), (1, .int x1), (2, .int x2), (3, .int x3), (4, .int x4)] → W p l e rm_X10_begin s m args below meth c H locs 0 0 (ps_Qv D Y B below args s 0 0 q) (F0 m 3 ls []) := by
  intro n
  induction n with
  | zero => intro M H locs ls a0 x1 x2 x3 x4 hF; cases hF
  | succ n ih => intro M H locs ls a0 x1 x2 x3 x4 hF hW hS hl; exact kb_X10_begin_w3 C  (f_X10_begin_l3 n) ih hF hW hS hl
set_option maxRecDepth 100000 in
set_option maxHeartbeats 4000000 in
theorem kb_X10_begin (C : ps_C p s m args meth c cX10_begin 5 RX10 none "begin" D Y B) {q : ps_M}  {M : ps_M} {a0 : Nat} {x1 : Int32} {x2 : Int32} {x3 : Int32} (hF : f_X10_begin M a0 x1 x2 x3 = some q) (hW : ps_W D Y B M H) (hS : va_S (fun q => B ≤ q) s.heap H locs) (hl : lv_has ls 5 [(0, .ref (B + a0)), (1, .int x1), (2, .int x2), (3, .int x3)]) : W p l e rm_X10_begin s m args below meth c H locs 0 0 (ps_Qv D Y B below args s 0 0 q) (F0 m 0 ls []) := by
  have hx := C.1
  have hb := C.2.1
  have hml := C.2.2.1
  have hown := C.2.2.2.1
  have hts := C.2.2.2.2.1
  unfold f_X10_begin at hF
  refine lv_iconst (v := 0) hx hb dX10_begin_0 (by decide) ?_
  refine lv_istore (lv' := [(4, .int (0 : Int32)), (0, .ref (B + a0)), (1, .int x1), (2, .int x2), (3, .int x3)]) hx hb dX10_begin_1 hl (by decide) rfl (fun ls hl => ?_)
  exact kb_X10_begin_l3 C ps_fu M _ _ _ a0 x1 x2 x3 (0 : Int32) hF hW hS (lv_sub hl [1, 2, 3, 4, 0] rfl)
theorem mf_X10_begin : ps_mf yX10_begin cX10_begin 5 none 3 := ⟨tq_1079, tq_71, by decide +kernel, by decide +kernel, by decide +kernel⟩
theorem c_X10_begin {l : Launch} {D : va_G} {Y : ps_A} {B : Nat} {M : ps_M} {a0 : Nat} {x1 : Int32} {x2 : Int32} {x3 : Int32} {M' : ps_M} (hF : f_X10_begin M a0 x1 x2 x3 = some M') : Met l yX10_begin (Cond.code yX10_begin cX10_begin 5 none :: tb_G) rm_X10_begin (ps_PB D Y B M [.ref (B + a0), .int x1, .int x2, .int x3]) (va_Qv (fun (_ : Unit) => True) (fun _ t => ps_St D Y B M' t) (fun q => B ≤ q)) 0 0 (fun q => B ≤ q) :=
  pm_of (by decide +kernel) (Nat.le_of_ble_eq_true rfl) (fun p e s m args below meth c C hW hS ls hl => kb_X10_begin C hF hW hS hl)

end
