def ps_fu : Nat := 4096
section
variable {p : Program} {l : Launch} {e : Env} {s : State} {m : MethodId} {args : Array Value} {below : List Frame} {meth : Method} {c : Code} {H : Heap} {locs : List Loc} {ls : Array Slot} {D : va_G} {Y : ps_A} {B : Nat}
abbrev rm_X4_fill : Room := { frames := 0, cells := 0, slots := 0, locals := 0 }
def f_X4_fill_w2 (k2 : ps_M → Nat → Int32 → Int32 → Option (ps_M)) (M : ps_M) (a0 : Nat) (x1 : Int32) (x2 : Int32) : Option (ps_M) := ps_aL M a0 (fun xv1 => if xv1 ≤ x2 then (some M) else (ps_xI M a0 x2 x1 (fun M => ps_v (x2 + 1) (fun xv3 => k2 M a0 x1 xv3))))
def f_X4_fill_l2 : Nat → ps_M → Nat → Int32 → Int32 → Option (ps_M)
  | 0, _, _, _, _ => none
  | n + 1, M, a0, x1, x2 => f_X4_fill_w2 (f_X4_fill_l2 n) M a0 x1 x2
def f_X4_fill (M : ps_M) (a0 : Nat) (x1 : Int32) : Option (ps_M) := f_X4_fill_l2 ps_fu M a0 x1 (0 : Int32)
set_option maxRecDepth 100000 in
set_option maxHeartbeats 4000000 in
theorem kb_X4_fill_w2 (C : ps_C p s m args meth c cX4_fill 3 RX4 none "fill" D Y B) {q : ps_M} (k2 : ps_M → Nat → Int32 → Int32 → Option (ps_M)) (hk2 : ∀ (M : ps_M) (H : Heap) (locs : List Loc) (ls : Array Slot) (a0 : Nat) (x1 : Int32) (x2 : Int32), k2 M a0 x1 x2 = some q → ps_W D Y B M H → va_S (fun q => B ≤ q) s.heap H locs → lv_has ls 3 [(0, .ref (B + a0)), (1, .int x1), (2, .int x2)] → W p l e rm_X4_fill s m args below meth c H locs 0 0 (ps_Qv D Y B below args s 0 0 q) (F0 m 2 ls [])) {M : ps_M} {a0 : Nat} {x1 : Int32} {x2 : Int32} (hF : f_X4_fill_w2 k2 M a0 x1 x2 = some q) (hW : ps_W D Y B M H) (hS : va_S (fun q => B ≤ q) s.heap H locs) (hl : lv_has ls 3 [(0, .ref (B + a0)), (1, .int x1), (2, .int x2)]) : W p l e rm_X4_fill s m args below meth c H locs 0 0 (ps_Qv D Y B below args s 0 0 q) (F0 m 2 ls []) := by
  have hx := C.1
  have hb := C.2.1
  have hml := C.2.2.1
  have hown := C.2.2.2.1
  have hts := C.2.2.2.2.1
  unfold f_X4_fill_w2 at hF
  refine lv_iload_n hx hb dX4_fill_2 rfl (lv_at hl 2 rfl) ?_
  refine lv_aload_n hx hb dX4_fill_3 rfl (lv_at hl 0 rfl) ?_
  refine pw_aL C hW dX4_fill_4 hF (fun xv1 hF => ?_)
  refine lv_icmp_ge (tgt := 18) hx hb dX4_fill_5 (by decide) (fun hv2 => ?_) (fun hv2 => ?_)
  · replace hF := (if_pos hv2).symm.trans hF
    exact pw_vret C hW hS dX4_fill_18 hF
  · replace hF := (if_neg hv2).symm.trans hF
    refine lv_aload_n hx hb dX4_fill_8 rfl (lv_at hl 0 rfl) ?_
    refine lv_iload_n hx hb dX4_fill_9 rfl (lv_at hl 2 rfl) ?_
    refine lv_iload_n hx hb dX4_fill_10 rfl (lv_at hl 1 rfl) ?_
    refine pw_xI C hW hS dX4_fill_11 hF (fun M H locs hW hS hF => ?_)
    obtain ⟨xv3, exv3, hF⟩ := ps_ve hF
    refine lv_iinc (v := xv3) (lv' := [(2, .int xv3), (0, .ref (B + a0)), (1, .int x1)]) hx hb dX4_fill_12 hl (k := 2) rfl (by rw [exv3]; rfl) (by decide) rfl (fun ls hl => ?_)
    clear exv3
    refine lv_goto (tgt := 2) hx hb dX4_fill_15 (by decide) ?_
    exact hk2 M _ _ _ a0 x1 xv3 hF hW hS (lv_sub hl [1, 2, 0] rfl)
theorem kb_X4_fill_l2 (C : ps_C p s m args meth c cX4_fill 3 RX4 none "fill" D Y B) {q : ps_M}  : ∀ (n : Nat) (M : ps_M) (H : Heap) (locs : List Loc) (ls : Array Slot) (a0 : Nat) (x1 : Int32) (x2 : Int32), f_X4_fill_l2 n M a0 x1 x2 = some q → ps_W D Y B M H → va_S (fun q => B ≤ q) s.heap H locs → lv_has ls 3 [(0, .ref (B + a0)), (1, .int x1), (2, .int x2)] → W p l e rm_X4_fill s m args below meth c H locs 0 0 (ps_Qv D Y B below args s 0 0 q) (F0 m 2 ls []) := by
  intro n
  induction n with
  | zero => intro M H locs ls a0 x1 x2 hF; cases hF
  | succ n ih => intro M H locs ls a0 x1 x2 hF hW hS hl; exact kb_X4_fill_w2 C  (f_X4_fill_l2 n) ih hF hW hS hl
set_option maxRecDepth 100000 in
set_option maxHeartbeats 4000000 in
theorem kb_X4_fill (C : ps_C p s m args meth c cX4_fill 3 RX4 none "fill" D Y B) {q : ps_M}  {M : ps_M} {a0 : Nat} {x1 : Int32} (hF : f_X4_fill M a0 x1 = some q) (hW : ps_W D Y B M H) (hS : va_S (fun q => B ≤ q) s.heap H locs) (hl : lv_has ls 3 [(0, .ref (B + a0)), (1, .int x1)]) : W p l e rm_X4_fill s m args below meth c H locs 0 0 (ps_Qv D Y B below args s 0 0 q) (F0 m 0 ls []) := by
  have hx := C.1
  have hb := C.2.1
  have hml := C.2.2.1
  have hown := C.2.2.2.1
  have hts := C.2.2.2.2.1
  unfold f_X4_fill at hF
  refine lv_iconst (v := 0) hx hb dX4_fill_0 (by decide) ?_
  refine lv_istore_n (lv' := [(2, .int (0 : Int32)), (0, .ref (B + a0)), (1, .int x1)]) hx hb dX4_fill_1 rfl hl (by decide) rfl (fun ls hl => ?_)
  exact kb_X4_fill_l2 C ps_fu M _ _ _ a0 x1 (0 : Int32) hF hW hS (lv_sub hl [1, 2, 0] rfl)
theorem mf_X4_fill : ps_mf yX4_fill cX4_fill 3 none 2 := ⟨tq_520, tq_72, by decide +kernel, by decide +kernel, by decide +kernel⟩
theorem c_X4_fill {l : Launch} {D : va_G} {Y : ps_A} {B : Nat} {M : ps_M} {a0 : Nat} {x1 : Int32} {M' : ps_M} (hF : f_X4_fill M a0 x1 = some M') : Met l yX4_fill (Cond.code yX4_fill cX4_fill 3 none :: tb_G) rm_X4_fill (ps_PB D Y B M [.ref (B + a0), .int x1]) (va_Qv (fun (_ : Unit) => True) (fun _ t => ps_St D Y B M' t) (fun q => B ≤ q)) 0 0 (fun q => B ≤ q) :=
  pm_of (by decide +kernel) (Nat.le_of_ble_eq_true rfl) (fun p e s m args below meth c C hW hS ls hl => kb_X4_fill C hF hW hS hl)

abbrev rm_X0_stepBack : Room := { frames := 0, cells := 0, slots := 0, locals := 0 }
def f_X0_stepBack (M : ps_M) (a0 : Nat) : Option (ps_M) := ps_gR M a0 0 6 (fun av1 => ps_gR M a0 0 5 (fun av2 => ps_pR M a0 0 6 av2 (fun M => ps_pR M a0 0 5 av1 (fun M => some M))))
set_option maxRecDepth 100000 in
set_option maxHeartbeats 4000000 in
theorem kb_X0_stepBack (C : ps_C p s m args meth c cX0_stepBack 2 RX0 none "stepBack" D Y B) {q : ps_M}  {M : ps_M} {a0 : Nat} (hF : f_X0_stepBack M a0 = some q) (hW : ps_W D Y B M H) (hS : va_S (fun q => B ≤ q) s.heap H locs) (hl : lv_has ls 2 [(0, .ref (B + a0))]) : W p l e rm_X0_stepBack s m args below meth c H locs 0 0 (ps_Qv D Y B below args s 0 0 q) (F0 m 0 ls []) := by
  have hx := C.1
  have hb := C.2.1
  have hml := C.2.2.1
  have hown := C.2.2.2.1
  have hts := C.2.2.2.2.1
  unfold f_X0_stepBack at hF
  refine lv_aload_n hx hb dX0_stepBack_0 rfl (lv_at hl 0 rfl) ?_
  refine pw_gR C hW pc_0 (k := 6) (by decide) rfl tq_359 dX0_stepBack_1 hF (fun av1 hF => ?_)
  refine lv_astore_n (lv' := [(1, .ref (B + av1)), (0, .ref (B + a0))]) hx hb dX0_stepBack_4 rfl hl (by decide) rfl (fun ls hl => ?_)
  refine lv_aload_n hx hb dX0_stepBack_5 rfl (lv_at hl 1 rfl) ?_
  refine lv_aload_n hx hb dX0_stepBack_6 rfl (lv_at hl 1 rfl) ?_
  refine pw_gR C hW pc_0 (k := 5) (by decide) rfl tq_358 dX0_stepBack_7 hF (fun av2 hF => ?_)
  refine pw_pR C hW hS pc_0 (k := 6) (by decide) (Or.inr ⟨_, rfl⟩) rfl tq_359 (Or.inl rfl) dX0_stepBack_10 hF (fun M H locs hW hS hF => ?_)
  refine lv_aload_n hx hb dX0_stepBack_13 rfl (lv_at hl 1 rfl) ?_
  refine lv_aload_n hx hb dX0_stepBack_14 rfl (lv_at hl 0 rfl) ?_
  refine pw_pR C hW hS pc_0 (k := 5) (by decide) (Or.inr ⟨_, rfl⟩) rfl tq_358 (Or.inl rfl) dX0_stepBack_15 hF (fun M H locs hW hS hF => ?_)
  exact pw_vret C hW hS dX0_stepBack_18 hF
theorem mf_X0_stepBack : ps_mf yX0_stepBack cX0_stepBack 2 none 0 := ⟨tq_789, tq_69, by decide +kernel, by decide +kernel, by decide +kernel⟩
theorem c_X0_stepBack {l : Launch} {D : va_G} {Y : ps_A} {B : Nat} {M : ps_M} {a0 : Nat} {M' : ps_M} (hF : f_X0_stepBack M a0 = some M') : Met l yX0_stepBack (Cond.code yX0_stepBack cX0_stepBack 2 none :: tb_G) rm_X0_stepBack (ps_PB D Y B M [.ref (B + a0)]) (va_Qv (fun (_ : Unit) => True) (fun _ t => ps_St D Y B M' t) (fun q => B ≤ q)) 0 0 (fun q => B ≤ q) :=
  pm_of (by decide +kernel) (Nat.le_of_ble_eq_true rfl) (fun p e s m args below meth c C hW hS ls hl => kb_X0_stepBack C hF hW hS hl)

abbrev rm_X0_place : Room := { frames := 0, cells := 0, slots := 0, locals := 0 }
def f_X0_place_b14 (M : ps_M) (t0 : Int32) (t1 : Int32) : Option (Int32 × ps_M) := some ((t0 + t1), M)
def f_X0_place (M : ps_M) (x0 : Int32) (x1 : Int32) : Option (Int32 × ps_M) := if 0 ≤ x1 then (f_X0_place_b14 M ((30 : Int32) + x0) (0 : Int32)) else (f_X0_place_b14 M ((30 : Int32) + x0) (61 : Int32))
set_option maxRecDepth 100000 in
set_option maxHeartbeats 4000000 in
theorem kb_X0_place_b14 (C : ps_C p s m args meth c cX0_place 2 RX0 ((some .int)) "place" D Y B) {q : Int32 × ps_M}  {M : ps_M} {t0 : Int32} {t1 : Int32} (hF : f_X0_place_b14 M t0 t1 = some q) (hW : ps_W D Y B M H) (hS : va_S (fun q => B ≤ q) s.heap H locs) (hl : lv_has ls 2 []) : W p l e rm_X0_place s m args below meth c H locs 0 0 (ps_Qi D Y B below args s 0 0 q) (F0 m 14 ls [.int t1, .int t0]) := by
  have hx := C.1
  have hb := C.2.1
  have hml := C.2.2.1
  have hown := C.2.2.2.1
  have hts := C.2.2.2.2.1
  unfold f_X0_place_b14 at hF
  refine lv_iadd hx hb dX0_place_14 ?_
  exact pw_iret C hW hS dX0_place_15 hF
set_option maxRecDepth 100000 in
set_option maxHeartbeats 4000000 in
theorem kb_X0_place (C : ps_C p s m args meth c cX0_place 2 RX0 ((some .int)) "place" D Y B) {q : Int32 × ps_M}  {M : ps_M} {x0 : Int32} {x1 : Int32} (hF : f_X0_place M x0 x1 = some q) (hW : ps_W D Y B M H) (hS : va_S (fun q => B ≤ q) s.heap H locs) (hl : lv_has ls 2 [(0, .int x0), (1, .int x1)]) : W p l e rm_X0_place s m args below meth c H locs 0 0 (ps_Qi D Y B below args s 0 0 q) (F0 m 0 ls []) := by
  have hx := C.1
  have hb := C.2.1
  have hml := C.2.2.1
  have hown := C.2.2.2.1
  have hts := C.2.2.2.2.1
  unfold f_X0_place at hF
  refine lv_bipush (v := 30) hx hb dX0_place_0 (by decide) ?_
  refine lv_iload_n hx hb dX0_place_2 rfl (lv_at hl 0 rfl) ?_
  refine lv_iadd hx hb dX0_place_3 ?_
  refine lv_iload_n hx hb dX0_place_4 rfl (lv_at hl 1 rfl) ?_
  refine lv_if_ge (tgt := 13) hx hb dX0_place_5 (by decide) (fun hv1 => ?_) (fun hv1 => ?_)
  · replace hF := (if_pos hv1).symm.trans hF
    refine lv_iconst (v := 0) hx hb dX0_place_13 (by decide) ?_
    exact kb_X0_place_b14 C hF hW hS (lv_sub hl [] rfl)
  · replace hF := (if_neg hv1).symm.trans hF
    refine lv_bipush (v := 61) hx hb dX0_place_8 (by decide) ?_
    refine lv_goto (tgt := 14) hx hb dX0_place_10 (by decide) ?_
    exact kb_X0_place_b14 C hF hW hS (lv_sub hl [] rfl)
theorem mf_X0_place : ps_mf yX0_place cX0_place 2 ((some .int)) 2 := ⟨tq_805, tq_69, by decide +kernel, by decide +kernel, by decide +kernel⟩
theorem c_X0_place {l : Launch} {D : va_G} {Y : ps_A} {B : Nat} {M : ps_M} {x0 : Int32} {x1 : Int32} {r : Int32} {M' : ps_M} (hF : f_X0_place M x0 x1 = some (r, M')) : Met l yX0_place (Cond.code yX0_place cX0_place 2 ((some .int)) :: tb_G) rm_X0_place (ps_PB D Y B M [.int x0, .int x1]) (va_Qi (fun x (_ : Unit) => x = r) (fun _ t => ps_St D Y B M' t) (fun q => B ≤ q)) 0 0 (fun q => B ≤ q) :=
  pm_of (by decide +kernel) (Nat.le_of_ble_eq_true rfl) (fun p e s m args below meth c C hW hS ls hl => kb_X0_place C hF hW hS hl)

abbrev rm_X4_at : Room := { frames := 0, cells := 0, slots := 0, locals := 0 }
def f_X4_at_b17 (M : ps_M) (t0 : Int32) : Option (Int32 × ps_M) := some (t0, M)
def f_X4_at_b16 (M : ps_M)  : Option (Int32 × ps_M) := f_X4_at_b17 M (0 : Int32)
def f_X4_at (M : ps_M) (a0 : Nat) (x1 : Int32) : Option (Int32 × ps_M) := if x1 < 0 then (f_X4_at_b16 M ) else (ps_aL M a0 (fun xv2 => if xv2 ≤ x1 then (f_X4_at_b16 M ) else (ps_aI M a0 x1 (fun xv4 => f_X4_at_b17 M xv4))))
set_option maxRecDepth 100000 in
set_option maxHeartbeats 4000000 in
theorem kb_X4_at_b17 (C : ps_C p s m args meth c cX4_at 2 RX4 ((some .int)) "at" D Y B) {q : Int32 × ps_M}  {M : ps_M} {t0 : Int32} (hF : f_X4_at_b17 M t0 = some q) (hW : ps_W D Y B M H) (hS : va_S (fun q => B ≤ q) s.heap H locs) (hl : lv_has ls 2 []) : W p l e rm_X4_at s m args below meth c H locs 0 0 (ps_Qi D Y B below args s 0 0 q) (F0 m 17 ls [.int t0]) := by
  have hx := C.1
  have hb := C.2.1
  have hml := C.2.2.1
  have hown := C.2.2.2.1
  have hts := C.2.2.2.2.1
  unfold f_X4_at_b17 at hF
  exact pw_iret C hW hS dX4_at_17 hF
set_option maxRecDepth 100000 in
set_option maxHeartbeats 4000000 in
theorem kb_X4_at_b16 (C : ps_C p s m args meth c cX4_at 2 RX4 ((some .int)) "at" D Y B) {q : Int32 × ps_M}  {M : ps_M}  (hF : f_X4_at_b16 M  = some q) (hW : ps_W D Y B M H) (hS : va_S (fun q => B ≤ q) s.heap H locs) (hl : lv_has ls 2 []) : W p l e rm_X4_at s m args below meth c H locs 0 0 (ps_Qi D Y B below args s 0 0 q) (F0 m 16 ls []) := by
  have hx := C.1
  have hb := C.2.1
  have hml := C.2.2.1
  have hown := C.2.2.2.1
  have hts := C.2.2.2.2.1
  unfold f_X4_at_b16 at hF
  refine lv_iconst (v := 0) hx hb dX4_at_16 (by decide) ?_
  exact kb_X4_at_b17 C hF hW hS (lv_sub hl [] rfl)
set_option maxRecDepth 100000 in
set_option maxHeartbeats 4000000 in
theorem kb_X4_at (C : ps_C p s m args meth c cX4_at 2 RX4 ((some .int)) "at" D Y B) {q : Int32 × ps_M}  {M : ps_M} {a0 : Nat} {x1 : Int32} (hF : f_X4_at M a0 x1 = some q) (hW : ps_W D Y B M H) (hS : va_S (fun q => B ≤ q) s.heap H locs) (hl : lv_has ls 2 [(0, .ref (B + a0)), (1, .int x1)]) : W p l e rm_X4_at s m args below meth c H locs 0 0 (ps_Qi D Y B below args s 0 0 q) (F0 m 0 ls []) := by
  have hx := C.1
  have hb := C.2.1
  have hml := C.2.2.1
  have hown := C.2.2.2.1
  have hts := C.2.2.2.2.1
  unfold f_X4_at at hF
  refine lv_iload_n hx hb dX4_at_0 rfl (lv_at hl 1 rfl) ?_
  refine lv_if_lt (tgt := 16) hx hb dX4_at_1 (by decide) (fun hv1 => ?_) (fun hv1 => ?_)
  · replace hF := (if_pos hv1).symm.trans hF
    exact kb_X4_at_b16 C hF hW hS (lv_sub hl [] rfl)
  · replace hF := (if_neg hv1).symm.trans hF
    refine lv_iload_n hx hb dX4_at_4 rfl (lv_at hl 1 rfl) ?_
    refine lv_aload_n hx hb dX4_at_5 rfl (lv_at hl 0 rfl) ?_
    refine pw_aL C hW dX4_at_6 hF (fun xv2 hF => ?_)
    refine lv_icmp_ge (tgt := 16) hx hb dX4_at_7 (by decide) (fun hv3 => ?_) (fun hv3 => ?_)
    · replace hF := (if_pos hv3).symm.trans hF
      exact kb_X4_at_b16 C hF hW hS (lv_sub hl [] rfl)
    · replace hF := (if_neg hv3).symm.trans hF
      refine lv_aload_n hx hb dX4_at_10 rfl (lv_at hl 0 rfl) ?_
      refine lv_iload_n hx hb dX4_at_11 rfl (lv_at hl 1 rfl) ?_
      refine pw_aI C hW dX4_at_12 hF (fun xv4 hF => ?_)
      refine lv_goto (tgt := 17) hx hb dX4_at_13 (by decide) ?_
      exact kb_X4_at_b17 C hF hW hS (lv_sub hl [] rfl)
theorem mf_X4_at : ps_mf yX4_at cX4_at 2 ((some .int)) 2 := ⟨tq_550, tq_72, by decide +kernel, by decide +kernel, by decide +kernel⟩
theorem c_X4_at {l : Launch} {D : va_G} {Y : ps_A} {B : Nat} {M : ps_M} {a0 : Nat} {x1 : Int32} {r : Int32} {M' : ps_M} (hF : f_X4_at M a0 x1 = some (r, M')) : Met l yX4_at (Cond.code yX4_at cX4_at 2 ((some .int)) :: tb_G) rm_X4_at (ps_PB D Y B M [.ref (B + a0), .int x1]) (va_Qi (fun x (_ : Unit) => x = r) (fun _ t => ps_St D Y B M' t) (fun q => B ≤ q)) 0 0 (fun q => B ≤ q) :=
  pm_of (by decide +kernel) (Nat.le_of_ble_eq_true rfl) (fun p e s m args below meth c C hW hS ls hl => kb_X4_at C hF hW hS hl)

abbrev rm_X0_costBehind : Room := { frames := 1, cells := 0, slots := 0, locals := 21 }
def f_X0_costBehind_b39 (M : ps_M) (t0 : Int32) : Option (Int32 × ps_M) := some (t0, M)
def f_X0_costBehind (M : ps_M) (a0 : Nat) (x1 : Int32) (x2 : Int32) : Option (Int32 × ps_M) := ps_gI M a0 0 2 (fun xv1 => ps_gI M a0 0 3 (fun xv2 => ps_v (if 0 ≤ (xv1 + (x1 * xv2)) then (xv1 + (x1 * xv2)) else 0 - (xv1 + (x1 * xv2))) (fun xv3 => ps_gI M a0 0 4 (fun xv4 => if xv3 ≤ xv4 then (ps_gR M a0 0 6 (fun av6 => ps_b2 (f_X0_place M x1 x2) (fun xv7 M => ps_b2 (f_X4_at M av6 xv7) (fun xv8 M => f_X0_costBehind_b39 M xv8)))) else (f_X0_costBehind_b39 M (1000 : Int32))))))
set_option maxRecDepth 100000 in
set_option maxHeartbeats 4000000 in
theorem kb_X0_costBehind_b39 (C : ps_C p s m args meth c cX0_costBehind 3 RX0 ((some .int)) "costBehind" D Y B) {q : Int32 × ps_M}  {M : ps_M} {t0 : Int32} (hF : f_X0_costBehind_b39 M t0 = some q) (hW : ps_W D Y B M H) (hS : va_S (fun q => B ≤ q) s.heap H locs) (hl : lv_has ls 3 []) : W p l e rm_X0_costBehind s m args below meth c H locs 0 0 (ps_Qi D Y B below args s 0 0 q) (F0 m 39 ls [.int t0]) := by
  have hx := C.1
  have hb := C.2.1
  have hml := C.2.2.1
  have hown := C.2.2.2.1
  have hts := C.2.2.2.2.1
  unfold f_X0_costBehind_b39 at hF
  exact pw_iret C hW hS dX0_costBehind_39 hF
set_option maxRecDepth 100000 in
set_option maxHeartbeats 4000000 in
theorem kb_X0_costBehind (C : ps_C p s m args meth c cX0_costBehind 3 RX0 ((some .int)) "costBehind" D Y B) {q : Int32 × ps_M}  {M : ps_M} {a0 : Nat} {x1 : Int32} {x2 : Int32} (hF : f_X0_costBehind M a0 x1 x2 = some q) (hW : ps_W D Y B M H) (hS : va_S (fun q => B ≤ q) s.heap H locs) (hl : lv_has ls 3 [(0, .ref (B + a0)), (1, .int x1), (2, .int x2)]) : W p l e rm_X0_costBehind s m args below meth c H locs 0 0 (ps_Qi D Y B below args s 0 0 q) (F0 m 0 ls []) := by
  have hx := C.1
  have hb := C.2.1
  have hml := C.2.2.1
  have hown := C.2.2.2.1
  have hts := C.2.2.2.2.1
  unfold f_X0_costBehind at hF
  refine lv_aload_n hx hb dX0_costBehind_0 rfl (lv_at hl 0 rfl) ?_
  refine pw_gI C hW pc_0 (k := 2) (by decide) rfl tq_355 dX0_costBehind_1 hF (fun xv1 hF => ?_)
  refine lv_iload_n hx hb dX0_costBehind_4 rfl (lv_at hl 1 rfl) ?_
  refine lv_aload_n hx hb dX0_costBehind_5 rfl (lv_at hl 0 rfl) ?_
  refine pw_gI C hW pc_0 (k := 3) (by decide) rfl tq_356 dX0_costBehind_6 hF (fun xv2 hF => ?_)
  refine lv_imul hx hb dX0_costBehind_9 ?_
  refine lv_iadd hx hb dX0_costBehind_10 ?_
  refine va_mabs hx hb (hml.trans hl.1.symm) hown (hts _ tq_802) (hts _ tq_763) (hts _ tq_65) (hts _ tq_764) (Nat.le_of_ble_eq_true rfl) (Nat.le_of_ble_eq_true rfl) (Nat.le_of_ble_eq_true rfl) (Nat.le_of_ble_eq_true rfl) dX0_costBehind_11 ?_
  refine pw_v hF (fun xv3 hF => ?_)
  refine lv_aload_n hx hb dX0_costBehind_14 rfl (lv_at hl 0 rfl) ?_
  refine pw_gI C hW pc_0 (k := 4) (by decide) rfl tq_357 dX0_costBehind_15 hF (fun xv4 hF => ?_)
  refine lv_icmp_le (tgt := 27) hx hb dX0_costBehind_18 (by decide) (fun hv5 => ?_) (fun hv5 => ?_)
  · replace hF := (if_pos hv5).symm.trans hF
    refine lv_aload_n hx hb dX0_costBehind_27 rfl (lv_at hl 0 rfl) ?_
    refine pw_gR C hW pc_0 (k := 6) (by decide) rfl tq_359 dX0_costBehind_28 hF (fun av6 hF => ?_)
    refine lv_iload_n hx hb dX0_costBehind_31 rfl (lv_at hl 1 rfl) ?_
    refine lv_iload_n hx hb dX0_costBehind_32 rfl (lv_at hl 2 rfl) ?_
    obtain ⟨xv7, M9, hc, hF⟩ := ps_b2_some hF
    refine ps_backI (x0 := xv7) (M' := M9) hS (ps_callS C hW mf_X0_place tq_804 tq_803 ⟨Nat.le_of_ble_eq_true rfl, Nat.le_of_ble_eq_true rfl⟩ rfl rfl (As := [.int x1, .int x2]) (rest := [.ref (B + av6)]) (c_X0_place hc) rfl hl.1 rfl (Nat.le_of_ble_eq_true rfl) dX0_costBehind_33 ⟨Nat.le_of_ble_eq_true rfl, Nat.le_of_ble_eq_true rfl⟩) (fun H locs hW hS => ?_)
    clear hc
    generalize M9 = M at hW hF
    obtain ⟨xv8, M9, hc, hF⟩ := ps_b2_some hF
    refine ps_backI (x0 := xv8) (M' := M9) hS (ps_callS C hW mf_X4_at tq_549 tq_806 ⟨Nat.le_of_ble_eq_true rfl, Nat.le_of_ble_eq_true rfl⟩ rfl rfl (As := [.ref (B + av6), .int xv7]) (rest := []) (c_X4_at hc) rfl hl.1 rfl (Nat.le_of_ble_eq_true rfl) dX0_costBehind_36 ⟨Nat.le_of_ble_eq_true rfl, Nat.le_of_ble_eq_true rfl⟩) (fun H locs hW hS => ?_)
    clear hc
    generalize M9 = M at hW hF
    exact kb_X0_costBehind_b39 C hF hW hS (lv_sub hl [] rfl)
  · replace hF := (if_neg hv5).symm.trans hF
    refine lv_sipush (v := 1000) hx hb dX0_costBehind_21 (by decide) ?_
    refine lv_goto (tgt := 39) hx hb dX0_costBehind_24 (by decide) ?_
    exact kb_X0_costBehind_b39 C hF hW hS (lv_sub hl [] rfl)
theorem mf_X0_costBehind : ps_mf yX0_costBehind cX0_costBehind 3 ((some .int)) 2 := ⟨tq_801, tq_69, by decide +kernel, by decide +kernel, by decide +kernel⟩
theorem c_X0_costBehind {l : Launch} {D : va_G} {Y : ps_A} {B : Nat} {M : ps_M} {a0 : Nat} {x1 : Int32} {x2 : Int32} {r : Int32} {M' : ps_M} (hF : f_X0_costBehind M a0 x1 x2 = some (r, M')) : Met l yX0_costBehind (Cond.code yX0_costBehind cX0_costBehind 3 ((some .int)) :: tb_G) rm_X0_costBehind (ps_PB D Y B M [.ref (B + a0), .int x1, .int x2]) (va_Qi (fun x (_ : Unit) => x = r) (fun _ t => ps_St D Y B M' t) (fun q => B ≤ q)) 0 0 (fun q => B ≤ q) :=
  pm_of (by decide +kernel) (Nat.le_of_ble_eq_true rfl) (fun p e s m args below meth c C hW hS ls hl => kb_X0_costBehind C hF hW hS hl)

abbrev rm_X0_costOfStay : Room := { frames := 2, cells := 0, slots := 0, locals := 43 }
def f_X0_costOfStay (M : ps_M) (a0 : Nat) (x1 : Int32) (x2 : Int32) : Option (Int32 × ps_M) := ps_ck M a0 0 (ps_b2 (f_X0_costBehind M a0 (x1 + x2) x2) (fun xv1 M => some (xv1, M)))
set_option maxRecDepth 100000 in
set_option maxHeartbeats 4000000 in
theorem kb_X0_costOfStay (C : ps_C p s m args meth c cX0_costOfStay 3 RX0 ((some .int)) "costOfStay" D Y B) {q : Int32 × ps_M}  {M : ps_M} {a0 : Nat} {x1 : Int32} {x2 : Int32} (hF : f_X0_costOfStay M a0 x1 x2 = some q) (hW : ps_W D Y B M H) (hS : va_S (fun q => B ≤ q) s.heap H locs) (hl : lv_has ls 3 [(0, .ref (B + a0)), (1, .int x1), (2, .int x2)]) : W p l e rm_X0_costOfStay s m args below meth c H locs 0 0 (ps_Qi D Y B below args s 0 0 q) (F0 m 0 ls []) := by
  have hx := C.1
  have hb := C.2.1
  have hml := C.2.2.1
  have hown := C.2.2.2.1
  have hts := C.2.2.2.2.1
  unfold f_X0_costOfStay at hF
  refine lv_aload_n hx hb dX0_costOfStay_0 rfl (lv_at hl 0 rfl) ?_
  refine lv_iload_n hx hb dX0_costOfStay_1 rfl (lv_at hl 1 rfl) ?_
  refine lv_iload_n hx hb dX0_costOfStay_2 rfl (lv_at hl 2 rfl) ?_
  refine lv_iadd hx hb dX0_costOfStay_3 ?_
  refine lv_iload_n hx hb dX0_costOfStay_4 rfl (lv_at hl 2 rfl) ?_
  obtain ⟨hK, hF⟩ := ps_ck_some hF
  obtain ⟨xv1, M9, hc, hF⟩ := ps_b2_some hF
  refine ps_backI (x0 := xv1) (M' := M9) hS (ps_callV C hW pc_0 mf_X0_costBehind tq_800 tq_26 tq_798 ⟨Nat.le_of_ble_eq_true rfl, Nat.le_of_ble_eq_true rfl⟩ rfl rfl (As := [.int (x1 + x2), .int x2]) (rest := []) (c_X0_costBehind hc) hK rfl hl.1 rfl (Nat.le_of_ble_eq_true rfl) dX0_costOfStay_5 ⟨Nat.le_of_ble_eq_true rfl, Nat.le_of_ble_eq_true rfl⟩) (fun H locs hW hS => ?_)
  clear hc
  generalize M9 = M at hW hF
  exact pw_iret C hW hS dX0_costOfStay_8 hF
theorem mf_X0_costOfStay : ps_mf yX0_costOfStay cX0_costOfStay 3 ((some .int)) 2 := ⟨tq_797, tq_69, by decide +kernel, by decide +kernel, by decide +kernel⟩
theorem c_X0_costOfStay {l : Launch} {D : va_G} {Y : ps_A} {B : Nat} {M : ps_M} {a0 : Nat} {x1 : Int32} {x2 : Int32} {r : Int32} {M' : ps_M} (hF : f_X0_costOfStay M a0 x1 x2 = some (r, M')) : Met l yX0_costOfStay (Cond.code yX0_costOfStay cX0_costOfStay 3 ((some .int)) :: tb_G) rm_X0_costOfStay (ps_PB D Y B M [.ref (B + a0), .int x1, .int x2]) (va_Qi (fun x (_ : Unit) => x = r) (fun _ t => ps_St D Y B M' t) (fun q => B ≤ q)) 0 0 (fun q => B ≤ q) :=
  pm_of (by decide +kernel) (Nat.le_of_ble_eq_true rfl) (fun p e s m args below meth c C hW hS ls hl => kb_X0_costOfStay C hF hW hS hl)

abbrev rm_X0_costOfChange : Room := { frames := 2, cells := 0, slots := 0, locals := 43 }
def f_X0_costOfChange (M : ps_M) (a0 : Nat) (x1 : Int32) (x2 : Int32) : Option (Int32 × ps_M) := ps_ck M a0 0 (ps_b2 (f_X0_costBehind M a0 (x1 - x2) (-x2)) (fun xv1 M => some ((xv1 + (1 : Int32)), M)))
set_option maxRecDepth 100000 in
set_option maxHeartbeats 4000000 in
theorem kb_X0_costOfChange (C : ps_C p s m args meth c cX0_costOfChange 3 RX0 ((some .int)) "costOfChange" D Y B) {q : Int32 × ps_M}  {M : ps_M} {a0 : Nat} {x1 : Int32} {x2 : Int32} (hF : f_X0_costOfChange M a0 x1 x2 = some q) (hW : ps_W D Y B M H) (hS : va_S (fun q => B ≤ q) s.heap H locs) (hl : lv_has ls 3 [(0, .ref (B + a0)), (1, .int x1), (2, .int x2)]) : W p l e rm_X0_costOfChange s m args below meth c H locs 0 0 (ps_Qi D Y B below args s 0 0 q) (F0 m 0 ls []) := by
  have hx := C.1
  have hb := C.2.1
  have hml := C.2.2.1
  have hown := C.2.2.2.1
  have hts := C.2.2.2.2.1
  unfold f_X0_costOfChange at hF
  refine lv_aload_n hx hb dX0_costOfChange_0 rfl (lv_at hl 0 rfl) ?_
  refine lv_iload_n hx hb dX0_costOfChange_1 rfl (lv_at hl 1 rfl) ?_
  refine lv_iload_n hx hb dX0_costOfChange_2 rfl (lv_at hl 2 rfl) ?_
  refine lv_isub hx hb dX0_costOfChange_3 ?_
  refine lv_iload_n hx hb dX0_costOfChange_4 rfl (lv_at hl 2 rfl) ?_
  refine lv_ineg hx hb dX0_costOfChange_5 ?_
  obtain ⟨hK, hF⟩ := ps_ck_some hF
  obtain ⟨xv1, M9, hc, hF⟩ := ps_b2_some hF
  refine ps_backI (x0 := xv1) (M' := M9) hS (ps_callV C hW pc_0 mf_X0_costBehind tq_800 tq_26 tq_798 ⟨Nat.le_of_ble_eq_true rfl, Nat.le_of_ble_eq_true rfl⟩ rfl rfl (As := [.int (x1 - x2), .int (-x2)]) (rest := []) (c_X0_costBehind hc) hK rfl hl.1 rfl (Nat.le_of_ble_eq_true rfl) dX0_costOfChange_6 ⟨Nat.le_of_ble_eq_true rfl, Nat.le_of_ble_eq_true rfl⟩) (fun H locs hW hS => ?_)
  clear hc
  generalize M9 = M at hW hF
  refine lv_iconst (v := 1) hx hb dX0_costOfChange_9 (by decide) ?_
  refine lv_iadd hx hb dX0_costOfChange_10 ?_
  exact pw_iret C hW hS dX0_costOfChange_11 hF
theorem mf_X0_costOfChange : ps_mf yX0_costOfChange cX0_costOfChange 3 ((some .int)) 2 := ⟨tq_810, tq_69, by decide +kernel, by decide +kernel, by decide +kernel⟩
theorem c_X0_costOfChange {l : Launch} {D : va_G} {Y : ps_A} {B : Nat} {M : ps_M} {a0 : Nat} {x1 : Int32} {x2 : Int32} {r : Int32} {M' : ps_M} (hF : f_X0_costOfChange M a0 x1 x2 = some (r, M')) : Met l yX0_costOfChange (Cond.code yX0_costOfChange cX0_costOfChange 3 ((some .int)) :: tb_G) rm_X0_costOfChange (ps_PB D Y B M [.ref (B + a0), .int x1, .int x2]) (va_Qi (fun x (_ : Unit) => x = r) (fun _ t => ps_St D Y B M' t) (fun q => B ≤ q)) 0 0 (fun q => B ≤ q) :=
  pm_of (by decide +kernel) (Nat.le_of_ble_eq_true rfl) (fun p e s m args below meth c C hW hS ls hl => kb_X0_costOfChange C hF hW hS hl)

abbrev rm_X4_put : Room := { frames := 0, cells := 0, slots := 0, locals := 0 }
def f_X4_put_b14 (M : ps_M)  : Option (ps_M) := some M
def f_X4_put (M : ps_M) (a0 : Nat) (x1 : Int32) (x2 : Int32) : Option (ps_M) := if x1 < 0 then (f_X4_put_b14 M ) else (ps_aL M a0 (fun xv2 => if xv2 ≤ x1 then (f_X4_put_b14 M ) else (ps_xI M a0 x1 x2 (fun M => f_X4_put_b14 M ))))
set_option maxRecDepth 100000 in
set_option maxHeartbeats 4000000 in
theorem kb_X4_put_b14 (C : ps_C p s m args meth c cX4_put 3 RX4 none "put" D Y B) {q : ps_M}  {M : ps_M}  (hF : f_X4_put_b14 M  = some q) (hW : ps_W D Y B M H) (hS : va_S (fun q => B ≤ q) s.heap H locs) (hl : lv_has ls 3 []) : W p l e rm_X4_put s m args below meth c H locs 0 0 (ps_Qv D Y B below args s 0 0 q) (F0 m 14 ls []) := by
  have hx := C.1
  have hb := C.2.1
  have hml := C.2.2.1
  have hown := C.2.2.2.1
  have hts := C.2.2.2.2.1
  unfold f_X4_put_b14 at hF
  exact pw_vret C hW hS dX4_put_14 hF
set_option maxRecDepth 100000 in
set_option maxHeartbeats 4000000 in
theorem kb_X4_put (C : ps_C p s m args meth c cX4_put 3 RX4 none "put" D Y B) {q : ps_M}  {M : ps_M} {a0 : Nat} {x1 : Int32} {x2 : Int32} (hF : f_X4_put M a0 x1 x2 = some q) (hW : ps_W D Y B M H) (hS : va_S (fun q => B ≤ q) s.heap H locs) (hl : lv_has ls 3 [(0, .ref (B + a0)), (1, .int x1), (2, .int x2)]) : W p l e rm_X4_put s m args below meth c H locs 0 0 (ps_Qv D Y B below args s 0 0 q) (F0 m 0 ls []) := by
  have hx := C.1
  have hb := C.2.1
  have hml := C.2.2.1
  have hown := C.2.2.2.1
  have hts := C.2.2.2.2.1
  unfold f_X4_put at hF
  refine lv_iload_n hx hb dX4_put_0 rfl (lv_at hl 1 rfl) ?_
  refine lv_if_lt (tgt := 14) hx hb dX4_put_1 (by decide) (fun hv1 => ?_) (fun hv1 => ?_)
  · replace hF := (if_pos hv1).symm.trans hF
    exact kb_X4_put_b14 C hF hW hS (lv_sub hl [] rfl)
  · replace hF := (if_neg hv1).symm.trans hF
    refine lv_iload_n hx hb dX4_put_4 rfl (lv_at hl 1 rfl) ?_
    refine lv_aload_n hx hb dX4_put_5 rfl (lv_at hl 0 rfl) ?_
    refine pw_aL C hW dX4_put_6 hF (fun xv2 hF => ?_)
    refine lv_icmp_ge (tgt := 14) hx hb dX4_put_7 (by decide) (fun hv3 => ?_) (fun hv3 => ?_)
    · replace hF := (if_pos hv3).symm.trans hF
      exact kb_X4_put_b14 C hF hW hS (lv_sub hl [] rfl)
    · replace hF := (if_neg hv3).symm.trans hF
      refine lv_aload_n hx hb dX4_put_10 rfl (lv_at hl 0 rfl) ?_
      refine lv_iload_n hx hb dX4_put_11 rfl (lv_at hl 1 rfl) ?_
      refine lv_iload_n hx hb dX4_put_12 rfl (lv_at hl 2 rfl) ?_
      refine pw_xI C hW hS dX4_put_13 hF (fun M H locs hW hS hF => ?_)
      exact kb_X4_put_b14 C hF hW hS (lv_sub hl [] rfl)
theorem mf_X4_put : ps_mf yX4_put cX4_put 3 none 3 := ⟨tq_441, tq_72, by decide +kernel, by decide +kernel, by decide +kernel⟩
theorem c_X4_put {l : Launch} {D : va_G} {Y : ps_A} {B : Nat} {M : ps_M} {a0 : Nat} {x1 : Int32} {x2 : Int32} {M' : ps_M} (hF : f_X4_put M a0 x1 x2 = some M') : Met l yX4_put (Cond.code yX4_put cX4_put 3 none :: tb_G) rm_X4_put (ps_PB D Y B M [.ref (B + a0), .int x1, .int x2]) (va_Qv (fun (_ : Unit) => True) (fun _ t => ps_St D Y B M' t) (fun q => B ≤ q)) 0 0 (fun q => B ≤ q) :=
  pm_of (by decide +kernel) (Nat.le_of_ble_eq_true rfl) (fun p e s m args below meth c C hW hS ls hl => kb_X4_put C hF hW hS hl)

abbrev rm_X0_weighAhead : Room := { frames := 3, cells := 0, slots := 0, locals := 65 }
def f_X0_weighAhead (M : ps_M) (a0 : Nat) (x1 : Int32) (x2 : Int32) : Option (ps_M) := ps_ck M a0 0 (ps_b2 (f_X0_costOfStay M a0 x1 x2) (fun xv1 M => ps_ck M a0 0 (ps_b2 (f_X0_costOfChange M a0 x1 x2) (fun xv2 M => ps_v (if xv2 < xv1 then xv2 else xv1) (fun xv3 => ps_gR M a0 0 5 (fun av4 => ps_b2 (f_X0_place M x1 x2) (fun xv5 M => ps_v (if xv3 < (1000 : Int32) then xv3 else (1000 : Int32)) (fun xv6 => ps_b1 (f_X4_put M av4 xv5 xv6) (fun M => some M)))))))))
set_option maxRecDepth 100000 in
set_option maxHeartbeats 4000000 in
theorem kb_X0_weighAhead (C : ps_C p s m args meth c cX0_weighAhead 4 RX0 none "weighAhead" D Y B) {q : ps_M}  {M : ps_M} {a0 : Nat} {x1 : Int32} {x2 : Int32} (hF : f_X0_weighAhead M a0 x1 x2 = some q) (hW : ps_W D Y B M H) (hS : va_S (fun q => B ≤ q) s.heap H locs) (hl : lv_has ls 4 [(0, .ref (B + a0)), (1, .int x1), (2, .int x2)]) : W p l e rm_X0_weighAhead s m args below meth c H locs 0 0 (ps_Qv D Y B below args s 0 0 q) (F0 m 0 ls []) := by
  have hx := C.1
  have hb := C.2.1
  have hml := C.2.2.1
  have hown := C.2.2.2.1
  have hts := C.2.2.2.2.1
  unfold f_X0_weighAhead at hF
  refine lv_aload_n hx hb dX0_weighAhead_0 rfl (lv_at hl 0 rfl) ?_
  refine lv_iload_n hx hb dX0_weighAhead_1 rfl (lv_at hl 1 rfl) ?_
  refine lv_iload_n hx hb dX0_weighAhead_2 rfl (lv_at hl 2 rfl) ?_
  obtain ⟨hK, hF⟩ := ps_ck_some hF
  obtain ⟨xv1, M9, hc, hF⟩ := ps_b2_some hF
  refine ps_backI (x0 := xv1) (M' := M9) hS (ps_callV C hW pc_0 mf_X0_costOfStay tq_796 tq_25 tq_794 ⟨Nat.le_of_ble_eq_true rfl, Nat.le_of_ble_eq_true rfl⟩ rfl rfl (As := [.int x1, .int x2]) (rest := []) (c_X0_costOfStay hc) hK rfl hl.1 rfl (Nat.le_of_ble_eq_true rfl) dX0_weighAhead_3 ⟨Nat.le_of_ble_eq_true rfl, Nat.le_of_ble_eq_true rfl⟩) (fun H locs hW hS => ?_)
  clear hc
  generalize M9 = M at hW hF
  refine lv_aload_n hx hb dX0_weighAhead_6 rfl (lv_at hl 0 rfl) ?_
  refine lv_iload_n hx hb dX0_weighAhead_7 rfl (lv_at hl 1 rfl) ?_
  refine lv_iload_n hx hb dX0_weighAhead_8 rfl (lv_at hl 2 rfl) ?_
  obtain ⟨hK, hF⟩ := ps_ck_some hF
  obtain ⟨xv2, M9, hc, hF⟩ := ps_b2_some hF
  refine ps_backI (x0 := xv2) (M' := M9) hS (ps_callV C hW pc_0 mf_X0_costOfChange tq_809 tq_27 tq_807 ⟨Nat.le_of_ble_eq_true rfl, Nat.le_of_ble_eq_true rfl⟩ rfl rfl (As := [.int x1, .int x2]) (rest := [.int xv1]) (c_X0_costOfChange hc) hK rfl hl.1 rfl (Nat.le_of_ble_eq_true rfl) dX0_weighAhead_9 ⟨Nat.le_of_ble_eq_true rfl, Nat.le_of_ble_eq_true rfl⟩) (fun H locs hW hS => ?_)
  clear hc
  generalize M9 = M at hW hF
  refine va_mmin hx hb (hml.trans hl.1.symm) hown (hts _ tq_785) (hts _ tq_602) (hts _ tq_65) (hts _ tq_603) (Nat.le_of_ble_eq_true rfl) (Nat.le_of_ble_eq_true rfl) (Nat.le_of_ble_eq_true rfl) (Nat.le_of_ble_eq_true rfl) dX0_weighAhead_12 ?_
  refine pw_v hF (fun xv3 hF => ?_)
  refine lv_istore_n (lv' := [(3, .int xv3), (0, .ref (B + a0)), (1, .int x1), (2, .int x2)]) hx hb dX0_weighAhead_15 rfl hl (by decide) rfl (fun ls hl => ?_)
  refine lv_aload_n hx hb dX0_weighAhead_16 rfl (lv_at hl 1 rfl) ?_
  refine pw_gR C hW pc_0 (k := 5) (by decide) rfl tq_358 dX0_weighAhead_17 hF (fun av4 hF => ?_)
  refine lv_iload_n hx hb dX0_weighAhead_20 rfl (lv_at hl 2 rfl) ?_
  refine lv_iload_n hx hb dX0_weighAhead_21 rfl (lv_at hl 3 rfl) ?_
  obtain ⟨xv5, M9, hc, hF⟩ := ps_b2_some hF
  refine ps_backI (x0 := xv5) (M' := M9) hS (ps_callS C hW mf_X0_place tq_804 tq_803 ⟨Nat.le_of_ble_eq_true rfl, Nat.le_of_ble_eq_true rfl⟩ rfl rfl (As := [.int x1, .int x2]) (rest := [.ref (B + av4)]) (c_X0_place hc) rfl hl.1 rfl (Nat.le_of_ble_eq_true rfl) dX0_weighAhead_22 ⟨Nat.le_of_ble_eq_true rfl, Nat.le_of_ble_eq_true rfl⟩) (fun H locs hW hS => ?_)
  clear hc
  generalize M9 = M at hW hF
  refine lv_sipush (v := 1000) hx hb dX0_weighAhead_25 (by decide) ?_
  refine lv_iload_n hx hb dX0_weighAhead_28 rfl (lv_at hl 0 rfl) ?_
  refine va_mmin hx hb (hml.trans hl.1.symm) hown (hts _ tq_785) (hts _ tq_602) (hts _ tq_65) (hts _ tq_603) (Nat.le_of_ble_eq_true rfl) (Nat.le_of_ble_eq_true rfl) (Nat.le_of_ble_eq_true rfl) (Nat.le_of_ble_eq_true rfl) dX0_weighAhead_29 ?_
  refine pw_v hF (fun xv6 hF => ?_)
  obtain ⟨M9, hc, hF⟩ := ps_b1_some hF
  refine ps_backV (M' := M9) hS (ps_callS C hW mf_X4_put tq_440 tq_811 ⟨Nat.le_of_ble_eq_true rfl, Nat.le_of_ble_eq_true rfl⟩ rfl rfl (As := [.ref (B + av4), .int xv5, .int xv6]) (rest := []) (c_X4_put hc) rfl hl.1 rfl (Nat.le_of_ble_eq_true rfl) dX0_weighAhead_32 ⟨Nat.le_of_ble_eq_true rfl, Nat.le_of_ble_eq_true rfl⟩) (fun H locs hW hS => ?_)
  clear hc
  generalize M9 = M at hW hF
  exact pw_vret C hW hS dX0_weighAhead_35 hF
theorem mf_X0_weighAhead : ps_mf yX0_weighAhead cX0_weighAhead 4 none 2 := ⟨tq_793, tq_69, by decide +kernel, by decide +kernel, by decide +kernel⟩
theorem c_X0_weighAhead {l : Launch} {D : va_G} {Y : ps_A} {B : Nat} {M : ps_M} {a0 : Nat} {x1 : Int32} {x2 : Int32} {M' : ps_M} (hF : f_X0_weighAhead M a0 x1 x2 = some M') : Met l yX0_weighAhead (Cond.code yX0_weighAhead cX0_weighAhead 4 none :: tb_G) rm_X0_weighAhead (ps_PB D Y B M [.ref (B + a0), .int x1, .int x2]) (va_Qv (fun (_ : Unit) => True) (fun _ t => ps_St D Y B M' t) (fun q => B ≤ q)) 0 0 (fun q => B ≤ q) :=
  pm_of (by decide +kernel) (Nat.le_of_ble_eq_true rfl) (fun p e s m args below meth c C hW hS ls hl => kb_X0_weighAhead C hF hW hS hl)

abbrev rm_X0_weigh : Room := { frames := 4, cells := 0, slots := 0, locals := 88 }
def f_X0_weigh_b103 (k39 : ps_M → Nat → Int32 → Option (ps_M)) (M : ps_M) (a0 : Nat) (x5 : Int32) : Option (ps_M) := ps_v (x5 + (-1)) (fun xv1 => k39 M a0 xv1)
def f_X0_weigh_w53 (k39 : ps_M → Nat → Int32 → Option (ps_M)) (k53 : ps_M → Nat → Int32 → Int32 → Option (ps_M)) (M : ps_M) (a0 : Nat) (x5 : Int32) (x6 : Int32) : Option (ps_M) := if x5 < x6 then (ps_ck M a0 0 (ps_b2 (f_X0_costOfChange M a0 x5 (1 : Int32)) (fun xv3 M => ps_ck M a0 0 (ps_b2 (f_X0_costOfStay M a0 x5 (1 : Int32)) (fun xv4 M => if xv4 ≤ xv3 then (f_X0_weigh_b103 k39 M a0 x5) else (ps_pI M a0 0 1 x5 (fun M => f_X0_weigh_b103 k39 M a0 x5))))))) else (ps_ck M a0 0 (ps_b1 (f_X0_weighAhead M a0 x6 (1 : Int32)) (fun M => ps_ck M a0 0 (ps_b1 (f_X0_weighAhead M a0 x6 (-1 : Int32)) (fun M => ps_v (x6 + 1) (fun xv6 => k53 M a0 x5 xv6))))))
def f_X0_weigh_l53 (k39 : ps_M → Nat → Int32 → Option (ps_M)) : Nat → ps_M → Nat → Int32 → Int32 → Option (ps_M)
  | 0, _, _, _, _ => none
  | n + 1, M, a0, x5, x6 => f_X0_weigh_w53 k39 (f_X0_weigh_l53 k39 n) M a0 x5 x6
def f_X0_weigh_b145 (M : ps_M)  : Option (ps_M) := some M
def f_X0_weigh_w39 (k39 : ps_M → Nat → Int32 → Option (ps_M)) (M : ps_M) (a0 : Nat) (x5 : Int32) : Option (ps_M) := if x5 < 0 then (ps_gR M a0 0 5 (fun av8 => ps_b2 (f_X0_place M (0 : Int32) (1 : Int32)) (fun xv9 M => ps_b2 (f_X4_at M av8 xv9) (fun xv10 M => ps_pI M a0 0 0 xv10 (fun M => ps_gI M a0 0 0 (fun xv11 => if xv11 < (1000 : Int32) then (f_X0_weigh_b145 M ) else (ps_pI M a0 0 0 (-1 : Int32) (fun M => ps_pI M a0 0 1 (-1 : Int32) (fun M => f_X0_weigh_b145 M ))))))))) else (ps_ck M a0 0 (ps_b1 (f_X0_stepBack M a0 ) (fun M => ps_v ((-x5)) (fun xv13 => f_X0_weigh_l53 k39 ps_fu M a0 x5 xv13))))
def f_X0_weigh_l39 : Nat → ps_M → Nat → Int32 → Option (ps_M)
  | 0, _, _, _ => none
  | n + 1, M, a0, x5 => f_X0_weigh_w39 (f_X0_weigh_l39 n) M a0 x5
def f_X0_weigh (M : ps_M) (a0 : Nat) (x1 : Int32) (x2 : Int32) (x3 : Int32) (x4 : Int32) : Option (ps_M) := ps_pI M a0 0 2 x1 (fun M => ps_pI M a0 0 3 x2 (fun M => ps_pI M a0 0 4 x4 (fun M => ps_pI M a0 0 1 (-1 : Int32) (fun M => ps_gR M a0 0 5 (fun av14 => ps_b1 (f_X4_fill M av14 (0 : Int32)) (fun M => ps_v (if (30 : Int32) < x3 then (30 : Int32) else x3) (fun xv15 => ps_v ((xv15 - (1 : Int32))) (fun xv16 => f_X0_weigh_l39 ps_fu M a0 xv16))))))))
set_option maxRecDepth 100000 in
set_option maxHeartbeats 4000000 in
theorem kb_X0_weigh_b103 (C : ps_C p s m args meth c cX0_weigh 7 RX0 none "weigh" D Y B) {q : ps_M} (k39 : ps_M → Nat → Int32 → Option (ps_M)) (hk39 : ∀ (M : ps_M) (H : Heap) (locs : List Loc) (ls : Array Slot) (a0 : Nat) (x5 : Int32), k39 M a0 x5 = some q → ps_W D Y B M H → va_S (fun q => B ≤ q) s.heap H locs → lv_has ls 7 [(0, .ref (B + a0)), (5, .int x5)] → W p l e rm_X0_weigh s m args below meth c H locs 0 0 (ps_Qv D Y B below args s 0 0 q) (F0 m 39 ls [])) {M : ps_M} {a0 : Nat} {x5 : Int32} (hF : f_X0_weigh_b103 k39 M a0 x5 = some q) (hW : ps_W D Y B M H) (hS : va_S (fun q => B ≤ q) s.heap H locs) (hl : lv_has ls 7 [(0, .ref (B + a0)), (5, .int x5)]) : W p l e rm_X0_weigh s m args below meth c H locs 0 0 (ps_Qv D Y B below args s 0 0 q) (F0 m 103 ls []) := by
  have hx := C.1
  have hb := C.2.1
  have hml := C.2.2.1
  have hown := C.2.2.2.1
  have hts := C.2.2.2.2.1
  unfold f_X0_weigh_b103 at hF
  obtain ⟨xv1, exv1, hF⟩ := ps_ve hF
  refine lv_iinc (v := xv1) (lv' := [(5, .int xv1), (0, .ref (B + a0))]) hx hb dX0_weigh_103 hl (k := 1) rfl (by rw [exv1]; rfl) (by decide) rfl (fun ls hl => ?_)
  clear exv1
  refine lv_goto (tgt := 39) hx hb dX0_weigh_106 (by decide) ?_
  exact hk39 M _ _ _ a0 xv1 hF hW hS (lv_sub hl [1, 0] rfl)
set_option maxRecDepth 100000 in
set_option maxHeartbeats 4000000 in
theorem kb_X0_weigh_w53 (C : ps_C p s m args meth c cX0_weigh 7 RX0 none "weigh" D Y B) {q : ps_M} (k39 : ps_M → Nat → Int32 → Option (ps_M)) (hk39 : ∀ (M : ps_M) (H : Heap) (locs : List Loc) (ls : Array Slot) (a0 : Nat) (x5 : Int32), k39 M a0 x5 = some q → ps_W D Y B M H → va_S (fun q => B ≤ q) s.heap H locs → lv_has ls 7 [(0, .ref (B + a0)), (5, .int x5)] → W p l e rm_X0_weigh s m args below meth c H locs 0 0 (ps_Qv D Y B below args s 0 0 q) (F0 m 39 ls [])) (k53 : ps_M → Nat → Int32 → Int32 → Option (ps_M)) (hk53 : ∀ (M : ps_M) (H : Heap) (locs : List Loc) (ls : Array Slot) (a0 : Nat) (x5 : Int32) (x6 : Int32), k53 M a0 x5 x6 = some q → ps_W D Y B M H → va_S (fun q => B ≤ q) s.heap H locs → lv_has ls 7 [(0, .ref (B + a0)), (5, .int x5), (6, .int x6)] → W p l e rm_X0_weigh s m args below meth c H locs 0 0 (ps_Qv D Y B below args s 0 0 q) (F0 m 53 ls [])) {M : ps_M} {a0 : Nat} {x5 : Int32} {x6 : Int32} (hF : f_X0_weigh_w53 k39 k53 M a0 x5 x6 = some q) (hW : ps_W D Y B M H) (hS : va_S (fun q => B ≤ q) s.heap H locs) (hl : lv_has ls 7 [(0, .ref (B + a0)), (5, .int x5), (6, .int x6)]) : W p l e rm_X0_weigh s m args below meth c H locs 0 0 (ps_Qv D Y B below args s 0 0 q) (F0 m 53 ls []) := by
  have hx := C.1
  have hb := C.2.1
  have hml := C.2.2.1
  have hown := C.2.2.2.1
  have hts := C.2.2.2.2.1
  unfold f_X0_weigh_w53 at hF
  refine lv_iload hx hb dX0_weigh_53 (lv_at hl 2 rfl) ?_
  refine lv_iload hx hb dX0_weigh_55 (lv_at hl 1 rfl) ?_
  refine lv_icmp_gt (tgt := 80) hx hb dX0_weigh_57 (by decide) (fun hv2 => ?_) (fun hv2 => ?_)
  · replace hF := (if_pos hv2).symm.trans hF
    refine lv_aload_n hx hb dX0_weigh_80 rfl (lv_at hl 0 rfl) ?_
    refine lv_iload hx hb dX0_weigh_81 (lv_at hl 1 rfl) ?_
    refine lv_iconst (v := 1) hx hb dX0_weigh_83 (by decide) ?_
    obtain ⟨hK, hF⟩ := ps_ck_some hF
    obtain ⟨xv3, M9, hc, hF⟩ := ps_b2_some hF
    refine ps_backI (x0 := xv3) (M' := M9) hS (ps_callV C hW pc_0 mf_X0_costOfChange tq_809 tq_27 tq_807 ⟨Nat.le_of_ble_eq_true rfl, Nat.le_of_ble_eq_true rfl⟩ rfl rfl (As := [.int x5, .int (1 : Int32)]) (rest := []) (c_X0_costOfChange hc) hK rfl hl.1 rfl (Nat.le_of_ble_eq_true rfl) dX0_weigh_84 ⟨Nat.le_of_ble_eq_true rfl, Nat.le_of_ble_eq_true rfl⟩) (fun H locs hW hS => ?_)
    clear hc
    generalize M9 = M at hW hF
    refine lv_aload_n hx hb dX0_weigh_87 rfl (lv_at hl 0 rfl) ?_
    refine lv_iload hx hb dX0_weigh_88 (lv_at hl 1 rfl) ?_
    refine lv_iconst (v := 1) hx hb dX0_weigh_90 (by decide) ?_
    obtain ⟨hK, hF⟩ := ps_ck_some hF
    obtain ⟨xv4, M9, hc, hF⟩ := ps_b2_some hF
    refine ps_backI (x0 := xv4) (M' := M9) hS (ps_callV C hW pc_0 mf_X0_costOfStay tq_796 tq_25 tq_794 ⟨Nat.le_of_ble_eq_true rfl, Nat.le_of_ble_eq_true rfl⟩ rfl rfl (As := [.int x5, .int (1 : Int32)]) (rest := [.int xv3]) (c_X0_costOfStay hc) hK rfl hl.1 rfl (Nat.le_of_ble_eq_true rfl) dX0_weigh_91 ⟨Nat.le_of_ble_eq_true rfl, Nat.le_of_ble_eq_true rfl⟩) (fun H locs hW hS => ?_)
    clear hc
    generalize M9 = M at hW hF
    refine lv_icmp_ge (tgt := 103) hx hb dX0_weigh_94 (by decide) (fun hv5 => ?_) (fun hv5 => ?_)
    · replace hF := (if_pos hv5).symm.trans hF
      exact kb_X0_weigh_b103 C k39 hk39 hF hW hS (lv_sub hl [0, 1] rfl)
    · replace hF := (if_neg hv5).symm.trans hF
      refine lv_aload_n hx hb dX0_weigh_97 rfl (lv_at hl 0 rfl) ?_
      refine lv_iload hx hb dX0_weigh_98 (lv_at hl 1 rfl) ?_
      refine pw_pI C hW hS pc_0 (k := 1) (by decide) rfl rfl tq_353 rfl dX0_weigh_100 hF (fun M H locs hW hS hF => ?_)
      exact kb_X0_weigh_b103 C k39 hk39 hF hW hS (lv_sub hl [0, 1] rfl)
  · replace hF := (if_neg hv2).symm.trans hF
    refine lv_aload_n hx hb dX0_weigh_60 rfl (lv_at hl 0 rfl) ?_
    refine lv_iload hx hb dX0_weigh_61 (lv_at hl 2 rfl) ?_
    refine lv_iconst (v := 1) hx hb dX0_weigh_63 (by decide) ?_
    obtain ⟨hK, hF⟩ := ps_ck_some hF
    obtain ⟨M9, hc, hF⟩ := ps_b1_some hF
    refine ps_backV (M' := M9) hS (ps_callV C hW pc_0 mf_X0_weighAhead tq_792 tq_24 tq_790 ⟨Nat.le_of_ble_eq_true rfl, Nat.le_of_ble_eq_true rfl⟩ rfl rfl (As := [.int x6, .int (1 : Int32)]) (rest := []) (c_X0_weighAhead hc) hK rfl hl.1 rfl (Nat.le_of_ble_eq_true rfl) dX0_weigh_64 ⟨Nat.le_of_ble_eq_true rfl, Nat.le_of_ble_eq_true rfl⟩) (fun H locs hW hS => ?_)
    clear hc
    generalize M9 = M at hW hF
    refine lv_aload_n hx hb dX0_weigh_67 rfl (lv_at hl 0 rfl) ?_
    refine lv_iload hx hb dX0_weigh_68 (lv_at hl 2 rfl) ?_
    refine lv_iconst (v := -1) hx hb dX0_weigh_70 (by decide) ?_
    obtain ⟨hK, hF⟩ := ps_ck_some hF
    obtain ⟨M9, hc, hF⟩ := ps_b1_some hF
    refine ps_backV (M' := M9) hS (ps_callV C hW pc_0 mf_X0_weighAhead tq_792 tq_24 tq_790 ⟨Nat.le_of_ble_eq_true rfl, Nat.le_of_ble_eq_true rfl⟩ rfl rfl (As := [.int x6, .int (-1 : Int32)]) (rest := []) (c_X0_weighAhead hc) hK rfl hl.1 rfl (Nat.le_of_ble_eq_true rfl) dX0_weigh_71 ⟨Nat.le_of_ble_eq_true rfl, Nat.le_of_ble_eq_true rfl⟩) (fun H locs hW hS => ?_)
    clear hc
    generalize M9 = M at hW hF
    obtain ⟨xv6, exv6, hF⟩ := ps_ve hF
    refine lv_iinc (v := xv6) (lv' := [(6, .int xv6), (0, .ref (B + a0)), (5, .int x5)]) hx hb dX0_weigh_74 hl (k := 2) rfl (by rw [exv6]; rfl) (by decide) rfl (fun ls hl => ?_)
    clear exv6
    refine lv_goto (tgt := 53) hx hb dX0_weigh_77 (by decide) ?_
    exact hk53 M _ _ _ a0 x5 xv6 hF hW hS (lv_sub hl [1, 2, 0] rfl)
theorem kb_X0_weigh_l53 (C : ps_C p s m args meth c cX0_weigh 7 RX0 none "weigh" D Y B) {q : ps_M} (k39 : ps_M → Nat → Int32 → Option (ps_M)) (hk39 : ∀ (M : ps_M) (H : Heap) (locs : List Loc) (ls : Array Slot) (a0 : Nat) (x5 : Int32), k39 M a0 x5 = some q → ps_W D Y B M H → va_S (fun q => B ≤ q) s.heap H locs → lv_has ls 7 [(0, .ref (B + a0)), (5, .int x5)] → W p l e rm_X0_weigh s m args below meth c H locs 0 0 (ps_Qv D Y B below args s 0 0 q) (F0 m 39 ls [])) : ∀ (n : Nat) (M : ps_M) (H : Heap) (locs : List Loc) (ls : Array Slot) (a0 : Nat) (x5 : Int32) (x6 : Int32), f_X0_weigh_l53 k39 n M a0 x5 x6 = some q → ps_W D Y B M H → va_S (fun q => B ≤ q) s.heap H locs → lv_has ls 7 [(0, .ref (B + a0)), (5, .int x5), (6, .int x6)] → W p l e rm_X0_weigh s m args below meth c H locs 0 0 (ps_Qv D Y B below args s 0 0 q) (F0 m 53 ls []) := by
  intro n
  induction n with
  | zero => intro M H locs ls a0 x5 x6 hF; cases hF
  | succ n ih => intro M H locs ls a0 x5 x6 hF hW hS hl; exact kb_X0_weigh_w53 C k39 hk39 (f_X0_weigh_l53 k39 n) ih hF hW hS hl
set_option maxRecDepth 100000 in
set_option maxHeartbeats 4000000 in
theorem kb_X0_weigh_b145 (C : ps_C p s m args meth c cX0_weigh 7 RX0 none "weigh" D Y B) {q : ps_M}  {M : ps_M}  (hF : f_X0_weigh_b145 M  = some q) (hW : ps_W D Y B M H) (hS : va_S (fun q => B ≤ q) s.heap H locs) (hl : lv_has ls 7 []) : W p l e rm_X0_weigh s m args below meth c H locs 0 0 (ps_Qv D Y B below args s 0 0 q) (F0 m 145 ls []) := by
  have hx := C.1
  have hb := C.2.1
  have hml := C.2.2.1
  have hown := C.2.2.2.1
  have hts := C.2.2.2.2.1
  unfold f_X0_weigh_b145 at hF
  exact pw_vret C hW hS dX0_weigh_145 hF
set_option maxRecDepth 100000 in
set_option maxHeartbeats 4000000 in
theorem kb_X0_weigh_w39 (C : ps_C p s m args meth c cX0_weigh 7 RX0 none "weigh" D Y B) {q : ps_M} (k39 : ps_M → Nat → Int32 → Option (ps_M)) (hk39 : ∀ (M : ps_M) (H : Heap) (locs : List Loc) (ls : Array Slot) (a0 : Nat) (x5 : Int32), k39 M a0 x5 = some q → ps_W D Y B M H → va_S (fun q => B ≤ q) s.heap H locs → lv_has ls 7 [(0, .ref (B + a0)), (5, .int x5)] → W p l e rm_X0_weigh s m args below meth c H locs 0 0 (ps_Qv D Y B below args s 0 0 q) (F0 m 39 ls [])) {M : ps_M} {a0 : Nat} {x5 : Int32} (hF : f_X0_weigh_w39 k39 M a0 x5 = some q) (hW : ps_W D Y B M H) (hS : va_S (fun q => B ≤ q) s.heap H locs) (hl : lv_has ls 7 [(0, .ref (B + a0)), (5, .int x5)]) : W p l e rm_X0_weigh s m args below meth c H locs 0 0 (ps_Qv D Y B below args s 0 0 q) (F0 m 39 ls []) := by
  have hx := C.1
  have hb := C.2.1
  have hml := C.2.2.1
  have hown := C.2.2.2.1
  have hts := C.2.2.2.2.1
  unfold f_X0_weigh_w39 at hF
  refine lv_iload hx hb dX0_weigh_39 (lv_at hl 1 rfl) ?_
  refine lv_if_lt (tgt := 109) hx hb dX0_weigh_41 (by decide) (fun hv7 => ?_) (fun hv7 => ?_)
  · replace hF := (if_pos hv7).symm.trans hF
    refine lv_aload_n hx hb dX0_weigh_109 rfl (lv_at hl 0 rfl) ?_
    refine lv_aload_n hx hb dX0_weigh_110 rfl (lv_at hl 0 rfl) ?_
    refine pw_gR C hW pc_0 (k := 5) (by decide) rfl tq_358 dX0_weigh_111 hF (fun av8 hF => ?_)
    refine lv_iconst (v := 0) hx hb dX0_weigh_114 (by decide) ?_
    refine lv_iconst (v := 1) hx hb dX0_weigh_115 (by decide) ?_
    obtain ⟨xv9, M9, hc, hF⟩ := ps_b2_some hF
    refine ps_backI (x0 := xv9) (M' := M9) hS (ps_callS C hW mf_X0_place tq_804 tq_803 ⟨Nat.le_of_ble_eq_true rfl, Nat.le_of_ble_eq_true rfl⟩ rfl rfl (As := [.int (0 : Int32), .int (1 : Int32)]) (rest := [.ref (B + av8), .ref (B + a0)]) (c_X0_place hc) rfl hl.1 rfl (Nat.le_of_ble_eq_true rfl) dX0_weigh_116 ⟨Nat.le_of_ble_eq_true rfl, Nat.le_of_ble_eq_true rfl⟩) (fun H locs hW hS => ?_)
    clear hc
    generalize M9 = M at hW hF
    obtain ⟨xv10, M9, hc, hF⟩ := ps_b2_some hF
    refine ps_backI (x0 := xv10) (M' := M9) hS (ps_callS C hW mf_X4_at tq_549 tq_806 ⟨Nat.le_of_ble_eq_true rfl, Nat.le_of_ble_eq_true rfl⟩ rfl rfl (As := [.ref (B + av8), .int xv9]) (rest := [.ref (B + a0)]) (c_X4_at hc) rfl hl.1 rfl (Nat.le_of_ble_eq_true rfl) dX0_weigh_119 ⟨Nat.le_of_ble_eq_true rfl, Nat.le_of_ble_eq_true rfl⟩) (fun H locs hW hS => ?_)
    clear hc
    generalize M9 = M at hW hF
    refine pw_pI C hW hS pc_0 (k := 0) (by decide) rfl rfl tq_351 rfl dX0_weigh_122 hF (fun M H locs hW hS hF => ?_)
    refine lv_aload_n hx hb dX0_weigh_125 rfl (lv_at hl 0 rfl) ?_
    refine pw_gI C hW pc_0 (k := 0) (by decide) rfl tq_351 dX0_weigh_126 hF (fun xv11 hF => ?_)
    refine lv_sipush (v := 1000) hx hb dX0_weigh_129 (by decide) ?_
    refine lv_icmp_lt (tgt := 145) hx hb dX0_weigh_132 (by decide) (fun hv12 => ?_) (fun hv12 => ?_)
    · replace hF := (if_pos hv12).symm.trans hF
      exact kb_X0_weigh_b145 C hF hW hS (lv_sub hl [] rfl)
    · replace hF := (if_neg hv12).symm.trans hF
      refine lv_aload_n hx hb dX0_weigh_135 rfl (lv_at hl 0 rfl) ?_
      refine lv_iconst (v := -1) hx hb dX0_weigh_136 (by decide) ?_
      refine pw_pI C hW hS pc_0 (k := 0) (by decide) rfl rfl tq_351 rfl dX0_weigh_137 hF (fun M H locs hW hS hF => ?_)
      refine lv_aload_n hx hb dX0_weigh_140 rfl (lv_at hl 0 rfl) ?_
      refine lv_iconst (v := -1) hx hb dX0_weigh_141 (by decide) ?_
      refine pw_pI C hW hS pc_0 (k := 1) (by decide) rfl rfl tq_353 rfl dX0_weigh_142 hF (fun M H locs hW hS hF => ?_)
      exact kb_X0_weigh_b145 C hF hW hS (lv_sub hl [] rfl)
  · replace hF := (if_neg hv7).symm.trans hF
    refine lv_aload_n hx hb dX0_weigh_44 rfl (lv_at hl 0 rfl) ?_
    obtain ⟨hK, hF⟩ := ps_ck_some hF
    obtain ⟨M9, hc, hF⟩ := ps_b1_some hF
    refine ps_backV (M' := M9) hS (ps_callV C hW pc_0 mf_X0_stepBack tq_788 tq_23 tq_786 ⟨Nat.le_of_ble_eq_true rfl, Nat.le_of_ble_eq_true rfl⟩ rfl rfl (As := []) (rest := []) (c_X0_stepBack hc) hK rfl hl.1 rfl (Nat.le_of_ble_eq_true rfl) dX0_weigh_45 ⟨Nat.le_of_ble_eq_true rfl, Nat.le_of_ble_eq_true rfl⟩) (fun H locs hW hS => ?_)
    clear hc
    generalize M9 = M at hW hF
    refine lv_iload hx hb dX0_weigh_48 (lv_at hl 1 rfl) ?_
    refine lv_ineg hx hb dX0_weigh_50 ?_
    refine pw_v hF (fun xv13 hF => ?_)
    refine lv_istore (lv' := [(6, .int xv13), (0, .ref (B + a0)), (5, .int x5)]) hx hb dX0_weigh_51 hl (by decide) rfl (fun ls hl => ?_)
    exact kb_X0_weigh_l53 C k39 hk39 ps_fu M _ _ _ a0 x5 xv13 hF hW hS (lv_sub hl [1, 2, 0] rfl)
theorem kb_X0_weigh_l39 (C : ps_C p s m args meth c cX0_weigh 7 RX0 none "weigh" D Y B) {q : ps_M}  : ∀ (n : Nat) (M : ps_M) (H : Heap) (locs : List Loc) (ls : Array Slot) (a0 : Nat) (x5 : Int32), f_X0_weigh_l39 n M a0 x5 = some q → ps_W D Y B M H → va_S (fun q => B ≤ q) s.heap H locs → lv_has ls 7 [(0, .ref (B + a0)), (5, .int x5)] → W p l e rm_X0_weigh s m args below meth c H locs 0 0 (ps_Qv D Y B below args s 0 0 q) (F0 m 39 ls []) := by
  intro n
  induction n with
  | zero => intro M H locs ls a0 x5 hF; cases hF
  | succ n ih => intro M H locs ls a0 x5 hF hW hS hl; exact kb_X0_weigh_w39 C  (f_X0_weigh_l39 n) ih hF hW hS hl
set_option maxRecDepth 100000 in
set_option maxHeartbeats 4000000 in
theorem kb_X0_weigh (C : ps_C p s m args meth c cX0_weigh 7 RX0 none "weigh" D Y B) {q : ps_M}  {M : ps_M} {a0 : Nat} {x1 : Int32} {x2 : Int32} {x3 : Int32} {x4 : Int32} (hF : f_X0_weigh M a0 x1 x2 x3 x4 = some q) (hW : ps_W D Y B M H) (hS : va_S (fun q => B ≤ q) s.heap H locs) (hl : lv_has ls 7 [(0, .ref (B + a0)), (1, .int x1), (2, .int x2), (3, .int x3), (4, .int x4)]) : W p l e rm_X0_weigh s m args below meth c H locs 0 0 (ps_Qv D Y B below args s 0 0 q) (F0 m 0 ls []) := by
  have hx := C.1
  have hb := C.2.1
  have hml := C.2.2.1
  have hown := C.2.2.2.1
  have hts := C.2.2.2.2.1
  unfold f_X0_weigh at hF
  refine lv_aload_n hx hb dX0_weigh_0 rfl (lv_at hl 0 rfl) ?_
  refine lv_iload_n hx hb dX0_weigh_1 rfl (lv_at hl 1 rfl) ?_
  refine pw_pI C hW hS pc_0 (k := 2) (by decide) rfl rfl tq_355 rfl dX0_weigh_2 hF (fun M H locs hW hS hF => ?_)
  refine lv_aload_n hx hb dX0_weigh_5 rfl (lv_at hl 0 rfl) ?_
  refine lv_iload_n hx hb dX0_weigh_6 rfl (lv_at hl 2 rfl) ?_
  refine pw_pI C hW hS pc_0 (k := 3) (by decide) rfl rfl tq_356 rfl dX0_weigh_7 hF (fun M H locs hW hS hF => ?_)
  refine lv_aload_n hx hb dX0_weigh_10 rfl (lv_at hl 0 rfl) ?_
  refine lv_iload hx hb dX0_weigh_11 (lv_at hl 4 rfl) ?_
  refine pw_pI C hW hS pc_0 (k := 4) (by decide) rfl rfl tq_357 rfl dX0_weigh_13 hF (fun M H locs hW hS hF => ?_)
  refine lv_aload_n hx hb dX0_weigh_16 rfl (lv_at hl 0 rfl) ?_
  refine lv_iconst (v := -1) hx hb dX0_weigh_17 (by decide) ?_
  refine pw_pI C hW hS pc_0 (k := 1) (by decide) rfl rfl tq_353 rfl dX0_weigh_18 hF (fun M H locs hW hS hF => ?_)
  refine lv_aload_n hx hb dX0_weigh_21 rfl (lv_at hl 0 rfl) ?_
  refine pw_gR C hW pc_0 (k := 5) (by decide) rfl tq_358 dX0_weigh_22 hF (fun av14 hF => ?_)
  refine lv_iconst (v := 0) hx hb dX0_weigh_25 (by decide) ?_
  obtain ⟨M9, hc, hF⟩ := ps_b1_some hF
  refine ps_backV (M' := M9) hS (ps_callS C hW mf_X4_fill tq_519 tq_784 ⟨Nat.le_of_ble_eq_true rfl, Nat.le_of_ble_eq_true rfl⟩ rfl rfl (As := [.ref (B + av14), .int (0 : Int32)]) (rest := []) (c_X4_fill hc) rfl hl.1 rfl (Nat.le_of_ble_eq_true rfl) dX0_weigh_26 ⟨Nat.le_of_ble_eq_true rfl, Nat.le_of_ble_eq_true rfl⟩) (fun H locs hW hS => ?_)
  clear hc
  generalize M9 = M at hW hF
  refine lv_iload_n hx hb dX0_weigh_29 rfl (lv_at hl 3 rfl) ?_
  refine lv_bipush (v := 30) hx hb dX0_weigh_30 (by decide) ?_
  refine va_mmin hx hb (hml.trans hl.1.symm) hown (hts _ tq_785) (hts _ tq_602) (hts _ tq_65) (hts _ tq_603) (Nat.le_of_ble_eq_true rfl) (Nat.le_of_ble_eq_true rfl) (Nat.le_of_ble_eq_true rfl) (Nat.le_of_ble_eq_true rfl) dX0_weigh_32 ?_
  refine pw_v hF (fun xv15 hF => ?_)
  refine lv_iconst (v := 1) hx hb dX0_weigh_35 (by decide) ?_
  refine lv_isub hx hb dX0_weigh_36 ?_
  refine pw_v hF (fun xv16 hF => ?_)
  refine lv_istore (lv' := [(5, .int xv16), (0, .ref (B + a0)), (1, .int x1), (2, .int x2), (3, .int x3), (4, .int x4)]) hx hb dX0_weigh_37 hl (by decide) rfl (fun ls hl => ?_)
  exact kb_X0_weigh_l39 C ps_fu M _ _ _ a0 xv16 hF hW hS (lv_sub hl [1, 0] rfl)
theorem mf_X0_weigh : ps_mf yX0_weigh cX0_weigh 7 none 4 := ⟨tq_783, tq_69, by decide +kernel, by decide +kernel, by decide +kernel⟩
theorem c_X0_weigh {l : Launch} {D : va_G} {Y : ps_A} {B : Nat} {M : ps_M} {a0 : Nat} {x1 : Int32} {x2 : Int32} {x3 : Int32} {x4 : Int32} {M' : ps_M} (hF : f_X0_weigh M a0 x1 x2 x3 x4 = some M') : Met l yX0_weigh (Cond.code yX0_weigh cX0_weigh 7 none :: tb_G) rm_X0_weigh (ps_PB D Y B M [.ref (B + a0), .int x1, .int x2, .int x3, .int x4]) (va_Qv (fun (_ : Unit) => True) (fun _ t => ps_St D Y B M' t) (fun q => B ≤ q)) 0 0 (fun q => B ≤ q) :=
  pm_of (by decide +kernel) (Nat.le_of_ble_eq_true rfl) (fun p e s m args below meth c C hW hS ls hl => kb_X0_weigh C hF hW hS hl)

abbrev rm_X2_clear : Room := { frames := 0, cells := 0, slots := 0, locals := 0 }
def f_X2_clear (M : ps_M) (a0 : Nat) : Option (ps_M) := ps_pI M a0 2 0 (0 : Int32) (fun M => some M)
set_option maxRecDepth 100000 in
set_option maxHeartbeats 4000000 in
theorem kb_X2_clear (C : ps_C p s m args meth c cX2_clear 1 RX2 none "clear" D Y B) {q : ps_M}  {M : ps_M} {a0 : Nat} (hF : f_X2_clear M a0 = some q) (hW : ps_W D Y B M H) (hS : va_S (fun q => B ≤ q) s.heap H locs) (hl : lv_has ls 1 [(0, .ref (B + a0))]) : W p l e rm_X2_clear s m args below meth c H locs 0 0 (ps_Qv D Y B below args s 0 0 q) (F0 m 0 ls []) := by
  have hx := C.1
  have hb := C.2.1
  have hml := C.2.2.1
  have hown := C.2.2.2.1
  have hts := C.2.2.2.2.1
  unfold f_X2_clear at hF
  refine lv_aload_n hx hb dX2_clear_0 rfl (lv_at hl 0 rfl) ?_
  refine lv_iconst (v := 0) hx hb dX2_clear_1 (by decide) ?_
  refine pw_pI C hW hS pc_2 (k := 0) (by decide) rfl rfl tq_291 rfl dX2_clear_2 hF (fun M H locs hW hS hF => ?_)
  exact pw_vret C hW hS dX2_clear_5 hF
theorem mf_X2_clear : ps_mf yX2_clear cX2_clear 1 none 0 := ⟨tq_526, tq_67, by decide +kernel, by decide +kernel, by decide +kernel⟩
theorem c_X2_clear {l : Launch} {D : va_G} {Y : ps_A} {B : Nat} {M : ps_M} {a0 : Nat} {M' : ps_M} (hF : f_X2_clear M a0 = some M') : Met l yX2_clear (Cond.code yX2_clear cX2_clear 1 none :: tb_G) rm_X2_clear (ps_PB D Y B M [.ref (B + a0)]) (va_Qv (fun (_ : Unit) => True) (fun _ t => ps_St D Y B M' t) (fun q => B ≤ q)) 0 0 (fun q => B ≤ q) :=
  pm_of (by decide +kernel) (Nat.le_of_ble_eq_true rfl) (fun p e s m args below meth c C hW hS ls hl => kb_X2_clear C hF hW hS hl)

abbrev rm_X2_placeAt : Room := { frames := 0, cells := 0, slots := 0, locals := 0 }
def f_X2_placeAt_b23 (M : ps_M) (t0 : Nat) : Option (Nat × ps_M) := some (t0, M)
def f_X2_placeAt_b22 (M : ps_M)  : Option (Nat × ps_M) := f_X2_placeAt_b23 M 0
def f_X2_placeAt (M : ps_M) (a0 : Nat) (x1 : Int32) : Option (Nat × ps_M) := if x1 < 0 then (f_X2_placeAt_b22 M ) else (ps_gR M a0 2 2 (fun av2 => ps_aL M av2 (fun xv3 => if xv3 ≤ x1 then (f_X2_placeAt_b22 M ) else (ps_gR M a0 2 2 (fun av5 => ps_aR M av5 x1 (fun ev6 => f_X2_placeAt_b23 M ev6))))))
set_option maxRecDepth 100000 in
set_option maxHeartbeats 4000000 in
theorem kb_X2_placeAt_b23 (C : ps_C p s m args meth c cX2_placeAt 2 RX2 ((some (.object "PullSaw$Work"))) "placeAt" D Y B) {q : Nat × ps_M}  {M : ps_M} {t0 : Nat} (hF : f_X2_placeAt_b23 M t0 = some q) (hW : ps_W D Y B M H) (hS : va_S (fun q => B ≤ q) s.heap H locs) (hl : lv_has ls 2 []) : W p l e rm_X2_placeAt s m args below meth c H locs 0 0 (ps_Qq D Y B below args s 0 0 q) (F0 m 23 ls [va_rf (ps_o B t0)]) := by
  have hx := C.1
  have hb := C.2.1
  have hml := C.2.2.1
  have hown := C.2.2.2.1
  have hts := C.2.2.2.2.1
  unfold f_X2_placeAt_b23 at hF
  exact pw_qret C hW hS dX2_placeAt_23 hF
set_option maxRecDepth 100000 in
set_option maxHeartbeats 4000000 in
theorem kb_X2_placeAt_b22 (C : ps_C p s m args meth c cX2_placeAt 2 RX2 ((some (.object "PullSaw$Work"))) "placeAt" D Y B) {q : Nat × ps_M}  {M : ps_M}  (hF : f_X2_placeAt_b22 M  = some q) (hW : ps_W D Y B M H) (hS : va_S (fun q => B ≤ q) s.heap H locs) (hl : lv_has ls 2 []) : W p l e rm_X2_placeAt s m args below meth c H locs 0 0 (ps_Qq D Y B below args s 0 0 q) (F0 m 22 ls []) := by
  have hx := C.1
  have hb := C.2.1
  have hml := C.2.2.1
  have hown := C.2.2.2.1
  have hts := C.2.2.2.2.1
  unfold f_X2_placeAt_b22 at hF
  refine lv_null hx hb dX2_placeAt_22 ?_
  exact kb_X2_placeAt_b23 C hF hW hS (lv_sub hl [] rfl)
set_option maxRecDepth 100000 in
set_option maxHeartbeats 4000000 in
theorem kb_X2_placeAt (C : ps_C p s m args meth c cX2_placeAt 2 RX2 ((some (.object "PullSaw$Work"))) "placeAt" D Y B) {q : Nat × ps_M}  {M : ps_M} {a0 : Nat} {x1 : Int32} (hF : f_X2_placeAt M a0 x1 = some q) (hW : ps_W D Y B M H) (hS : va_S (fun q => B ≤ q) s.heap H locs) (hl : lv_has ls 2 [(0, .ref (B + a0)), (1, .int x1)]) : W p l e rm_X2_placeAt s m args below meth c H locs 0 0 (ps_Qq D Y B below args s 0 0 q) (F0 m 0 ls []) := by
  have hx := C.1
  have hb := C.2.1
  have hml := C.2.2.1
  have hown := C.2.2.2.1
  have hts := C.2.2.2.2.1
  unfold f_X2_placeAt at hF
  refine lv_iload_n hx hb dX2_placeAt_0 rfl (lv_at hl 1 rfl) ?_
  refine lv_if_lt (tgt := 22) hx hb dX2_placeAt_1 (by decide) (fun hv1 => ?_) (fun hv1 => ?_)
  · replace hF := (if_pos hv1).symm.trans hF
    exact kb_X2_placeAt_b22 C hF hW hS (lv_sub hl [] rfl)
  · replace hF := (if_neg hv1).symm.trans hF
    refine lv_iload_n hx hb dX2_placeAt_4 rfl (lv_at hl 1 rfl) ?_
    refine lv_aload_n hx hb dX2_placeAt_5 rfl (lv_at hl 0 rfl) ?_
    refine pw_gR C hW pc_2 (k := 2) (by decide) rfl tq_294 dX2_placeAt_6 hF (fun av2 hF => ?_)
    refine pw_aL C hW dX2_placeAt_9 hF (fun xv3 hF => ?_)
    refine lv_icmp_ge (tgt := 22) hx hb dX2_placeAt_10 (by decide) (fun hv4 => ?_) (fun hv4 => ?_)
    · replace hF := (if_pos hv4).symm.trans hF
      exact kb_X2_placeAt_b22 C hF hW hS (lv_sub hl [] rfl)
    · replace hF := (if_neg hv4).symm.trans hF
      refine lv_aload_n hx hb dX2_placeAt_13 rfl (lv_at hl 0 rfl) ?_
      refine pw_gR C hW pc_2 (k := 2) (by decide) rfl tq_294 dX2_placeAt_14 hF (fun av5 hF => ?_)
      refine lv_iload_n hx hb dX2_placeAt_17 rfl (lv_at hl 1 rfl) ?_
      refine pw_aR C hW dX2_placeAt_18 hF (fun ev6 hF => ?_)
      refine lv_goto (tgt := 23) hx hb dX2_placeAt_19 (by decide) ?_
      exact kb_X2_placeAt_b23 C hF hW hS (lv_sub hl [] rfl)
theorem mf_X2_placeAt : ps_mf yX2_placeAt cX2_placeAt 2 ((some (.object "PullSaw$Work"))) 1 := ⟨tq_596, tq_67, by decide +kernel, by decide +kernel, by decide +kernel⟩
theorem c_X2_placeAt {l : Launch} {D : va_G} {Y : ps_A} {B : Nat} {M : ps_M} {a0 : Nat} {x1 : Int32} {r : Nat} {M' : ps_M} (hF : f_X2_placeAt M a0 x1 = some (r, M')) : Met l yX2_placeAt (Cond.code yX2_placeAt cX2_placeAt 2 ((some (.object "PullSaw$Work"))) :: tb_G) rm_X2_placeAt (ps_PB D Y B M [.ref (B + a0), .int x1]) (va_Qq (fun x (_ : Unit) => x = ps_o B r) (fun _ t => ps_St D Y B M' t) (fun q => B ≤ q)) 0 0 (fun q => B ≤ q) :=
  pm_of (by decide +kernel) (Nat.le_of_ble_eq_true rfl) (fun p e s m args below meth c C hW hS ls hl => kb_X2_placeAt C hF hW hS hl)

abbrev rm_X4_copy : Room := { frames := 0, cells := 0, slots := 0, locals := 0 }
def f_X4_copy_b26 (M : ps_M)  : Option (ps_M) := some M
def f_X4_copy_w2 (k2 : ps_M → Nat → Nat → Int32 → Option (ps_M)) (M : ps_M) (a0 : Nat) (a1 : Nat) (x2 : Int32) : Option (ps_M) := ps_aL M a0 (fun xv1 => if xv1 ≤ x2 then (f_X4_copy_b26 M ) else (ps_aL M a1 (fun xv3 => if xv3 ≤ x2 then (f_X4_copy_b26 M ) else (ps_aI M a0 x2 (fun xv5 => ps_xI M a1 x2 xv5 (fun M => ps_v (x2 + 1) (fun xv6 => k2 M a0 a1 xv6)))))))
def f_X4_copy_l2 : Nat → ps_M → Nat → Nat → Int32 → Option (ps_M)
  | 0, _, _, _, _ => none
  | n + 1, M, a0, a1, x2 => f_X4_copy_w2 (f_X4_copy_l2 n) M a0 a1 x2
def f_X4_copy (M : ps_M) (a0 : Nat) (a1 : Nat) : Option (ps_M) := f_X4_copy_l2 ps_fu M a0 a1 (0 : Int32)
set_option maxRecDepth 100000 in
set_option maxHeartbeats 4000000 in
theorem kb_X4_copy_b26 (C : ps_C p s m args meth c cX4_copy 3 RX4 none "copy" D Y B) {q : ps_M}  {M : ps_M}  (hF : f_X4_copy_b26 M  = some q) (hW : ps_W D Y B M H) (hS : va_S (fun q => B ≤ q) s.heap H locs) (hl : lv_has ls 3 []) : W p l e rm_X4_copy s m args below meth c H locs 0 0 (ps_Qv D Y B below args s 0 0 q) (F0 m 26 ls []) := by
  have hx := C.1
  have hb := C.2.1
  have hml := C.2.2.1
  have hown := C.2.2.2.1
  have hts := C.2.2.2.2.1
  unfold f_X4_copy_b26 at hF
  exact pw_vret C hW hS dX4_copy_26 hF
set_option maxRecDepth 100000 in
set_option maxHeartbeats 4000000 in
theorem kb_X4_copy_w2 (C : ps_C p s m args meth c cX4_copy 3 RX4 none "copy" D Y B) {q : ps_M} (k2 : ps_M → Nat → Nat → Int32 → Option (ps_M)) (hk2 : ∀ (M : ps_M) (H : Heap) (locs : List Loc) (ls : Array Slot) (a0 : Nat) (a1 : Nat) (x2 : Int32), k2 M a0 a1 x2 = some q → ps_W D Y B M H → va_S (fun q => B ≤ q) s.heap H locs → lv_has ls 3 [(0, .ref (B + a0)), (1, .ref (B + a1)), (2, .int x2)] → W p l e rm_X4_copy s m args below meth c H locs 0 0 (ps_Qv D Y B below args s 0 0 q) (F0 m 2 ls [])) {M : ps_M} {a0 : Nat} {a1 : Nat} {x2 : Int32} (hF : f_X4_copy_w2 k2 M a0 a1 x2 = some q) (hW : ps_W D Y B M H) (hS : va_S (fun q => B ≤ q) s.heap H locs) (hl : lv_has ls 3 [(0, .ref (B + a0)), (1, .ref (B + a1)), (2, .int x2)]) : W p l e rm_X4_copy s m args below meth c H locs 0 0 (ps_Qv D Y B below args s 0 0 q) (F0 m 2 ls []) := by
  have hx := C.1
  have hb := C.2.1
  have hml := C.2.2.1
  have hown := C.2.2.2.1
  have hts := C.2.2.2.2.1
  unfold f_X4_copy_w2 at hF
  refine lv_iload_n hx hb dX4_copy_2 rfl (lv_at hl 2 rfl) ?_
  refine lv_aload_n hx hb dX4_copy_3 rfl (lv_at hl 0 rfl) ?_
  refine pw_aL C hW dX4_copy_4 hF (fun xv1 hF => ?_)
  refine lv_icmp_ge (tgt := 26) hx hb dX4_copy_5 (by decide) (fun hv2 => ?_) (fun hv2 => ?_)
  · replace hF := (if_pos hv2).symm.trans hF
    exact kb_X4_copy_b26 C hF hW hS (lv_sub hl [] rfl)
  · replace hF := (if_neg hv2).symm.trans hF
    refine lv_iload_n hx hb dX4_copy_8 rfl (lv_at hl 2 rfl) ?_
    refine lv_aload_n hx hb dX4_copy_9 rfl (lv_at hl 1 rfl) ?_
    refine pw_aL C hW dX4_copy_10 hF (fun xv3 hF => ?_)
    refine lv_icmp_ge (tgt := 26) hx hb dX4_copy_11 (by decide) (fun hv4 => ?_) (fun hv4 => ?_)
    · replace hF := (if_pos hv4).symm.trans hF
      exact kb_X4_copy_b26 C hF hW hS (lv_sub hl [] rfl)
    · replace hF := (if_neg hv4).symm.trans hF
      refine lv_aload_n hx hb dX4_copy_14 rfl (lv_at hl 1 rfl) ?_
      refine lv_iload_n hx hb dX4_copy_15 rfl (lv_at hl 2 rfl) ?_
      refine lv_aload_n hx hb dX4_copy_16 rfl (lv_at hl 0 rfl) ?_
      refine lv_iload_n hx hb dX4_copy_17 rfl (lv_at hl 2 rfl) ?_
      refine pw_aI C hW dX4_copy_18 hF (fun xv5 hF => ?_)
      refine pw_xI C hW hS dX4_copy_19 hF (fun M H locs hW hS hF => ?_)
      obtain ⟨xv6, exv6, hF⟩ := ps_ve hF
      refine lv_iinc (v := xv6) (lv' := [(2, .int xv6), (0, .ref (B + a0)), (1, .ref (B + a1))]) hx hb dX4_copy_20 hl (k := 2) rfl (by rw [exv6]; rfl) (by decide) rfl (fun ls hl => ?_)
      clear exv6
      refine lv_goto (tgt := 2) hx hb dX4_copy_23 (by decide) ?_
      exact hk2 M _ _ _ a0 a1 xv6 hF hW hS (lv_sub hl [1, 2, 0] rfl)
theorem kb_X4_copy_l2 (C : ps_C p s m args meth c cX4_copy 3 RX4 none "copy" D Y B) {q : ps_M}  : ∀ (n : Nat) (M : ps_M) (H : Heap) (locs : List Loc) (ls : Array Slot) (a0 : Nat) (a1 : Nat) (x2 : Int32), f_X4_copy_l2 n M a0 a1 x2 = some q → ps_W D Y B M H → va_S (fun q => B ≤ q) s.heap H locs → lv_has ls 3 [(0, .ref (B + a0)), (1, .ref (B + a1)), (2, .int x2)] → W p l e rm_X4_copy s m args below meth c H locs 0 0 (ps_Qv D Y B below args s 0 0 q) (F0 m 2 ls []) := by
  intro n
  induction n with
  | zero => intro M H locs ls a0 a1 x2 hF; cases hF
  | succ n ih => intro M H locs ls a0 a1 x2 hF hW hS hl; exact kb_X4_copy_w2 C  (f_X4_copy_l2 n) ih hF hW hS hl
set_option maxRecDepth 100000 in
set_option maxHeartbeats 4000000 in
theorem kb_X4_copy (C : ps_C p s m args meth c cX4_copy 3 RX4 none "copy" D Y B) {q : ps_M}  {M : ps_M} {a0 : Nat} {a1 : Nat} (hF : f_X4_copy M a0 a1 = some q) (hW : ps_W D Y B M H) (hS : va_S (fun q => B ≤ q) s.heap H locs) (hl : lv_has ls 3 [(0, .ref (B + a0)), (1, .ref (B + a1))]) : W p l e rm_X4_copy s m args below meth c H locs 0 0 (ps_Qv D Y B below args s 0 0 q) (F0 m 0 ls []) := by
  have hx := C.1
  have hb := C.2.1
  have hml := C.2.2.1
  have hown := C.2.2.2.1
  have hts := C.2.2.2.2.1
  unfold f_X4_copy at hF
  refine lv_iconst (v := 0) hx hb dX4_copy_0 (by decide) ?_
  refine lv_istore_n (lv' := [(2, .int (0 : Int32)), (0, .ref (B + a0)), (1, .ref (B + a1))]) hx hb dX4_copy_1 rfl hl (by decide) rfl (fun ls hl => ?_)
  exact kb_X4_copy_l2 C ps_fu M _ _ _ a0 a1 (0 : Int32) hF hW hS (lv_sub hl [1, 2, 0] rfl)
theorem mf_X4_copy : ps_mf yX4_copy cX4_copy 3 none 2 := ⟨tq_509, tq_72, by decide +kernel, by decide +kernel, by decide +kernel⟩
theorem c_X4_copy {l : Launch} {D : va_G} {Y : ps_A} {B : Nat} {M : ps_M} {a0 : Nat} {a1 : Nat} {M' : ps_M} (hF : f_X4_copy M a0 a1 = some M') : Met l yX4_copy (Cond.code yX4_copy cX4_copy 3 none :: tb_G) rm_X4_copy (ps_PB D Y B M [.ref (B + a0), .ref (B + a1)]) (va_Qv (fun (_ : Unit) => True) (fun _ t => ps_St D Y B M' t) (fun q => B ≤ q)) 0 0 (fun q => B ≤ q) :=
  pm_of (by decide +kernel) (Nat.le_of_ble_eq_true rfl) (fun p e s m args below meth c C hW hS ls hl => kb_X4_copy C hF hW hS hl)

abbrev rm_X7_become : Room := { frames := 1, cells := 0, slots := 0, locals := 22 }
def f_X7_become (M : ps_M) (a0 : Nat) (a1 : Nat) : Option (ps_M) := ps_gI M a1 6 0 (fun xv1 => ps_pI M a0 6 0 xv1 (fun M => ps_gI M a1 6 1 (fun xv2 => ps_pI M a0 6 1 xv2 (fun M => ps_gI M a1 6 2 (fun xv3 => ps_pI M a0 6 2 xv3 (fun M => ps_gI M a1 6 3 (fun xv4 => ps_pI M a0 6 3 xv4 (fun M => ps_gI M a1 6 4 (fun xv5 => ps_pI M a0 6 4 xv5 (fun M => ps_gI M a1 6 5 (fun xv6 => ps_pI M a0 6 5 xv6 (fun M => ps_gI M a1 6 6 (fun xv7 => ps_pI M a0 6 6 xv7 (fun M => ps_gI M a1 6 7 (fun xv8 => ps_pI M a0 6 7 xv8 (fun M => ps_gI M a1 6 8 (fun xv9 => ps_pZ M a0 6 8 xv9 (fun M => ps_gR M a1 6 9 (fun av10 => ps_gR M a0 6 9 (fun av11 => ps_b1 (f_X4_copy M av10 av11) (fun M => ps_gR M a1 6 10 (fun av12 => ps_gR M a0 6 10 (fun av13 => ps_b1 (f_X4_copy M av12 av13) (fun M => ps_gR M a1 6 11 (fun av14 => ps_gR M a0 6 11 (fun av15 => ps_b1 (f_X4_copy M av14 av15) (fun M => ps_gR M a1 6 12 (fun av16 => ps_gR M a0 6 12 (fun av17 => ps_b1 (f_X4_copy M av16 av17) (fun M => some M))))))))))))))))))))))))))))))
set_option maxRecDepth 100000 in
set_option maxHeartbeats 4000000 in
theorem kb_X7_become (C : ps_C p s m args meth c cX7_become 2 RX7 none "become" D Y B) {q : ps_M}  {M : ps_M} {a0 : Nat} {a1 : Nat} (hF : f_X7_become M a0 a1 = some q) (hW : ps_W D Y B M H) (hS : va_S (fun q => B ≤ q) s.heap H locs) (hl : lv_has ls 2 [(0, .ref (B + a0)), (1, .ref (B + a1))]) : W p l e rm_X7_become s m args below meth c H locs 0 0 (ps_Qv D Y B below args s 0 0 q) (F0 m 0 ls []) := by
  have hx := C.1
  have hb := C.2.1
  have hml := C.2.2.1
  have hown := C.2.2.2.1
  have hts := C.2.2.2.2.1
  unfold f_X7_become at hF
  refine lv_aload_n hx hb dX7_become_0 rfl (lv_at hl 0 rfl) ?_
  refine lv_aload_n hx hb dX7_become_1 rfl (lv_at hl 1 rfl) ?_
  refine pw_gI C hW pc_6 (k := 0) (by decide) rfl tq_220 dX7_become_2 hF (fun xv1 hF => ?_)
  refine pw_pI C hW hS pc_6 (k := 0) (by decide) rfl rfl tq_220 rfl dX7_become_5 hF (fun M H locs hW hS hF => ?_)
  refine lv_aload_n hx hb dX7_become_8 rfl (lv_at hl 0 rfl) ?_
  refine lv_aload_n hx hb dX7_become_9 rfl (lv_at hl 1 rfl) ?_
  refine pw_gI C hW pc_6 (k := 1) (by decide) rfl tq_223 dX7_become_10 hF (fun xv2 hF => ?_)
  refine pw_pI C hW hS pc_6 (k := 1) (by decide) rfl rfl tq_223 rfl dX7_become_13 hF (fun M H locs hW hS hF => ?_)
  refine lv_aload_n hx hb dX7_become_16 rfl (lv_at hl 0 rfl) ?_
  refine lv_aload_n hx hb dX7_become_17 rfl (lv_at hl 1 rfl) ?_
  refine pw_gI C hW pc_6 (k := 2) (by decide) rfl tq_226 dX7_become_18 hF (fun xv3 hF => ?_)
  refine pw_pI C hW hS pc_6 (k := 2) (by decide) rfl rfl tq_226 rfl dX7_become_21 hF (fun M H locs hW hS hF => ?_)
  refine lv_aload_n hx hb dX7_become_24 rfl (lv_at hl 0 rfl) ?_
  refine lv_aload_n hx hb dX7_become_25 rfl (lv_at hl 1 rfl) ?_
  refine pw_gI C hW pc_6 (k := 3) (by decide) rfl tq_228 dX7_become_26 hF (fun xv4 hF => ?_)
  refine pw_pI C hW hS pc_6 (k := 3) (by decide) rfl rfl tq_228 rfl dX7_become_29 hF (fun M H locs hW hS hF => ?_)
  refine lv_aload_n hx hb dX7_become_32 rfl (lv_at hl 0 rfl) ?_
  refine lv_aload_n hx hb dX7_become_33 rfl (lv_at hl 1 rfl) ?_
  refine pw_gI C hW pc_6 (k := 4) (by decide) rfl tq_231 dX7_become_34 hF (fun xv5 hF => ?_)
  refine pw_pI C hW hS pc_6 (k := 4) (by decide) rfl rfl tq_231 rfl dX7_become_37 hF (fun M H locs hW hS hF => ?_)
  refine lv_aload_n hx hb dX7_become_40 rfl (lv_at hl 0 rfl) ?_
  refine lv_aload_n hx hb dX7_become_41 rfl (lv_at hl 1 rfl) ?_
  refine pw_gI C hW pc_6 (k := 5) (by decide) rfl tq_233 dX7_become_42 hF (fun xv6 hF => ?_)
  refine pw_pI C hW hS pc_6 (k := 5) (by decide) rfl rfl tq_233 rfl dX7_become_45 hF (fun M H locs hW hS hF => ?_)
  refine lv_aload_n hx hb dX7_become_48 rfl (lv_at hl 0 rfl) ?_
  refine lv_aload_n hx hb dX7_become_49 rfl (lv_at hl 1 rfl) ?_
  refine pw_gI C hW pc_6 (k := 6) (by decide) rfl tq_235 dX7_become_50 hF (fun xv7 hF => ?_)
  refine pw_pI C hW hS pc_6 (k := 6) (by decide) rfl rfl tq_235 rfl dX7_become_53 hF (fun M H locs hW hS hF => ?_)
  refine lv_aload_n hx hb dX7_become_56 rfl (lv_at hl 0 rfl) ?_
  refine lv_aload_n hx hb dX7_become_57 rfl (lv_at hl 1 rfl) ?_
  refine pw_gI C hW pc_6 (k := 7) (by decide) rfl tq_237 dX7_become_58 hF (fun xv8 hF => ?_)
  refine pw_pI C hW hS pc_6 (k := 7) (by decide) rfl rfl tq_237 rfl dX7_become_61 hF (fun M H locs hW hS hF => ?_)
  refine lv_aload_n hx hb dX7_become_64 rfl (lv_at hl 0 rfl) ?_
  refine lv_aload_n hx hb dX7_become_65 rfl (lv_at hl 1 rfl) ?_
  refine pw_gI C hW pc_6 (k := 8) (by decide) rfl tq_240 dX7_become_66 hF (fun xv9 hF => ?_)
  refine pw_pZ C hW hS pc_6 (k := 8) (by decide) rfl rfl tq_240 rfl dX7_become_69 hF (fun M H locs hW hS hF => ?_)
  refine lv_aload_n hx hb dX7_become_72 rfl (lv_at hl 1 rfl) ?_
  refine pw_gR C hW pc_6 (k := 9) (by decide) rfl tq_243 dX7_become_73 hF (fun av10 hF => ?_)
  refine lv_aload_n hx hb dX7_become_76 rfl (lv_at hl 0 rfl) ?_
  refine pw_gR C hW pc_6 (k := 9) (by decide) rfl tq_243 dX7_become_77 hF (fun av11 hF => ?_)
  obtain ⟨M9, hc, hF⟩ := ps_b1_some hF
  refine ps_backV (M' := M9) hS (ps_callS C hW mf_X4_copy tq_508 tq_521 ⟨Nat.le_of_ble_eq_true rfl, Nat.le_of_ble_eq_true rfl⟩ rfl rfl (As := [.ref (B + av10), .ref (B + av11)]) (rest := []) (c_X4_copy hc) rfl hl.1 rfl (Nat.le_of_ble_eq_true rfl) dX7_become_80 ⟨Nat.le_of_ble_eq_true rfl, Nat.le_of_ble_eq_true rfl⟩) (fun H locs hW hS => ?_)
  clear hc
  generalize M9 = M at hW hF
  refine lv_aload_n hx hb dX7_become_83 rfl (lv_at hl 1 rfl) ?_
  refine pw_gR C hW pc_6 (k := 10) (by decide) rfl tq_246 dX7_become_84 hF (fun av12 hF => ?_)
  refine lv_aload_n hx hb dX7_become_87 rfl (lv_at hl 0 rfl) ?_
  refine pw_gR C hW pc_6 (k := 10) (by decide) rfl tq_246 dX7_become_88 hF (fun av13 hF => ?_)
  obtain ⟨M9, hc, hF⟩ := ps_b1_some hF
  refine ps_backV (M' := M9) hS (ps_callS C hW mf_X4_copy tq_508 tq_521 ⟨Nat.le_of_ble_eq_true rfl, Nat.le_of_ble_eq_true rfl⟩ rfl rfl (As := [.ref (B + av12), .ref (B + av13)]) (rest := []) (c_X4_copy hc) rfl hl.1 rfl (Nat.le_of_ble_eq_true rfl) dX7_become_91 ⟨Nat.le_of_ble_eq_true rfl, Nat.le_of_ble_eq_true rfl⟩) (fun H locs hW hS => ?_)
  clear hc
  generalize M9 = M at hW hF
  refine lv_aload_n hx hb dX7_become_94 rfl (lv_at hl 1 rfl) ?_
  refine pw_gR C hW pc_6 (k := 11) (by decide) rfl tq_249 dX7_become_95 hF (fun av14 hF => ?_)
  refine lv_aload_n hx hb dX7_become_98 rfl (lv_at hl 0 rfl) ?_
  refine pw_gR C hW pc_6 (k := 11) (by decide) rfl tq_249 dX7_become_99 hF (fun av15 hF => ?_)
  obtain ⟨M9, hc, hF⟩ := ps_b1_some hF
  refine ps_backV (M' := M9) hS (ps_callS C hW mf_X4_copy tq_508 tq_521 ⟨Nat.le_of_ble_eq_true rfl, Nat.le_of_ble_eq_true rfl⟩ rfl rfl (As := [.ref (B + av14), .ref (B + av15)]) (rest := []) (c_X4_copy hc) rfl hl.1 rfl (Nat.le_of_ble_eq_true rfl) dX7_become_102 ⟨Nat.le_of_ble_eq_true rfl, Nat.le_of_ble_eq_true rfl⟩) (fun H locs hW hS => ?_)
  clear hc
  generalize M9 = M at hW hF
  refine lv_aload_n hx hb dX7_become_105 rfl (lv_at hl 1 rfl) ?_
  refine pw_gR C hW pc_6 (k := 12) (by decide) rfl tq_252 dX7_become_106 hF (fun av16 hF => ?_)
  refine lv_aload_n hx hb dX7_become_109 rfl (lv_at hl 0 rfl) ?_
  refine pw_gR C hW pc_6 (k := 12) (by decide) rfl tq_252 dX7_become_110 hF (fun av17 hF => ?_)
  obtain ⟨M9, hc, hF⟩ := ps_b1_some hF
  refine ps_backV (M' := M9) hS (ps_callS C hW mf_X4_copy tq_508 tq_521 ⟨Nat.le_of_ble_eq_true rfl, Nat.le_of_ble_eq_true rfl⟩ rfl rfl (As := [.ref (B + av16), .ref (B + av17)]) (rest := []) (c_X4_copy hc) rfl hl.1 rfl (Nat.le_of_ble_eq_true rfl) dX7_become_113 ⟨Nat.le_of_ble_eq_true rfl, Nat.le_of_ble_eq_true rfl⟩) (fun H locs hW hS => ?_)
  clear hc
  generalize M9 = M at hW hF
  exact pw_vret C hW hS dX7_become_116 hF
theorem mf_X7_become : ps_mf yX7_become cX7_become 2 none 1 := ⟨tq_600, tq_66, by decide +kernel, by decide +kernel, by decide +kernel⟩
theorem c_X7_become {l : Launch} {D : va_G} {Y : ps_A} {B : Nat} {M : ps_M} {a0 : Nat} {a1 : Nat} {M' : ps_M} (hF : f_X7_become M a0 a1 = some M') : Met l yX7_become (Cond.code yX7_become cX7_become 2 none :: tb_G) rm_X7_become (ps_PB D Y B M [.ref (B + a0), .ref (B + a1)]) (va_Qv (fun (_ : Unit) => True) (fun _ t => ps_St D Y B M' t) (fun q => B ≤ q)) 0 0 (fun q => B ≤ q) :=
  pm_of (by decide +kernel) (Nat.le_of_ble_eq_true rfl) (fun p e s m args below meth c C hW hS ls hl => kb_X7_become C hF hW hS hl)

abbrev rm_X2_remember : Room := { frames := 2, cells := 0, slots := 0, locals := 43 }
def f_X2_remember_b46 (M : ps_M)  : Option (ps_M) := some M
def f_X2_remember (M : ps_M) (a0 : Nat) (a1 : Nat) : Option (ps_M) := ps_gI M a0 2 1 (fun xv1 => ps_ck M a0 2 (ps_b2 (f_X2_placeAt M a0 xv1) (fun ev2 M => ps_nn ev2 (f_X2_remember_b46 M ) (fun av3 => ps_ck M av3 6 (ps_b1 (f_X7_become M av3 a1) (fun M => ps_gI M a0 2 1 (fun xv4 => ps_pI M a0 2 1 ((xv4 + (1 : Int32)) - (xv4 + (1 : Int32)) / (30 : Int32) * (30 : Int32)) (fun M => ps_gI M a0 2 0 (fun xv5 => ps_v (if (xv5 + (1 : Int32)) < (30 : Int32) then (xv5 + (1 : Int32)) else (30 : Int32)) (fun xv6 => ps_pI M a0 2 0 xv6 (fun M => f_X2_remember_b46 M )))))))))))
set_option maxRecDepth 100000 in
set_option maxHeartbeats 4000000 in
theorem kb_X2_remember_b46 (C : ps_C p s m args meth c cX2_remember 3 RX2 none "remember" D Y B) {q : ps_M}  {M : ps_M}  (hF : f_X2_remember_b46 M  = some q) (hW : ps_W D Y B M H) (hS : va_S (fun q => B ≤ q) s.heap H locs) (hl : lv_has ls 3 []) : W p l e rm_X2_remember s m args below meth c H locs 0 0 (ps_Qv D Y B below args s 0 0 q) (F0 m 46 ls []) := by
  have hx := C.1
  have hb := C.2.1
  have hml := C.2.2.1
  have hown := C.2.2.2.1
  have hts := C.2.2.2.2.1
  unfold f_X2_remember_b46 at hF
  exact pw_vret C hW hS dX2_remember_46 hF
set_option maxRecDepth 100000 in
set_option maxHeartbeats 4000000 in
theorem kb_X2_remember (C : ps_C p s m args meth c cX2_remember 3 RX2 none "remember" D Y B) {q : ps_M}  {M : ps_M} {a0 : Nat} {a1 : Nat} (hF : f_X2_remember M a0 a1 = some q) (hW : ps_W D Y B M H) (hS : va_S (fun q => B ≤ q) s.heap H locs) (hl : lv_has ls 3 [(0, .ref (B + a0)), (1, .ref (B + a1))]) : W p l e rm_X2_remember s m args below meth c H locs 0 0 (ps_Qv D Y B below args s 0 0 q) (F0 m 0 ls []) := by
  have hx := C.1
  have hb := C.2.1
  have hml := C.2.2.1
  have hown := C.2.2.2.1
  have hts := C.2.2.2.2.1
  unfold f_X2_remember at hF
  refine lv_aload_n hx hb dX2_remember_0 rfl (lv_at hl 0 rfl) ?_
  refine lv_aload_n hx hb dX2_remember_1 rfl (lv_at hl 0 rfl) ?_
  refine pw_gI C hW pc_2 (k := 1) (by decide) rfl tq_293 dX2_remember_2 hF (fun xv1 hF => ?_)
  obtain ⟨hK, hF⟩ := ps_ck_some hF
  obtain ⟨ev2, M9, hc, hF⟩ := ps_b2_some hF
  refine ps_backQ (x0 := ev2) (M' := M9) hS (ps_callV C hW pc_2 mf_X2_placeAt tq_595 tq_11 tq_593 ⟨Nat.le_of_ble_eq_true rfl, Nat.le_of_ble_eq_true rfl⟩ rfl rfl (As := [.int xv1]) (rest := []) (c_X2_placeAt hc) hK rfl hl.1 rfl (Nat.le_of_ble_eq_true rfl) dX2_remember_5 ⟨Nat.le_of_ble_eq_true rfl, Nat.le_of_ble_eq_true rfl⟩) (fun H locs hW hS => ?_)
  clear hc
  generalize M9 = M at hW hF
  rcases ev2 with _ | av3
  · replace hF := ps_nn0 hF
    refine lv_astore_nN (lv' := [(2, .null), (0, .ref (B + a0)), (1, .ref (B + a1))]) hx hb dX2_remember_8 rfl hl (by decide) rfl (fun ls hl => ?_)
    refine lv_aload_nN hx hb dX2_remember_9 rfl (lv_at hl 0 rfl) ?_
    refine lv_ifnullN (tgt := 46) hx hb dX2_remember_10 (by decide) ?_
    exact kb_X2_remember_b46 C hF hW hS (lv_sub hl [] rfl)
  · replace hF := ps_nns hF
    refine lv_astore_n (lv' := [(2, .ref (B + av3)), (0, .ref (B + a0)), (1, .ref (B + a1))]) hx hb dX2_remember_8 rfl hl (by decide) rfl (fun ls hl => ?_)
    refine lv_aload_n hx hb dX2_remember_9 rfl (lv_at hl 0 rfl) ?_
    refine lv_ifnull hx hb dX2_remember_10 ?_
    refine lv_aload_n hx hb dX2_remember_13 rfl (lv_at hl 0 rfl) ?_
    refine lv_aload_n hx hb dX2_remember_14 rfl (lv_at hl 2 rfl) ?_
    obtain ⟨hK, hF⟩ := ps_ck_some hF
    obtain ⟨M9, hc, hF⟩ := ps_b1_some hF
    refine ps_backV (M' := M9) hS (ps_callV C hW pc_6 mf_X7_become tq_598 tq_599 tq_597 ⟨Nat.le_of_ble_eq_true rfl, Nat.le_of_ble_eq_true rfl⟩ rfl rfl (As := [.ref (B + a1)]) (rest := []) (c_X7_become hc) hK rfl hl.1 rfl (Nat.le_of_ble_eq_true rfl) dX2_remember_15 ⟨Nat.le_of_ble_eq_true rfl, Nat.le_of_ble_eq_true rfl⟩) (fun H locs hW hS => ?_)
    clear hc
    generalize M9 = M at hW hF
    refine lv_aload_n hx hb dX2_remember_18 rfl (lv_at hl 1 rfl) ?_
    refine lv_aload_n hx hb dX2_remember_19 rfl (lv_at hl 1 rfl) ?_
    refine pw_gI C hW pc_2 (k := 1) (by decide) rfl tq_293 dX2_remember_20 hF (fun xv4 hF => ?_)
    refine lv_iconst (v := 1) hx hb dX2_remember_23 (by decide) ?_
    refine lv_iadd hx hb dX2_remember_24 ?_
    refine lv_bipush (v := 30) hx hb dX2_remember_25 (by decide) ?_
    refine lv_irem hx hb dX2_remember_27 (by decide) ?_
    refine pw_pI C hW hS pc_2 (k := 1) (by decide) rfl rfl tq_293 rfl dX2_remember_28 hF (fun M H locs hW hS hF => ?_)
    refine lv_aload_n hx hb dX2_remember_31 rfl (lv_at hl 1 rfl) ?_
    refine lv_bipush (v := 30) hx hb dX2_remember_32 (by decide) ?_
    refine lv_aload_n hx hb dX2_remember_34 rfl (lv_at hl 1 rfl) ?_
    refine pw_gI C hW pc_2 (k := 0) (by decide) rfl tq_291 dX2_remember_35 hF (fun xv5 hF => ?_)
    refine lv_iconst (v := 1) hx hb dX2_remember_38 (by decide) ?_
    refine lv_iadd hx hb dX2_remember_39 ?_
    refine va_mmin hx hb (hml.trans hl.1.symm) hown (hts _ tq_601) (hts _ tq_602) (hts _ tq_65) (hts _ tq_603) (Nat.le_of_ble_eq_true rfl) (Nat.le_of_ble_eq_true rfl) (Nat.le_of_ble_eq_true rfl) (Nat.le_of_ble_eq_true rfl) dX2_remember_40 ?_
    refine pw_v hF (fun xv6 hF => ?_)
    refine pw_pI C hW hS pc_2 (k := 0) (by decide) rfl rfl tq_291 rfl dX2_remember_43 hF (fun M H locs hW hS hF => ?_)
    exact kb_X2_remember_b46 C hF hW hS (lv_sub hl [] rfl)
theorem mf_X2_remember : ps_mf yX2_remember cX2_remember 3 none 1 := ⟨tq_592, tq_67, by decide +kernel, by decide +kernel, by decide +kernel⟩
theorem c_X2_remember {l : Launch} {D : va_G} {Y : ps_A} {B : Nat} {M : ps_M} {a0 : Nat} {a1 : Nat} {M' : ps_M} (hF : f_X2_remember M a0 a1 = some M') : Met l yX2_remember (Cond.code yX2_remember cX2_remember 3 none :: tb_G) rm_X2_remember (ps_PB D Y B M [.ref (B + a0), .ref (B + a1)]) (va_Qv (fun (_ : Unit) => True) (fun _ t => ps_St D Y B M' t) (fun q => B ≤ q)) 0 0 (fun q => B ≤ q) :=
  pm_of (by decide +kernel) (Nat.le_of_ble_eq_true rfl) (fun p e s m args below meth c C hW hS ls hl => kb_X2_remember C hF hW hS hl)

abbrev rm_X2_bringBack : Room := { frames := 2, cells := 0, slots := 0, locals := 43 }
def f_X2_bringBack_b46 (M : ps_M)  : Option (ps_M) := some M
def f_X2_bringBack (M : ps_M) (a0 : Nat) (x1 : Int32) (a2 : Nat) : Option (ps_M) := ps_gI M a0 2 1 (fun xv1 => ps_v ((((xv1 - x1) + (30 : Int32)) - ((xv1 - x1) + (30 : Int32)) / (30 : Int32) * (30 : Int32))) (fun xv2 => ps_ck M a0 2 (ps_b2 (f_X2_placeAt M a0 xv2) (fun ev3 M => ps_nn ev3 (f_X2_bringBack_b46 M ) (fun av4 => ps_ck M a2 6 (ps_b1 (f_X7_become M a2 av4) (fun M => ps_pI M a0 2 1 xv2 (fun M => ps_gI M a0 2 0 (fun xv5 => ps_pI M a0 2 0 (xv5 - x1) (fun M => f_X2_bringBack_b46 M ))))))))))
set_option maxRecDepth 100000 in
set_option maxHeartbeats 4000000 in
theorem kb_X2_bringBack_b46 (C : ps_C p s m args meth c cX2_bringBack 5 RX2 none "bringBack" D Y B) {q : ps_M}  {M : ps_M}  (hF : f_X2_bringBack_b46 M  = some q) (hW : ps_W D Y B M H) (hS : va_S (fun q => B ≤ q) s.heap H locs) (hl : lv_has ls 5 []) : W p l e rm_X2_bringBack s m args below meth c H locs 0 0 (ps_Qv D Y B below args s 0 0 q) (F0 m 46 ls []) := by
  have hx := C.1
  have hb := C.2.1
  have hml := C.2.2.1
  have hown := C.2.2.2.1
  have hts := C.2.2.2.2.1
  unfold f_X2_bringBack_b46 at hF
  exact pw_vret C hW hS dX2_bringBack_46 hF
set_option maxRecDepth 100000 in
set_option maxHeartbeats 4000000 in
theorem kb_X2_bringBack (C : ps_C p s m args meth c cX2_bringBack 5 RX2 none "bringBack" D Y B) {q : ps_M}  {M : ps_M} {a0 : Nat} {x1 : Int32} {a2 : Nat} (hF : f_X2_bringBack M a0 x1 a2 = some q) (hW : ps_W D Y B M H) (hS : va_S (fun q => B ≤ q) s.heap H locs) (hl : lv_has ls 5 [(0, .ref (B + a0)), (1, .int x1), (2, .ref (B + a2))]) : W p l e rm_X2_bringBack s m args below meth c H locs 0 0 (ps_Qv D Y B below args s 0 0 q) (F0 m 0 ls []) := by
  have hx := C.1
  have hb := C.2.1
  have hml := C.2.2.1
  have hown := C.2.2.2.1
  have hts := C.2.2.2.2.1
  unfold f_X2_bringBack at hF
  refine lv_aload_n hx hb dX2_bringBack_0 rfl (lv_at hl 0 rfl) ?_
  refine pw_gI C hW pc_2 (k := 1) (by decide) rfl tq_293 dX2_bringBack_1 hF (fun xv1 hF => ?_)
  refine lv_iload_n hx hb dX2_bringBack_4 rfl (lv_at hl 1 rfl) ?_
  refine lv_isub hx hb dX2_bringBack_5 ?_
  refine lv_bipush (v := 30) hx hb dX2_bringBack_6 (by decide) ?_
  refine lv_iadd hx hb dX2_bringBack_8 ?_
  refine lv_bipush (v := 30) hx hb dX2_bringBack_9 (by decide) ?_
  refine lv_irem hx hb dX2_bringBack_11 (by decide) ?_
  refine pw_v hF (fun xv2 hF => ?_)
  refine lv_istore_n (lv' := [(3, .int xv2), (0, .ref (B + a0)), (1, .int x1), (2, .ref (B + a2))]) hx hb dX2_bringBack_12 rfl hl (by decide) rfl (fun ls hl => ?_)
  refine lv_aload_n hx hb dX2_bringBack_13 rfl (lv_at hl 1 rfl) ?_
  refine lv_iload_n hx hb dX2_bringBack_14 rfl (lv_at hl 0 rfl) ?_
  obtain ⟨hK, hF⟩ := ps_ck_some hF
  obtain ⟨ev3, M9, hc, hF⟩ := ps_b2_some hF
  refine ps_backQ (x0 := ev3) (M' := M9) hS (ps_callV C hW pc_2 mf_X2_placeAt tq_595 tq_11 tq_593 ⟨Nat.le_of_ble_eq_true rfl, Nat.le_of_ble_eq_true rfl⟩ rfl rfl (As := [.int xv2]) (rest := []) (c_X2_placeAt hc) hK rfl hl.1 rfl (Nat.le_of_ble_eq_true rfl) dX2_bringBack_15 ⟨Nat.le_of_ble_eq_true rfl, Nat.le_of_ble_eq_true rfl⟩) (fun H locs hW hS => ?_)
  clear hc
  generalize M9 = M at hW hF
  rcases ev3 with _ | av4
  · replace hF := ps_nn0 hF
    refine lv_astoreN (lv' := [(4, .null), (3, .int xv2), (0, .ref (B + a0)), (1, .int x1), (2, .ref (B + a2))]) hx hb dX2_bringBack_18 hl (by decide) rfl (fun ls hl => ?_)
    refine lv_aloadN hx hb dX2_bringBack_20 (lv_at hl 0 rfl) ?_
    refine lv_ifnullN (tgt := 46) hx hb dX2_bringBack_22 (by decide) ?_
    exact kb_X2_bringBack_b46 C hF hW hS (lv_sub hl [] rfl)
  · replace hF := ps_nns hF
    refine lv_astore (lv' := [(4, .ref (B + av4)), (3, .int xv2), (0, .ref (B + a0)), (1, .int x1), (2, .ref (B + a2))]) hx hb dX2_bringBack_18 hl (by decide) rfl (fun ls hl => ?_)
    refine lv_aload hx hb dX2_bringBack_20 (lv_at hl 0 rfl) ?_
    refine lv_ifnull hx hb dX2_bringBack_22 ?_
    refine lv_aload_n hx hb dX2_bringBack_25 rfl (lv_at hl 4 rfl) ?_
    refine lv_aload hx hb dX2_bringBack_26 (lv_at hl 0 rfl) ?_
    obtain ⟨hK, hF⟩ := ps_ck_some hF
    obtain ⟨M9, hc, hF⟩ := ps_b1_some hF
    refine ps_backV (M' := M9) hS (ps_callV C hW pc_6 mf_X7_become tq_598 tq_599 tq_597 ⟨Nat.le_of_ble_eq_true rfl, Nat.le_of_ble_eq_true rfl⟩ rfl rfl (As := [.ref (B + av4)]) (rest := []) (c_X7_become hc) hK rfl hl.1 rfl (Nat.le_of_ble_eq_true rfl) dX2_bringBack_28 ⟨Nat.le_of_ble_eq_true rfl, Nat.le_of_ble_eq_true rfl⟩) (fun H locs hW hS => ?_)
    clear hc
    generalize M9 = M at hW hF
    refine lv_aload_n hx hb dX2_bringBack_31 rfl (lv_at hl 2 rfl) ?_
    refine lv_iload_n hx hb dX2_bringBack_32 rfl (lv_at hl 1 rfl) ?_
    refine pw_pI C hW hS pc_2 (k := 1) (by decide) rfl rfl tq_293 rfl dX2_bringBack_33 hF (fun M H locs hW hS hF => ?_)
    refine lv_aload_n hx hb dX2_bringBack_36 rfl (lv_at hl 2 rfl) ?_
    refine lv_dup hx hb dX2_bringBack_37 rfl ?_
    refine pw_gI C hW pc_2 (k := 0) (by decide) rfl tq_291 dX2_bringBack_38 hF (fun xv5 hF => ?_)
    refine lv_iload_n hx hb dX2_bringBack_41 rfl (lv_at hl 3 rfl) ?_
    refine lv_isub hx hb dX2_bringBack_42 ?_
    refine pw_pI C hW hS pc_2 (k := 0) (by decide) rfl rfl tq_291 rfl dX2_bringBack_43 hF (fun M H locs hW hS hF => ?_)
    exact kb_X2_bringBack_b46 C hF hW hS (lv_sub hl [] rfl)
theorem mf_X2_bringBack : ps_mf yX2_bringBack cX2_bringBack 5 none 2 := ⟨tq_698, tq_67, by decide +kernel, by decide +kernel, by decide +kernel⟩
theorem c_X2_bringBack {l : Launch} {D : va_G} {Y : ps_A} {B : Nat} {M : ps_M} {a0 : Nat} {x1 : Int32} {a2 : Nat} {M' : ps_M} (hF : f_X2_bringBack M a0 x1 a2 = some M') : Met l yX2_bringBack (Cond.code yX2_bringBack cX2_bringBack 5 none :: tb_G) rm_X2_bringBack (ps_PB D Y B M [.ref (B + a0), .int x1, .ref (B + a2)]) (va_Qv (fun (_ : Unit) => True) (fun _ t => ps_St D Y B M' t) (fun q => B ≤ q)) 0 0 (fun q => B ≤ q) :=
  pm_of (by decide +kernel) (Nat.le_of_ble_eq_true rfl) (fun p e s m args below meth c C hW hS ls hl => kb_X2_bringBack C hF hW hS hl)

abbrev rm_X8_clear : Room := { frames := 0, cells := 0, slots := 0, locals := 0 }
def f_X8_clear (M : ps_M) (a0 : Nat) : Option (ps_M) := ps_pI M a0 7 0 (0 : Int32) (fun M => ps_pI M a0 7 1 (0 : Int32) (fun M => ps_pI M a0 7 2 (5 : Int32) (fun M => ps_pI M a0 7 3 (2 : Int32) (fun M => ps_pI M a0 7 4 (0 : Int32) (fun M => ps_pI M a0 7 5 (12 : Int32) (fun M => some M))))))
set_option maxRecDepth 100000 in
set_option maxHeartbeats 4000000 in
theorem kb_X8_clear (C : ps_C p s m args meth c cX8_clear 1 RX8 none "clear" D Y B) {q : ps_M}  {M : ps_M} {a0 : Nat} (hF : f_X8_clear M a0 = some q) (hW : ps_W D Y B M H) (hS : va_S (fun q => B ≤ q) s.heap H locs) (hl : lv_has ls 1 [(0, .ref (B + a0))]) : W p l e rm_X8_clear s m args below meth c H locs 0 0 (ps_Qv D Y B below args s 0 0 q) (F0 m 0 ls []) := by
  have hx := C.1
  have hb := C.2.1
  have hml := C.2.2.1
  have hown := C.2.2.2.1
  have hts := C.2.2.2.2.1
  unfold f_X8_clear at hF
  refine lv_aload_n hx hb dX8_clear_0 rfl (lv_at hl 0 rfl) ?_
  refine lv_iconst (v := 0) hx hb dX8_clear_1 (by decide) ?_
  refine pw_pI C hW hS pc_7 (k := 0) (by decide) rfl rfl tq_88 rfl dX8_clear_2 hF (fun M H locs hW hS hF => ?_)
  refine lv_aload_n hx hb dX8_clear_5 rfl (lv_at hl 0 rfl) ?_
  refine lv_iconst (v := 0) hx hb dX8_clear_6 (by decide) ?_
  refine pw_pI C hW hS pc_7 (k := 1) (by decide) rfl rfl tq_92 rfl dX8_clear_7 hF (fun M H locs hW hS hF => ?_)
  refine lv_aload_n hx hb dX8_clear_10 rfl (lv_at hl 0 rfl) ?_
  refine lv_iconst (v := 5) hx hb dX8_clear_11 (by decide) ?_
  refine pw_pI C hW hS pc_7 (k := 2) (by decide) rfl rfl tq_96 rfl dX8_clear_12 hF (fun M H locs hW hS hF => ?_)
  refine lv_aload_n hx hb dX8_clear_15 rfl (lv_at hl 0 rfl) ?_
  refine lv_iconst (v := 2) hx hb dX8_clear_16 (by decide) ?_
  refine pw_pI C hW hS pc_7 (k := 3) (by decide) rfl rfl tq_99 rfl dX8_clear_17 hF (fun M H locs hW hS hF => ?_)
  refine lv_aload_n hx hb dX8_clear_20 rfl (lv_at hl 0 rfl) ?_
  refine lv_iconst (v := 0) hx hb dX8_clear_21 (by decide) ?_
  refine pw_pI C hW hS pc_7 (k := 4) (by decide) rfl rfl tq_103 rfl dX8_clear_22 hF (fun M H locs hW hS hF => ?_)
  refine lv_aload_n hx hb dX8_clear_25 rfl (lv_at hl 0 rfl) ?_
  refine lv_bipush (v := 12) hx hb dX8_clear_26 (by decide) ?_
  refine pw_pI C hW hS pc_7 (k := 5) (by decide) rfl rfl tq_107 rfl dX8_clear_28 hF (fun M H locs hW hS hF => ?_)
  exact pw_vret C hW hS dX8_clear_31 hF
theorem mf_X8_clear : ps_mf yX8_clear cX8_clear 1 none 0 := ⟨tq_454, tq_62, by decide +kernel, by decide +kernel, by decide +kernel⟩
theorem c_X8_clear {l : Launch} {D : va_G} {Y : ps_A} {B : Nat} {M : ps_M} {a0 : Nat} {M' : ps_M} (hF : f_X8_clear M a0 = some M') : Met l yX8_clear (Cond.code yX8_clear cX8_clear 1 none :: tb_G) rm_X8_clear (ps_PB D Y B M [.ref (B + a0)]) (va_Qv (fun (_ : Unit) => True) (fun _ t => ps_St D Y B M' t) (fun q => B ≤ q)) 0 0 (fun q => B ≤ q) :=
  pm_of (by decide +kernel) (Nat.le_of_ble_eq_true rfl) (fun p e s m args below meth c C hW hS ls hl => kb_X8_clear C hF hW hS hl)

abbrev rm_X5_mark : Room := { frames := 0, cells := 0, slots := 0, locals := 0 }
def f_X5_mark_b31 (M : ps_M) (t0 : Int32) : Option (Int32 × ps_M) := some (t0, M)
def f_X5_mark_b30 (M : ps_M)  : Option (Int32 × ps_M) := f_X5_mark_b31 M (-1 : Int32)
def f_X5_mark (M : ps_M) (a0 : Nat) (x1 : Int32) : Option (Int32 × ps_M) := if x1 < 0 then (f_X5_mark_b30 M ) else (ps_gI M a0 4 1 (fun xv2 => if xv2 ≤ x1 then (f_X5_mark_b30 M ) else (ps_gR M a0 4 0 (fun av4 => ps_aL M av4 (fun xv5 => if xv5 ≤ x1 then (f_X5_mark_b30 M ) else (ps_gR M a0 4 0 (fun av7 => ps_aI M av7 x1 (fun xv8 => f_X5_mark_b31 M xv8))))))))
set_option maxRecDepth 100000 in
set_option maxHeartbeats 4000000 in
theorem kb_X5_mark_b31 (C : ps_C p s m args meth c cX5_mark 2 RX5 ((some .int)) "mark" D Y B) {q : Int32 × ps_M}  {M : ps_M} {t0 : Int32} (hF : f_X5_mark_b31 M t0 = some q) (hW : ps_W D Y B M H) (hS : va_S (fun q => B ≤ q) s.heap H locs) (hl : lv_has ls 2 []) : W p l e rm_X5_mark s m args below meth c H locs 0 0 (ps_Qi D Y B below args s 0 0 q) (F0 m 31 ls [.int t0]) := by
  have hx := C.1
  have hb := C.2.1
  have hml := C.2.2.1
  have hown := C.2.2.2.1
  have hts := C.2.2.2.2.1
  unfold f_X5_mark_b31 at hF
  exact pw_iret C hW hS dX5_mark_31 hF
set_option maxRecDepth 100000 in
set_option maxHeartbeats 4000000 in
theorem kb_X5_mark_b30 (C : ps_C p s m args meth c cX5_mark 2 RX5 ((some .int)) "mark" D Y B) {q : Int32 × ps_M}  {M : ps_M}  (hF : f_X5_mark_b30 M  = some q) (hW : ps_W D Y B M H) (hS : va_S (fun q => B ≤ q) s.heap H locs) (hl : lv_has ls 2 []) : W p l e rm_X5_mark s m args below meth c H locs 0 0 (ps_Qi D Y B below args s 0 0 q) (F0 m 30 ls []) := by
  have hx := C.1
  have hb := C.2.1
  have hml := C.2.2.1
  have hown := C.2.2.2.1
  have hts := C.2.2.2.2.1
  unfold f_X5_mark_b30 at hF
  refine lv_iconst (v := -1) hx hb dX5_mark_30 (by decide) ?_
  exact kb_X5_mark_b31 C hF hW hS (lv_sub hl [] rfl)
set_option maxRecDepth 100000 in
set_option maxHeartbeats 4000000 in
theorem kb_X5_mark (C : ps_C p s m args meth c cX5_mark 2 RX5 ((some .int)) "mark" D Y B) {q : Int32 × ps_M}  {M : ps_M} {a0 : Nat} {x1 : Int32} (hF : f_X5_mark M a0 x1 = some q) (hW : ps_W D Y B M H) (hS : va_S (fun q => B ≤ q) s.heap H locs) (hl : lv_has ls 2 [(0, .ref (B + a0)), (1, .int x1)]) : W p l e rm_X5_mark s m args below meth c H locs 0 0 (ps_Qi D Y B below args s 0 0 q) (F0 m 0 ls []) := by
  have hx := C.1
  have hb := C.2.1
  have hml := C.2.2.1
  have hown := C.2.2.2.1
  have hts := C.2.2.2.2.1
  unfold f_X5_mark at hF
  refine lv_iload_n hx hb dX5_mark_0 rfl (lv_at hl 1 rfl) ?_
  refine lv_if_lt (tgt := 30) hx hb dX5_mark_1 (by decide) (fun hv1 => ?_) (fun hv1 => ?_)
  · replace hF := (if_pos hv1).symm.trans hF
    exact kb_X5_mark_b30 C hF hW hS (lv_sub hl [] rfl)
  · replace hF := (if_neg hv1).symm.trans hF
    refine lv_iload_n hx hb dX5_mark_4 rfl (lv_at hl 1 rfl) ?_
    refine lv_aload_n hx hb dX5_mark_5 rfl (lv_at hl 0 rfl) ?_
    refine pw_gI C hW pc_4 (k := 1) (by decide) rfl tq_177 dX5_mark_6 hF (fun xv2 hF => ?_)
    refine lv_icmp_ge (tgt := 30) hx hb dX5_mark_9 (by decide) (fun hv3 => ?_) (fun hv3 => ?_)
    · replace hF := (if_pos hv3).symm.trans hF
      exact kb_X5_mark_b30 C hF hW hS (lv_sub hl [] rfl)
    · replace hF := (if_neg hv3).symm.trans hF
      refine lv_iload_n hx hb dX5_mark_12 rfl (lv_at hl 1 rfl) ?_
      refine lv_aload_n hx hb dX5_mark_13 rfl (lv_at hl 0 rfl) ?_
      refine pw_gR C hW pc_4 (k := 0) (by decide) rfl tq_176 dX5_mark_14 hF (fun av4 hF => ?_)
      refine pw_aL C hW dX5_mark_17 hF (fun xv5 hF => ?_)
      refine lv_icmp_ge (tgt := 30) hx hb dX5_mark_18 (by decide) (fun hv6 => ?_) (fun hv6 => ?_)
      · replace hF := (if_pos hv6).symm.trans hF
        exact kb_X5_mark_b30 C hF hW hS (lv_sub hl [] rfl)
      · replace hF := (if_neg hv6).symm.trans hF
        refine lv_aload_n hx hb dX5_mark_21 rfl (lv_at hl 0 rfl) ?_
        refine pw_gR C hW pc_4 (k := 0) (by decide) rfl tq_176 dX5_mark_22 hF (fun av7 hF => ?_)
        refine lv_iload_n hx hb dX5_mark_25 rfl (lv_at hl 1 rfl) ?_
        refine pw_aI C hW dX5_mark_26 hF (fun xv8 hF => ?_)
        refine lv_goto (tgt := 31) hx hb dX5_mark_27 (by decide) ?_
        exact kb_X5_mark_b31 C hF hW hS (lv_sub hl [] rfl)
theorem mf_X5_mark : ps_mf yX5_mark cX5_mark 2 ((some .int)) 1 := ⟨tq_462, tq_64, by decide +kernel, by decide +kernel, by decide +kernel⟩
theorem c_X5_mark {l : Launch} {D : va_G} {Y : ps_A} {B : Nat} {M : ps_M} {a0 : Nat} {x1 : Int32} {r : Int32} {M' : ps_M} (hF : f_X5_mark M a0 x1 = some (r, M')) : Met l yX5_mark (Cond.code yX5_mark cX5_mark 2 ((some .int)) :: tb_G) rm_X5_mark (ps_PB D Y B M [.ref (B + a0), .int x1]) (va_Qi (fun x (_ : Unit) => x = r) (fun _ t => ps_St D Y B M' t) (fun q => B ≤ q)) 0 0 (fun q => B ≤ q) :=
  pm_of (by decide +kernel) (Nat.le_of_ble_eq_true rfl) (fun p e s m args below meth c C hW hS ls hl => kb_X5_mark C hF hW hS hl)

abbrev rm_X3_skipBlanks : Room := { frames := 1, cells := 0, slots := 0, locals := 21 }
def f_X3_skipBlanks_b41 (M : ps_M)  : Option (ps_M) := some M
def f_X3_skipBlanks_w2 (k2 : ps_M → Nat → Int32 → Option (ps_M)) (M : ps_M) (a0 : Nat) (x1 : Int32) : Option (ps_M) := if (250 : Int32) ≤ x1 then (f_X3_skipBlanks_b41 M ) else (ps_gR M a0 3 0 (fun av2 => ps_gI M a0 3 4 (fun xv3 => ps_ck M av2 4 (ps_b2 (f_X5_mark M av2 xv3) (fun xv4 M => if xv4 = (32 : Int32) then (ps_gI M a0 3 4 (fun xv6 => ps_pI M a0 3 4 (xv6 + (1 : Int32)) (fun M => ps_v (x1 + 1) (fun xv7 => k2 M a0 xv7)))) else (f_X3_skipBlanks_b41 M ))))))
def f_X3_skipBlanks_l2 : Nat → ps_M → Nat → Int32 → Option (ps_M)
  | 0, _, _, _ => none
  | n + 1, M, a0, x1 => f_X3_skipBlanks_w2 (f_X3_skipBlanks_l2 n) M a0 x1
def f_X3_skipBlanks (M : ps_M) (a0 : Nat) : Option (ps_M) := f_X3_skipBlanks_l2 ps_fu M a0 (0 : Int32)
set_option maxRecDepth 100000 in
set_option maxHeartbeats 4000000 in
theorem kb_X3_skipBlanks_b41 (C : ps_C p s m args meth c cX3_skipBlanks 2 RX3 none "skipBlanks" D Y B) {q : ps_M}  {M : ps_M}  (hF : f_X3_skipBlanks_b41 M  = some q) (hW : ps_W D Y B M H) (hS : va_S (fun q => B ≤ q) s.heap H locs) (hl : lv_has ls 2 []) : W p l e rm_X3_skipBlanks s m args below meth c H locs 0 0 (ps_Qv D Y B below args s 0 0 q) (F0 m 41 ls []) := by
  have hx := C.1
  have hb := C.2.1
  have hml := C.2.2.1
  have hown := C.2.2.2.1
  have hts := C.2.2.2.2.1
  unfold f_X3_skipBlanks_b41 at hF
  exact pw_vret C hW hS dX3_skipBlanks_41 hF
set_option maxRecDepth 100000 in
set_option maxHeartbeats 4000000 in
theorem kb_X3_skipBlanks_w2 (C : ps_C p s m args meth c cX3_skipBlanks 2 RX3 none "skipBlanks" D Y B) {q : ps_M} (k2 : ps_M → Nat → Int32 → Option (ps_M)) (hk2 : ∀ (M : ps_M) (H : Heap) (locs : List Loc) (ls : Array Slot) (a0 : Nat) (x1 : Int32), k2 M a0 x1 = some q → ps_W D Y B M H → va_S (fun q => B ≤ q) s.heap H locs → lv_has ls 2 [(0, .ref (B + a0)), (1, .int x1)] → W p l e rm_X3_skipBlanks s m args below meth c H locs 0 0 (ps_Qv D Y B below args s 0 0 q) (F0 m 2 ls [])) {M : ps_M} {a0 : Nat} {x1 : Int32} (hF : f_X3_skipBlanks_w2 k2 M a0 x1 = some q) (hW : ps_W D Y B M H) (hS : va_S (fun q => B ≤ q) s.heap H locs) (hl : lv_has ls 2 [(0, .ref (B + a0)), (1, .int x1)]) : W p l e rm_X3_skipBlanks s m args below meth c H locs 0 0 (ps_Qv D Y B below args s 0 0 q) (F0 m 2 ls []) := by
  have hx := C.1
  have hb := C.2.1
  have hml := C.2.2.1
  have hown := C.2.2.2.1
  have hts := C.2.2.2.2.1
  unfold f_X3_skipBlanks_w2 at hF
  refine lv_iload_n hx hb dX3_skipBlanks_2 rfl (lv_at hl 1 rfl) ?_
  refine lv_sipush (v := 250) hx hb dX3_skipBlanks_3 (by decide) ?_
  refine lv_icmp_ge (tgt := 41) hx hb dX3_skipBlanks_6 (by decide) (fun hv1 => ?_) (fun hv1 => ?_)
  · replace hF := (if_pos hv1).symm.trans hF
    exact kb_X3_skipBlanks_b41 C hF hW hS (lv_sub hl [] rfl)
  · replace hF := (if_neg hv1).symm.trans hF
    refine lv_aload_n hx hb dX3_skipBlanks_9 rfl (lv_at hl 0 rfl) ?_
    refine pw_gR C hW pc_3 (k := 0) (by decide) rfl tq_188 dX3_skipBlanks_10 hF (fun av2 hF => ?_)
    refine lv_aload_n hx hb dX3_skipBlanks_13 rfl (lv_at hl 0 rfl) ?_
    refine pw_gI C hW pc_3 (k := 4) (by decide) rfl tq_196 dX3_skipBlanks_14 hF (fun xv3 hF => ?_)
    obtain ⟨hK, hF⟩ := ps_ck_some hF
    obtain ⟨xv4, M9, hc, hF⟩ := ps_b2_some hF
    refine ps_backI (x0 := xv4) (M' := M9) hS (ps_callV C hW pc_4 mf_X5_mark tq_460 tq_461 tq_459 ⟨Nat.le_of_ble_eq_true rfl, Nat.le_of_ble_eq_true rfl⟩ rfl rfl (As := [.int xv3]) (rest := []) (c_X5_mark hc) hK rfl hl.1 rfl (Nat.le_of_ble_eq_true rfl) dX3_skipBlanks_17 ⟨Nat.le_of_ble_eq_true rfl, Nat.le_of_ble_eq_true rfl⟩) (fun H locs hW hS => ?_)
    clear hc
    generalize M9 = M at hW hF
    refine lv_bipush (v := 32) hx hb dX3_skipBlanks_20 (by decide) ?_
    refine lv_icmp_ne (tgt := 41) hx hb dX3_skipBlanks_22 (by decide) (fun hv5 => ?_) (fun hv5 => ?_)
    · replace hF := (if_neg hv5).symm.trans hF
      exact kb_X3_skipBlanks_b41 C hF hW hS (lv_sub hl [] rfl)
    · replace hF := (if_pos hv5).symm.trans hF
      refine lv_aload_n hx hb dX3_skipBlanks_25 rfl (lv_at hl 0 rfl) ?_
      refine lv_dup hx hb dX3_skipBlanks_26 rfl ?_
      refine pw_gI C hW pc_3 (k := 4) (by decide) rfl tq_196 dX3_skipBlanks_27 hF (fun xv6 hF => ?_)
      refine lv_iconst (v := 1) hx hb dX3_skipBlanks_30 (by decide) ?_
      refine lv_iadd hx hb dX3_skipBlanks_31 ?_
      refine pw_pI C hW hS pc_3 (k := 4) (by decide) rfl rfl tq_196 rfl dX3_skipBlanks_32 hF (fun M H locs hW hS hF => ?_)
      obtain ⟨xv7, exv7, hF⟩ := ps_ve hF
      refine lv_iinc (v := xv7) (lv' := [(1, .int xv7), (0, .ref (B + a0))]) hx hb dX3_skipBlanks_35 hl (k := 1) rfl (by rw [exv7]; rfl) (by decide) rfl (fun ls hl => ?_)
      clear exv7
      refine lv_goto (tgt := 2) hx hb dX3_skipBlanks_38 (by decide) ?_
      exact hk2 M _ _ _ a0 xv7 hF hW hS (lv_sub hl [1, 0] rfl)
theorem kb_X3_skipBlanks_l2 (C : ps_C p s m args meth c cX3_skipBlanks 2 RX3 none "skipBlanks" D Y B) {q : ps_M}  : ∀ (n : Nat) (M : ps_M) (H : Heap) (locs : List Loc) (ls : Array Slot) (a0 : Nat) (x1 : Int32), f_X3_skipBlanks_l2 n M a0 x1 = some q → ps_W D Y B M H → va_S (fun q => B ≤ q) s.heap H locs → lv_has ls 2 [(0, .ref (B + a0)), (1, .int x1)] → W p l e rm_X3_skipBlanks s m args below meth c H locs 0 0 (ps_Qv D Y B below args s 0 0 q) (F0 m 2 ls []) := by
  intro n
  induction n with
  | zero => intro M H locs ls a0 x1 hF; cases hF
  | succ n ih => intro M H locs ls a0 x1 hF hW hS hl; exact kb_X3_skipBlanks_w2 C  (f_X3_skipBlanks_l2 n) ih hF hW hS hl
set_option maxRecDepth 100000 in
set_option maxHeartbeats 4000000 in
theorem kb_X3_skipBlanks (C : ps_C p s m args meth c cX3_skipBlanks 2 RX3 none "skipBlanks" D Y B) {q : ps_M}  {M : ps_M} {a0 : Nat} (hF : f_X3_skipBlanks M a0 = some q) (hW : ps_W D Y B M H) (hS : va_S (fun q => B ≤ q) s.heap H locs) (hl : lv_has ls 2 [(0, .ref (B + a0))]) : W p l e rm_X3_skipBlanks s m args below meth c H locs 0 0 (ps_Qv D Y B below args s 0 0 q) (F0 m 0 ls []) := by
  have hx := C.1
  have hb := C.2.1
  have hml := C.2.2.1
  have hown := C.2.2.2.1
  have hts := C.2.2.2.2.1
  unfold f_X3_skipBlanks at hF
  refine lv_iconst (v := 0) hx hb dX3_skipBlanks_0 (by decide) ?_
  refine lv_istore_n (lv' := [(1, .int (0 : Int32)), (0, .ref (B + a0))]) hx hb dX3_skipBlanks_1 rfl hl (by decide) rfl (fun ls hl => ?_)
  exact kb_X3_skipBlanks_l2 C ps_fu M _ _ _ a0 (0 : Int32) hF hW hS (lv_sub hl [1, 0] rfl)
theorem mf_X3_skipBlanks : ps_mf yX3_skipBlanks cX3_skipBlanks 2 none 0 := ⟨tq_458, tq_63, by decide +kernel, by decide +kernel, by decide +kernel⟩
theorem c_X3_skipBlanks {l : Launch} {D : va_G} {Y : ps_A} {B : Nat} {M : ps_M} {a0 : Nat} {M' : ps_M} (hF : f_X3_skipBlanks M a0 = some M') : Met l yX3_skipBlanks (Cond.code yX3_skipBlanks cX3_skipBlanks 2 none :: tb_G) rm_X3_skipBlanks (ps_PB D Y B M [.ref (B + a0)]) (va_Qv (fun (_ : Unit) => True) (fun _ t => ps_St D Y B M' t) (fun q => B ≤ q)) 0 0 (fun q => B ≤ q) :=
  pm_of (by decide +kernel) (Nat.le_of_ble_eq_true rfl) (fun p e s m args below meth c C hW hS ls hl => kb_X3_skipBlanks C hF hW hS hl)

abbrev rm_X3_faultOfWord : Room := { frames := 0, cells := 0, slots := 0, locals := 0 }
def f_X3_faultOfWord_b120 (M : ps_M) (t0 : Int32) : Option (Int32 × ps_M) := some (t0, M)
def f_X3_faultOfWord_b110 (M : ps_M) (t0 : Int32) : Option (Int32 × ps_M) := if t0 = 0 then (f_X3_faultOfWord_b120 M (0 : Int32)) else (f_X3_faultOfWord_b120 M (3 : Int32))
def f_X3_faultOfWord_b105 (M : ps_M)  : Option (Int32 × ps_M) := f_X3_faultOfWord_b110 M (1 : Int32)
def f_X3_faultOfWord_b109 (M : ps_M)  : Option (Int32 × ps_M) := f_X3_faultOfWord_b110 M (0 : Int32)
def f_X3_faultOfWord_b92 (M : ps_M) (a0 : Nat) (x1 : Int32) : Option (Int32 × ps_M) := if x1 = (99 : Int32) then (ps_gI M a0 3 6 (fun xv3 => if xv3 = 0 then (f_X3_faultOfWord_b109 M ) else (f_X3_faultOfWord_b105 M ))) else (f_X3_faultOfWord_b109 M )
def f_X3_faultOfWord_b79 (M : ps_M) (a0 : Nat) (x1 : Int32) : Option (Int32 × ps_M) := if x1 = (115 : Int32) then (ps_gI M a0 3 5 (fun xv6 => if xv6 = 0 then (f_X3_faultOfWord_b92 M a0 x1) else (f_X3_faultOfWord_b105 M ))) else (f_X3_faultOfWord_b92 M a0 x1)
def f_X3_faultOfWord_b62 (M : ps_M) (a0 : Nat) (x1 : Int32) : Option (Int32 × ps_M) := if x1 = (112 : Int32) then (ps_gR M a0 3 1 (fun av9 => ps_gI M av9 7 1 (fun xv10 => if (4 : Int32) ≤ xv10 then (f_X3_faultOfWord_b105 M ) else (f_X3_faultOfWord_b79 M a0 x1)))) else (f_X3_faultOfWord_b79 M a0 x1)
def f_X3_faultOfWord_b39 (M : ps_M) (a0 : Nat) (x1 : Int32) (t0 : Int32) : Option (Int32 × ps_M) := if t0 = 0 then (some ((1 : Int32), M)) else (if x1 = (108 : Int32) then (ps_gR M a0 3 1 (fun av14 => ps_gI M av14 7 0 (fun xv15 => if 0 < xv15 then (f_X3_faultOfWord_b105 M ) else (f_X3_faultOfWord_b62 M a0 x1)))) else (f_X3_faultOfWord_b62 M a0 x1))
def f_X3_faultOfWord_b34 (M : ps_M) (a0 : Nat) (x1 : Int32) : Option (Int32 × ps_M) := f_X3_faultOfWord_b39 M a0 x1 (1 : Int32)
def f_X3_faultOfWord_b38 (M : ps_M) (a0 : Nat) (x1 : Int32) : Option (Int32 × ps_M) := f_X3_faultOfWord_b39 M a0 x1 (0 : Int32)
def f_X3_faultOfWord (M : ps_M) (a0 : Nat) (x1 : Int32) : Option (Int32 × ps_M) := if x1 = (108 : Int32) then (f_X3_faultOfWord_b34 M a0 x1) else (ps_gR M a0 3 1 (fun av18 => ps_gI M av18 7 0 (fun xv19 => if xv19 ≤ 0 then (f_X3_faultOfWord_b38 M a0 x1) else (if x1 = (112 : Int32) then (f_X3_faultOfWord_b34 M a0 x1) else (if x1 = (115 : Int32) then (f_X3_faultOfWord_b34 M a0 x1) else (if x1 = (99 : Int32) then (f_X3_faultOfWord_b34 M a0 x1) else (f_X3_faultOfWord_b38 M a0 x1)))))))
set_option maxRecDepth 100000 in
set_option maxHeartbeats 4000000 in
theorem kb_X3_faultOfWord_b120 (C : ps_C p s m args meth c cX3_faultOfWord 4 RX3 ((some .int)) "faultOfWord" D Y B) {q : Int32 × ps_M}  {M : ps_M} {t0 : Int32} (hF : f_X3_faultOfWord_b120 M t0 = some q) (hW : ps_W D Y B M H) (hS : va_S (fun q => B ≤ q) s.heap H locs) (hl : lv_has ls 4 []) : W p l e rm_X3_faultOfWord s m args below meth c H locs 0 0 (ps_Qi D Y B below args s 0 0 q) (F0 m 120 ls [.int t0]) := by
  have hx := C.1
  have hb := C.2.1
  have hml := C.2.2.1
  have hown := C.2.2.2.1
  have hts := C.2.2.2.2.1
  unfold f_X3_faultOfWord_b120 at hF
  exact pw_iret C hW hS dX3_faultOfWord_120 hF
set_option maxRecDepth 100000 in
set_option maxHeartbeats 4000000 in
theorem kb_X3_faultOfWord_b110 (C : ps_C p s m args meth c cX3_faultOfWord 4 RX3 ((some .int)) "faultOfWord" D Y B) {q : Int32 × ps_M}  {M : ps_M} {t0 : Int32} (hF : f_X3_faultOfWord_b110 M t0 = some q) (hW : ps_W D Y B M H) (hS : va_S (fun q => B ≤ q) s.heap H locs) (hl : lv_has ls 4 []) : W p l e rm_X3_faultOfWord s m args below meth c H locs 0 0 (ps_Qi D Y B below args s 0 0 q) (F0 m 110 ls [.int t0]) := by
  have hx := C.1
  have hb := C.2.1
  have hml := C.2.2.1
  have hown := C.2.2.2.1
  have hts := C.2.2.2.2.1
  unfold f_X3_faultOfWord_b110 at hF
  refine lv_istore_n (lv' := [(3, .int t0)]) hx hb dX3_faultOfWord_110 rfl hl (by decide) rfl (fun ls hl => ?_)
  refine lv_iload_n hx hb dX3_faultOfWord_111 rfl (lv_at hl 0 rfl) ?_
  refine lv_if_eq (tgt := 119) hx hb dX3_faultOfWord_112 (by decide) (fun hv1 => ?_) (fun hv1 => ?_)
  · replace hF := (if_pos hv1).symm.trans hF
    refine lv_iconst (v := 0) hx hb dX3_faultOfWord_119 (by decide) ?_
    exact kb_X3_faultOfWord_b120 C hF hW hS (lv_sub hl [] rfl)
  · replace hF := (if_neg hv1).symm.trans hF
    refine lv_iconst (v := 3) hx hb dX3_faultOfWord_115 (by decide) ?_
    refine lv_goto (tgt := 120) hx hb dX3_faultOfWord_116 (by decide) ?_
    exact kb_X3_faultOfWord_b120 C hF hW hS (lv_sub hl [] rfl)
set_option maxRecDepth 100000 in
set_option maxHeartbeats 4000000 in
theorem kb_X3_faultOfWord_b105 (C : ps_C p s m args meth c cX3_faultOfWord 4 RX3 ((some .int)) "faultOfWord" D Y B) {q : Int32 × ps_M}  {M : ps_M}  (hF : f_X3_faultOfWord_b105 M  = some q) (hW : ps_W D Y B M H) (hS : va_S (fun q => B ≤ q) s.heap H locs) (hl : lv_has ls 4 []) : W p l e rm_X3_faultOfWord s m args below meth c H locs 0 0 (ps_Qi D Y B below args s 0 0 q) (F0 m 105 ls []) := by
  have hx := C.1
  have hb := C.2.1
  have hml := C.2.2.1
  have hown := C.2.2.2.1
  have hts := C.2.2.2.2.1
  unfold f_X3_faultOfWord_b105 at hF
  refine lv_iconst (v := 1) hx hb dX3_faultOfWord_105 (by decide) ?_
  refine lv_goto (tgt := 110) hx hb dX3_faultOfWord_106 (by decide) ?_
  exact kb_X3_faultOfWord_b110 C hF hW hS (lv_sub hl [] rfl)
set_option maxRecDepth 100000 in
set_option maxHeartbeats 4000000 in
theorem kb_X3_faultOfWord_b109 (C : ps_C p s m args meth c cX3_faultOfWord 4 RX3 ((some .int)) "faultOfWord" D Y B) {q : Int32 × ps_M}  {M : ps_M}  (hF : f_X3_faultOfWord_b109 M  = some q) (hW : ps_W D Y B M H) (hS : va_S (fun q => B ≤ q) s.heap H locs) (hl : lv_has ls 4 []) : W p l e rm_X3_faultOfWord s m args below meth c H locs 0 0 (ps_Qi D Y B below args s 0 0 q) (F0 m 109 ls []) := by
  have hx := C.1
  have hb := C.2.1
  have hml := C.2.2.1
  have hown := C.2.2.2.1
  have hts := C.2.2.2.2.1
  unfold f_X3_faultOfWord_b109 at hF
  refine lv_iconst (v := 0) hx hb dX3_faultOfWord_109 (by decide) ?_
  exact kb_X3_faultOfWord_b110 C hF hW hS (lv_sub hl [] rfl)
set_option maxRecDepth 100000 in
set_option maxHeartbeats 4000000 in
theorem kb_X3_faultOfWord_b92 (C : ps_C p s m args meth c cX3_faultOfWord 4 RX3 ((some .int)) "faultOfWord" D Y B) {q : Int32 × ps_M}  {M : ps_M} {a0 : Nat} {x1 : Int32} (hF : f_X3_faultOfWord_b92 M a0 x1 = some q) (hW : ps_W D Y B M H) (hS : va_S (fun q => B ≤ q) s.heap H locs) (hl : lv_has ls 4 [(0, .ref (B + a0)), (1, .int x1)]) : W p l e rm_X3_faultOfWord s m args below meth c H locs 0 0 (ps_Qi D Y B below args s 0 0 q) (F0 m 92 ls []) := by
  have hx := C.1
  have hb := C.2.1
  have hml := C.2.2.1
  have hown := C.2.2.2.1
  have hts := C.2.2.2.2.1
  unfold f_X3_faultOfWord_b92 at hF
  refine lv_iload_n hx hb dX3_faultOfWord_92 rfl (lv_at hl 1 rfl) ?_
  refine lv_bipush (v := 99) hx hb dX3_faultOfWord_93 (by decide) ?_
  refine lv_icmp_ne (tgt := 109) hx hb dX3_faultOfWord_95 (by decide) (fun hv2 => ?_) (fun hv2 => ?_)
  · replace hF := (if_neg hv2).symm.trans hF
    exact kb_X3_faultOfWord_b109 C hF hW hS (lv_sub hl [] rfl)
  · replace hF := (if_pos hv2).symm.trans hF
    refine lv_aload_n hx hb dX3_faultOfWord_98 rfl (lv_at hl 0 rfl) ?_
    refine pw_gI C hW pc_3 (k := 6) (by decide) rfl tq_198 dX3_faultOfWord_99 hF (fun xv3 hF => ?_)
    refine lv_if_eq (tgt := 109) hx hb dX3_faultOfWord_102 (by decide) (fun hv4 => ?_) (fun hv4 => ?_)
    · replace hF := (if_pos hv4).symm.trans hF
      exact kb_X3_faultOfWord_b109 C hF hW hS (lv_sub hl [] rfl)
    · replace hF := (if_neg hv4).symm.trans hF
      exact kb_X3_faultOfWord_b105 C hF hW hS (lv_sub hl [] rfl)
set_option maxRecDepth 100000 in
set_option maxHeartbeats 4000000 in
theorem kb_X3_faultOfWord_b79 (C : ps_C p s m args meth c cX3_faultOfWord 4 RX3 ((some .int)) "faultOfWord" D Y B) {q : Int32 × ps_M}  {M : ps_M} {a0 : Nat} {x1 : Int32} (hF : f_X3_faultOfWord_b79 M a0 x1 = some q) (hW : ps_W D Y B M H) (hS : va_S (fun q => B ≤ q) s.heap H locs) (hl : lv_has ls 4 [(0, .ref (B + a0)), (1, .int x1)]) : W p l e rm_X3_faultOfWord s m args below meth c H locs 0 0 (ps_Qi D Y B below args s 0 0 q) (F0 m 79 ls []) := by
  have hx := C.1
  have hb := C.2.1
  have hml := C.2.2.1
  have hown := C.2.2.2.1
  have hts := C.2.2.2.2.1
  unfold f_X3_faultOfWord_b79 at hF
  refine lv_iload_n hx hb dX3_faultOfWord_79 rfl (lv_at hl 1 rfl) ?_
  refine lv_bipush (v := 115) hx hb dX3_faultOfWord_80 (by decide) ?_
  refine lv_icmp_ne (tgt := 92) hx hb dX3_faultOfWord_82 (by decide) (fun hv5 => ?_) (fun hv5 => ?_)
  · replace hF := (if_neg hv5).symm.trans hF
    exact kb_X3_faultOfWord_b92 C hF hW hS (lv_sub hl [0, 1] rfl)
  · replace hF := (if_pos hv5).symm.trans hF
    refine lv_aload_n hx hb dX3_faultOfWord_85 rfl (lv_at hl 0 rfl) ?_
    refine pw_gI C hW pc_3 (k := 5) (by decide) rfl tq_197 dX3_faultOfWord_86 hF (fun xv6 hF => ?_)
    refine lv_if_ne (tgt := 105) hx hb dX3_faultOfWord_89 (by decide) (fun hv7 => ?_) (fun hv7 => ?_)
    · replace hF := (if_neg hv7).symm.trans hF
      exact kb_X3_faultOfWord_b105 C hF hW hS (lv_sub hl [] rfl)
    · replace hF := (if_pos hv7).symm.trans hF
      exact kb_X3_faultOfWord_b92 C hF hW hS (lv_sub hl [0, 1] rfl)
set_option maxRecDepth 100000 in
set_option maxHeartbeats 4000000 in
theorem kb_X3_faultOfWord_b62 (C : ps_C p s m args meth c cX3_faultOfWord 4 RX3 ((some .int)) "faultOfWord" D Y B) {q : Int32 × ps_M}  {M : ps_M} {a0 : Nat} {x1 : Int32} (hF : f_X3_faultOfWord_b62 M a0 x1 = some q) (hW : ps_W D Y B M H) (hS : va_S (fun q => B ≤ q) s.heap H locs) (hl : lv_has ls 4 [(0, .ref (B + a0)), (1, .int x1)]) : W p l e rm_X3_faultOfWord s m args below meth c H locs 0 0 (ps_Qi D Y B below args s 0 0 q) (F0 m 62 ls []) := by
  have hx := C.1
  have hb := C.2.1
  have hml := C.2.2.1
  have hown := C.2.2.2.1
  have hts := C.2.2.2.2.1
  unfold f_X3_faultOfWord_b62 at hF
  refine lv_iload_n hx hb dX3_faultOfWord_62 rfl (lv_at hl 1 rfl) ?_
  refine lv_bipush (v := 112) hx hb dX3_faultOfWord_63 (by decide) ?_
  refine lv_icmp_ne (tgt := 79) hx hb dX3_faultOfWord_65 (by decide) (fun hv8 => ?_) (fun hv8 => ?_)
  · replace hF := (if_neg hv8).symm.trans hF
    exact kb_X3_faultOfWord_b79 C hF hW hS (lv_sub hl [0, 1] rfl)
  · replace hF := (if_pos hv8).symm.trans hF
    refine lv_aload_n hx hb dX3_faultOfWord_68 rfl (lv_at hl 0 rfl) ?_
    refine pw_gR C hW pc_3 (k := 1) (by decide) rfl tq_190 dX3_faultOfWord_69 hF (fun av9 hF => ?_)
    refine pw_gI C hW pc_7 (k := 1) (by decide) rfl tq_93 dX3_faultOfWord_72 hF (fun xv10 hF => ?_)
    refine lv_iconst (v := 4) hx hb dX3_faultOfWord_75 (by decide) ?_
    refine lv_icmp_ge (tgt := 105) hx hb dX3_faultOfWord_76 (by decide) (fun hv11 => ?_) (fun hv11 => ?_)
    · replace hF := (if_pos hv11).symm.trans hF
      exact kb_X3_faultOfWord_b105 C hF hW hS (lv_sub hl [] rfl)
    · replace hF := (if_neg hv11).symm.trans hF
      exact kb_X3_faultOfWord_b79 C hF hW hS (lv_sub hl [0, 1] rfl)
set_option maxRecDepth 100000 in
set_option maxHeartbeats 4000000 in
theorem kb_X3_faultOfWord_b39 (C : ps_C p s m args meth c cX3_faultOfWord 4 RX3 ((some .int)) "faultOfWord" D Y B) {q : Int32 × ps_M}  {M : ps_M} {a0 : Nat} {x1 : Int32} {t0 : Int32} (hF : f_X3_faultOfWord_b39 M a0 x1 t0 = some q) (hW : ps_W D Y B M H) (hS : va_S (fun q => B ≤ q) s.heap H locs) (hl : lv_has ls 4 [(0, .ref (B + a0)), (1, .int x1)]) : W p l e rm_X3_faultOfWord s m args below meth c H locs 0 0 (ps_Qi D Y B below args s 0 0 q) (F0 m 39 ls [.int t0]) := by
  have hx := C.1
  have hb := C.2.1
  have hml := C.2.2.1
  have hown := C.2.2.2.1
  have hts := C.2.2.2.2.1
  unfold f_X3_faultOfWord_b39 at hF
  refine lv_istore_n (lv' := [(2, .int t0), (0, .ref (B + a0)), (1, .int x1)]) hx hb dX3_faultOfWord_39 rfl hl (by decide) rfl (fun ls hl => ?_)
  refine lv_iload_n hx hb dX3_faultOfWord_40 rfl (lv_at hl 0 rfl) ?_
  refine lv_if_ne (tgt := 46) hx hb dX3_faultOfWord_41 (by decide) (fun hv12 => ?_) (fun hv12 => ?_)
  · replace hF := (if_neg hv12).symm.trans hF
    refine lv_iload_n hx hb dX3_faultOfWord_46 rfl (lv_at hl 2 rfl) ?_
    refine lv_bipush (v := 108) hx hb dX3_faultOfWord_47 (by decide) ?_
    refine lv_icmp_ne (tgt := 62) hx hb dX3_faultOfWord_49 (by decide) (fun hv13 => ?_) (fun hv13 => ?_)
    · replace hF := (if_neg hv13).symm.trans hF
      exact kb_X3_faultOfWord_b62 C hF hW hS (lv_sub hl [1, 2] rfl)
    · replace hF := (if_pos hv13).symm.trans hF
      refine lv_aload_n hx hb dX3_faultOfWord_52 rfl (lv_at hl 1 rfl) ?_
      refine pw_gR C hW pc_3 (k := 1) (by decide) rfl tq_190 dX3_faultOfWord_53 hF (fun av14 hF => ?_)
      refine pw_gI C hW pc_7 (k := 0) (by decide) rfl tq_90 dX3_faultOfWord_56 hF (fun xv15 hF => ?_)
      refine lv_if_gt (tgt := 105) hx hb dX3_faultOfWord_59 (by decide) (fun hv16 => ?_) (fun hv16 => ?_)
      · replace hF := (if_pos hv16).symm.trans hF
        exact kb_X3_faultOfWord_b105 C hF hW hS (lv_sub hl [] rfl)
      · replace hF := (if_neg hv16).symm.trans hF
        exact kb_X3_faultOfWord_b62 C hF hW hS (lv_sub hl [1, 2] rfl)
  · replace hF := (if_pos hv12).symm.trans hF
    refine lv_iconst (v := 1) hx hb dX3_faultOfWord_44 (by decide) ?_
    exact pw_iret C hW hS dX3_faultOfWord_45 hF
set_option maxRecDepth 100000 in
set_option maxHeartbeats 4000000 in
theorem kb_X3_faultOfWord_b34 (C : ps_C p s m args meth c cX3_faultOfWord 4 RX3 ((some .int)) "faultOfWord" D Y B) {q : Int32 × ps_M}  {M : ps_M} {a0 : Nat} {x1 : Int32} (hF : f_X3_faultOfWord_b34 M a0 x1 = some q) (hW : ps_W D Y B M H) (hS : va_S (fun q => B ≤ q) s.heap H locs) (hl : lv_has ls 4 [(0, .ref (B + a0)), (1, .int x1)]) : W p l e rm_X3_faultOfWord s m args below meth c H locs 0 0 (ps_Qi D Y B below args s 0 0 q) (F0 m 34 ls []) := by
  have hx := C.1
  have hb := C.2.1
  have hml := C.2.2.1
  have hown := C.2.2.2.1
  have hts := C.2.2.2.2.1
  unfold f_X3_faultOfWord_b34 at hF
  refine lv_iconst (v := 1) hx hb dX3_faultOfWord_34 (by decide) ?_
  refine lv_goto (tgt := 39) hx hb dX3_faultOfWord_35 (by decide) ?_
  exact kb_X3_faultOfWord_b39 C hF hW hS (lv_sub hl [0, 1] rfl)
set_option maxRecDepth 100000 in
set_option maxHeartbeats 4000000 in
theorem kb_X3_faultOfWord_b38 (C : ps_C p s m args meth c cX3_faultOfWord 4 RX3 ((some .int)) "faultOfWord" D Y B) {q : Int32 × ps_M}  {M : ps_M} {a0 : Nat} {x1 : Int32} (hF : f_X3_faultOfWord_b38 M a0 x1 = some q) (hW : ps_W D Y B M H) (hS : va_S (fun q => B ≤ q) s.heap H locs) (hl : lv_has ls 4 [(0, .ref (B + a0)), (1, .int x1)]) : W p l e rm_X3_faultOfWord s m args below meth c H locs 0 0 (ps_Qi D Y B below args s 0 0 q) (F0 m 38 ls []) := by
  have hx := C.1
  have hb := C.2.1
  have hml := C.2.2.1
  have hown := C.2.2.2.1
  have hts := C.2.2.2.2.1
  unfold f_X3_faultOfWord_b38 at hF
  refine lv_iconst (v := 0) hx hb dX3_faultOfWord_38 (by decide) ?_
  exact kb_X3_faultOfWord_b39 C hF hW hS (lv_sub hl [0, 1] rfl)
set_option maxRecDepth 100000 in
set_option maxHeartbeats 4000000 in
theorem kb_X3_faultOfWord (C : ps_C p s m args meth c cX3_faultOfWord 4 RX3 ((some .int)) "faultOfWord" D Y B) {q : Int32 × ps_M}  {M : ps_M} {a0 : Nat} {x1 : Int32} (hF : f_X3_faultOfWord M a0 x1 = some q) (hW : ps_W D Y B M H) (hS : va_S (fun q => B ≤ q) s.heap H locs) (hl : lv_has ls 4 [(0, .ref (B + a0)), (1, .int x1)]) : W p l e rm_X3_faultOfWord s m args below meth c H locs 0 0 (ps_Qi D Y B below args s 0 0 q) (F0 m 0 ls []) := by
  have hx := C.1
  have hb := C.2.1
  have hml := C.2.2.1
  have hown := C.2.2.2.1
  have hts := C.2.2.2.2.1
  unfold f_X3_faultOfWord at hF
  refine lv_iload_n hx hb dX3_faultOfWord_0 rfl (lv_at hl 1 rfl) ?_
  refine lv_bipush (v := 108) hx hb dX3_faultOfWord_1 (by decide) ?_
  refine lv_icmp_eq (tgt := 34) hx hb dX3_faultOfWord_3 (by decide) (fun hv17 => ?_) (fun hv17 => ?_)
  · replace hF := (if_pos hv17).symm.trans hF
    exact kb_X3_faultOfWord_b34 C hF hW hS (lv_sub hl [0, 1] rfl)
  · replace hF := (if_neg hv17).symm.trans hF
    refine lv_aload_n hx hb dX3_faultOfWord_6 rfl (lv_at hl 0 rfl) ?_
    refine pw_gR C hW pc_3 (k := 1) (by decide) rfl tq_190 dX3_faultOfWord_7 hF (fun av18 hF => ?_)
    refine pw_gI C hW pc_7 (k := 0) (by decide) rfl tq_90 dX3_faultOfWord_10 hF (fun xv19 hF => ?_)
    refine lv_if_le (tgt := 38) hx hb dX3_faultOfWord_13 (by decide) (fun hv20 => ?_) (fun hv20 => ?_)
    · replace hF := (if_pos hv20).symm.trans hF
      exact kb_X3_faultOfWord_b38 C hF hW hS (lv_sub hl [0, 1] rfl)
    · replace hF := (if_neg hv20).symm.trans hF
      refine lv_iload_n hx hb dX3_faultOfWord_16 rfl (lv_at hl 1 rfl) ?_
      refine lv_bipush (v := 112) hx hb dX3_faultOfWord_17 (by decide) ?_
      refine lv_icmp_eq (tgt := 34) hx hb dX3_faultOfWord_19 (by decide) (fun hv21 => ?_) (fun hv21 => ?_)
      · replace hF := (if_pos hv21).symm.trans hF
        exact kb_X3_faultOfWord_b34 C hF hW hS (lv_sub hl [0, 1] rfl)
      · replace hF := (if_neg hv21).symm.trans hF
        refine lv_iload_n hx hb dX3_faultOfWord_22 rfl (lv_at hl 1 rfl) ?_
        refine lv_bipush (v := 115) hx hb dX3_faultOfWord_23 (by decide) ?_
        refine lv_icmp_eq (tgt := 34) hx hb dX3_faultOfWord_25 (by decide) (fun hv22 => ?_) (fun hv22 => ?_)
        · replace hF := (if_pos hv22).symm.trans hF
          exact kb_X3_faultOfWord_b34 C hF hW hS (lv_sub hl [0, 1] rfl)
        · replace hF := (if_neg hv22).symm.trans hF
          refine lv_iload_n hx hb dX3_faultOfWord_28 rfl (lv_at hl 1 rfl) ?_
          refine lv_bipush (v := 99) hx hb dX3_faultOfWord_29 (by decide) ?_
          refine lv_icmp_ne (tgt := 38) hx hb dX3_faultOfWord_31 (by decide) (fun hv23 => ?_) (fun hv23 => ?_)
          · replace hF := (if_neg hv23).symm.trans hF
            exact kb_X3_faultOfWord_b38 C hF hW hS (lv_sub hl [0, 1] rfl)
          · replace hF := (if_pos hv23).symm.trans hF
            exact kb_X3_faultOfWord_b34 C hF hW hS (lv_sub hl [0, 1] rfl)
theorem mf_X3_faultOfWord : ps_mf yX3_faultOfWord cX3_faultOfWord 4 ((some .int)) 1 := ⟨tq_470, tq_63, by decide +kernel, by decide +kernel, by decide +kernel⟩
theorem c_X3_faultOfWord {l : Launch} {D : va_G} {Y : ps_A} {B : Nat} {M : ps_M} {a0 : Nat} {x1 : Int32} {r : Int32} {M' : ps_M} (hF : f_X3_faultOfWord M a0 x1 = some (r, M')) : Met l yX3_faultOfWord (Cond.code yX3_faultOfWord cX3_faultOfWord 4 ((some .int)) :: tb_G) rm_X3_faultOfWord (ps_PB D Y B M [.ref (B + a0), .int x1]) (va_Qi (fun x (_ : Unit) => x = r) (fun _ t => ps_St D Y B M' t) (fun q => B ≤ q)) 0 0 (fun q => B ≤ q) :=
  pm_of (by decide +kernel) (Nat.le_of_ble_eq_true rfl) (fun p e s m args below meth c C hW hS ls hl => kb_X3_faultOfWord C hF hW hS hl)

abbrev rm_X3_markFault : Room := { frames := 0, cells := 0, slots := 0, locals := 0 }
def f_X3_markFault_b17 (M : ps_M)  : Option (ps_M) := some M
def f_X3_markFault (M : ps_M) (a0 : Nat) (x1 : Int32) (x2 : Int32) : Option (ps_M) := ps_gI M a0 3 2 (fun xv1 => if xv1 = 0 then (ps_pI M a0 3 2 x1 (fun M => ps_pI M a0 3 3 x2 (fun M => f_X3_markFault_b17 M ))) else (f_X3_markFault_b17 M ))
set_option maxRecDepth 100000 in
set_option maxHeartbeats 4000000 in
theorem kb_X3_markFault_b17 (C : ps_C p s m args meth c cX3_markFault 3 RX3 none "markFault" D Y B) {q : ps_M}  {M : ps_M}  (hF : f_X3_markFault_b17 M  = some q) (hW : ps_W D Y B M H) (hS : va_S (fun q => B ≤ q) s.heap H locs) (hl : lv_has ls 3 []) : W p l e rm_X3_markFault s m args below meth c H locs 0 0 (ps_Qv D Y B below args s 0 0 q) (F0 m 17 ls []) := by
  have hx := C.1
  have hb := C.2.1
  have hml := C.2.2.1
  have hown := C.2.2.2.1
  have hts := C.2.2.2.2.1
  unfold f_X3_markFault_b17 at hF
  exact pw_vret C hW hS dX3_markFault_17 hF
set_option maxRecDepth 100000 in
set_option maxHeartbeats 4000000 in
theorem kb_X3_markFault (C : ps_C p s m args meth c cX3_markFault 3 RX3 none "markFault" D Y B) {q : ps_M}  {M : ps_M} {a0 : Nat} {x1 : Int32} {x2 : Int32} (hF : f_X3_markFault M a0 x1 x2 = some q) (hW : ps_W D Y B M H) (hS : va_S (fun q => B ≤ q) s.heap H locs) (hl : lv_has ls 3 [(0, .ref (B + a0)), (1, .int x1), (2, .int x2)]) : W p l e rm_X3_markFault s m args below meth c H locs 0 0 (ps_Qv D Y B below args s 0 0 q) (F0 m 0 ls []) := by
  have hx := C.1
  have hb := C.2.1
  have hml := C.2.2.1
  have hown := C.2.2.2.1
  have hts := C.2.2.2.2.1
  unfold f_X3_markFault at hF
  refine lv_aload_n hx hb dX3_markFault_0 rfl (lv_at hl 0 rfl) ?_
  refine pw_gI C hW pc_3 (k := 2) (by decide) rfl tq_192 dX3_markFault_1 hF (fun xv1 hF => ?_)
  refine lv_if_ne (tgt := 17) hx hb dX3_markFault_4 (by decide) (fun hv2 => ?_) (fun hv2 => ?_)
  · replace hF := (if_neg hv2).symm.trans hF
    exact kb_X3_markFault_b17 C hF hW hS (lv_sub hl [] rfl)
  · replace hF := (if_pos hv2).symm.trans hF
    refine lv_aload_n hx hb dX3_markFault_7 rfl (lv_at hl 0 rfl) ?_
    refine lv_iload_n hx hb dX3_markFault_8 rfl (lv_at hl 1 rfl) ?_
    refine pw_pI C hW hS pc_3 (k := 2) (by decide) rfl rfl tq_192 rfl dX3_markFault_9 hF (fun M H locs hW hS hF => ?_)
    refine lv_aload_n hx hb dX3_markFault_12 rfl (lv_at hl 0 rfl) ?_
    refine lv_iload_n hx hb dX3_markFault_13 rfl (lv_at hl 2 rfl) ?_
    refine pw_pI C hW hS pc_3 (k := 3) (by decide) rfl rfl tq_194 rfl dX3_markFault_14 hF (fun M H locs hW hS hF => ?_)
    exact kb_X3_markFault_b17 C hF hW hS (lv_sub hl [] rfl)
theorem mf_X3_markFault : ps_mf yX3_markFault cX3_markFault 3 none 2 := ⟨tq_474, tq_63, by decide +kernel, by decide +kernel, by decide +kernel⟩
theorem c_X3_markFault {l : Launch} {D : va_G} {Y : ps_A} {B : Nat} {M : ps_M} {a0 : Nat} {x1 : Int32} {x2 : Int32} {M' : ps_M} (hF : f_X3_markFault M a0 x1 x2 = some M') : Met l yX3_markFault (Cond.code yX3_markFault cX3_markFault 3 none :: tb_G) rm_X3_markFault (ps_PB D Y B M [.ref (B + a0), .int x1, .int x2]) (va_Qv (fun (_ : Unit) => True) (fun _ t => ps_St D Y B M' t) (fun q => B ≤ q)) 0 0 (fun q => B ≤ q) :=
  pm_of (by decide +kernel) (Nat.le_of_ble_eq_true rfl) (fun p e s m args below meth c C hW hS ls hl => kb_X3_markFault C hF hW hS hl)

abbrev rm_X3_isFigure : Room := { frames := 0, cells := 0, slots := 0, locals := 0 }
def f_X3_isFigure_b17 (M : ps_M) (t0 : Int32) : Option (Int32 × ps_M) := ps_z t0 M
def f_X3_isFigure_b16 (M : ps_M)  : Option (Int32 × ps_M) := f_X3_isFigure_b17 M (0 : Int32)
def f_X3_isFigure (M : ps_M) (x0 : Int32) : Option (Int32 × ps_M) := if x0 < (48 : Int32) then (f_X3_isFigure_b16 M ) else (if (57 : Int32) < x0 then (f_X3_isFigure_b16 M ) else (f_X3_isFigure_b17 M (1 : Int32)))
set_option maxRecDepth 100000 in
set_option maxHeartbeats 4000000 in
theorem kb_X3_isFigure_b17 (C : ps_C p s m args meth c cX3_isFigure 1 RX3 ((some .boolean)) "isFigure" D Y B) {q : Int32 × ps_M}  {M : ps_M} {t0 : Int32} (hF : f_X3_isFigure_b17 M t0 = some q) (hW : ps_W D Y B M H) (hS : va_S (fun q => B ≤ q) s.heap H locs) (hl : lv_has ls 1 []) : W p l e rm_X3_isFigure s m args below meth c H locs 0 0 (ps_Qi D Y B below args s 0 0 q) (F0 m 17 ls [.int t0]) := by
  have hx := C.1
  have hb := C.2.1
  have hml := C.2.2.1
  have hown := C.2.2.2.1
  have hts := C.2.2.2.2.1
  unfold f_X3_isFigure_b17 at hF
  exact pw_zret C hW hS dX3_isFigure_17 hF
set_option maxRecDepth 100000 in
set_option maxHeartbeats 4000000 in
theorem kb_X3_isFigure_b16 (C : ps_C p s m args meth c cX3_isFigure 1 RX3 ((some .boolean)) "isFigure" D Y B) {q : Int32 × ps_M}  {M : ps_M}  (hF : f_X3_isFigure_b16 M  = some q) (hW : ps_W D Y B M H) (hS : va_S (fun q => B ≤ q) s.heap H locs) (hl : lv_has ls 1 []) : W p l e rm_X3_isFigure s m args below meth c H locs 0 0 (ps_Qi D Y B below args s 0 0 q) (F0 m 16 ls []) := by
  have hx := C.1
  have hb := C.2.1
  have hml := C.2.2.1
  have hown := C.2.2.2.1
  have hts := C.2.2.2.2.1
  unfold f_X3_isFigure_b16 at hF
  refine lv_iconst (v := 0) hx hb dX3_isFigure_16 (by decide) ?_
  exact kb_X3_isFigure_b17 C hF hW hS (lv_sub hl [] rfl)
set_option maxRecDepth 100000 in
set_option maxHeartbeats 4000000 in
theorem kb_X3_isFigure (C : ps_C p s m args meth c cX3_isFigure 1 RX3 ((some .boolean)) "isFigure" D Y B) {q : Int32 × ps_M}  {M : ps_M} {x0 : Int32} (hF : f_X3_isFigure M x0 = some q) (hW : ps_W D Y B M H) (hS : va_S (fun q => B ≤ q) s.heap H locs) (hl : lv_has ls 1 [(0, .int x0)]) : W p l e rm_X3_isFigure s m args below meth c H locs 0 0 (ps_Qi D Y B below args s 0 0 q) (F0 m 0 ls []) := by
  have hx := C.1
  have hb := C.2.1
  have hml := C.2.2.1
  have hown := C.2.2.2.1
  have hts := C.2.2.2.2.1
  unfold f_X3_isFigure at hF
  refine lv_iload_n hx hb dX3_isFigure_0 rfl (lv_at hl 0 rfl) ?_
  refine lv_bipush (v := 48) hx hb dX3_isFigure_1 (by decide) ?_
  refine lv_icmp_lt (tgt := 16) hx hb dX3_isFigure_3 (by decide) (fun hv1 => ?_) (fun hv1 => ?_)
  · replace hF := (if_pos hv1).symm.trans hF
    exact kb_X3_isFigure_b16 C hF hW hS (lv_sub hl [] rfl)
  · replace hF := (if_neg hv1).symm.trans hF
    refine lv_iload_n hx hb dX3_isFigure_6 rfl (lv_at hl 0 rfl) ?_
    refine lv_bipush (v := 57) hx hb dX3_isFigure_7 (by decide) ?_
    refine lv_icmp_gt (tgt := 16) hx hb dX3_isFigure_9 (by decide) (fun hv2 => ?_) (fun hv2 => ?_)
    · replace hF := (if_pos hv2).symm.trans hF
      exact kb_X3_isFigure_b16 C hF hW hS (lv_sub hl [] rfl)
    · replace hF := (if_neg hv2).symm.trans hF
      refine lv_iconst (v := 1) hx hb dX3_isFigure_12 (by decide) ?_
      refine lv_goto (tgt := 17) hx hb dX3_isFigure_13 (by decide) ?_
      exact kb_X3_isFigure_b17 C hF hW hS (lv_sub hl [] rfl)
theorem mf_X3_isFigure : ps_mf yX3_isFigure cX3_isFigure 1 ((some .boolean)) 1 := ⟨tq_485, tq_63, by decide +kernel, by decide +kernel, by decide +kernel⟩
theorem c_X3_isFigure {l : Launch} {D : va_G} {Y : ps_A} {B : Nat} {M : ps_M} {x0 : Int32} {r : Int32} {M' : ps_M} (hF : f_X3_isFigure M x0 = some (r, M')) : Met l yX3_isFigure (Cond.code yX3_isFigure cX3_isFigure 1 ((some .boolean)) :: tb_G) rm_X3_isFigure (ps_PB D Y B M [.int x0]) (va_Qi (fun x (_ : Unit) => x = r) (fun _ t => ps_St D Y B M' t) (fun q => B ≤ q)) 0 0 (fun q => B ≤ q) :=
  pm_of (by decide +kernel) (Nat.le_of_ble_eq_true rfl) (fun p e s m args below meth c C hW hS ls hl => kb_X3_isFigure C hF hW hS hl)

abbrev rm_X3_readNumber : Room := { frames := 2, cells := 0, slots := 0, locals := 42 }
def f_X3_readNumber_b71 (k15 : ps_M → Nat → Int32 → Int32 → Int32 → Int32 → Int32 → Option (Int32 × ps_M)) (M : ps_M) (a0 : Nat) (x1 : Int32) (x2 : Int32) (x3 : Int32) (x5 : Int32) (t0 : Int32) : Option (Int32 × ps_M) := ps_gI M a0 3 4 (fun xv1 => ps_pI M a0 3 4 (xv1 + (1 : Int32)) (fun M => ps_v (x5 + 1) (fun xv2 => k15 M a0 x1 x2 x3 t0 xv2)))
def f_X3_readNumber_b134 (M : ps_M) (x4 : Int32) : Option (Int32 × ps_M) := some (x4, M)
def f_X3_readNumber_b128 (M : ps_M) (a0 : Nat) (x3 : Int32) (x4 : Int32) : Option (Int32 × ps_M) := ps_ck M a0 3 (ps_b1 (f_X3_markFault M a0 (2 : Int32) x3) (fun M => f_X3_readNumber_b134 M x4))
def f_X3_readNumber_b89 (M : ps_M) (a0 : Nat) (x1 : Int32) (x2 : Int32) (x3 : Int32) (x4 : Int32) : Option (Int32 × ps_M) := ps_gI M a0 3 4 (fun xv3 => if xv3 = x3 then (ps_ck M a0 3 (ps_b1 (f_X3_markFault M a0 (1 : Int32) x3) (fun M => f_X3_readNumber_b134 M x4))) else (ps_gI M a0 3 4 (fun xv5 => if (3 : Int32) < (xv5 - x3) then (f_X3_readNumber_b128 M a0 x3 x4) else (if x4 < x1 then (f_X3_readNumber_b128 M a0 x3 x4) else (if x4 ≤ x2 then (f_X3_readNumber_b134 M x4) else (f_X3_readNumber_b128 M a0 x3 x4))))))
def f_X3_readNumber_w15 (k15 : ps_M → Nat → Int32 → Int32 → Int32 → Int32 → Int32 → Option (Int32 × ps_M)) (M : ps_M) (a0 : Nat) (x1 : Int32) (x2 : Int32) (x3 : Int32) (x4 : Int32) (x5 : Int32) : Option (Int32 × ps_M) := if (250 : Int32) ≤ x5 then (f_X3_readNumber_b89 M a0 x1 x2 x3 x4) else (ps_gR M a0 3 0 (fun av10 => ps_gI M a0 3 4 (fun xv11 => ps_ck M av10 4 (ps_b2 (f_X5_mark M av10 xv11) (fun xv12 M => ps_b2 (f_X3_isFigure M xv12) (fun xv13 M => if xv13 = 0 then (f_X3_readNumber_b89 M a0 x1 x2 x3 x4) else (if (3 : Int32) ≤ x5 then (f_X3_readNumber_b71 k15 M a0 x1 x2 x3 x5 x4) else (ps_gR M a0 3 0 (fun av16 => ps_gI M a0 3 4 (fun xv17 => ps_ck M av16 4 (ps_b2 (f_X5_mark M av16 xv17) (fun xv18 M => f_X3_readNumber_b71 k15 M a0 x1 x2 x3 x5 (((x4 * (10 : Int32)) + xv18) - (48 : Int32))))))))))))))
def f_X3_readNumber_l15 : Nat → ps_M → Nat → Int32 → Int32 → Int32 → Int32 → Int32 → Option (Int32 × ps_M)
  | 0, _, _, _, _, _, _, _ => none
  | n + 1, M, a0, x1, x2, x3, x4, x5 => f_X3_readNumber_w15 (f_X3_readNumber_l15 n) M a0 x1 x2 x3 x4 x5
def f_X3_readNumber (M : ps_M) (a0 : Nat) (x1 : Int32) (x2 : Int32) : Option (Int32 × ps_M) := ps_ck M a0 3 (ps_b1 (f_X3_skipBlanks M a0 ) (fun M => ps_gI M a0 3 4 (fun xv19 => f_X3_readNumber_l15 ps_fu M a0 x1 x2 xv19 (0 : Int32) (0 : Int32))))
set_option maxRecDepth 100000 in
set_option maxHeartbeats 4000000 in
theorem kb_X3_readNumber_b71 (C : ps_C p s m args meth c cX3_readNumber 6 RX3 ((some .int)) "readNumber" D Y B) {q : Int32 × ps_M} (k15 : ps_M → Nat → Int32 → Int32 → Int32 → Int32 → Int32 → Option (Int32 × ps_M)) (hk15 : ∀ (M : ps_M) (H : Heap) (locs : List Loc) (ls : Array Slot) (a0 : Nat) (x1 : Int32) (x2 : Int32) (x3 : Int32) (x4 : Int32) (x5 : Int32), k15 M a0 x1 x2 x3 x4 x5 = some q → ps_W D Y B M H → va_S (fun q => B ≤ q) s.heap H locs → lv_has ls 6 [(0, .ref (B + a0)), (1, .int x1), (2, .int x2), (3, .int x3), (4, .int x4), (5, .int x5)] → W p l e rm_X3_readNumber s m args below meth c H locs 0 0 (ps_Qi D Y B below args s 0 0 q) (F0 m 15 ls [])) {M : ps_M} {a0 : Nat} {x1 : Int32} {x2 : Int32} {x3 : Int32} {x5 : Int32} {t0 : Int32} (hF : f_X3_readNumber_b71 k15 M a0 x1 x2 x3 x5 t0 = some q) (hW : ps_W D Y B M H) (hS : va_S (fun q => B ≤ q) s.heap H locs) (hl : lv_has ls 6 [(0, .ref (B + a0)), (1, .int x1), (2, .int x2), (3, .int x3), (5, .int x5)]) : W p l e rm_X3_readNumber s m args below meth c H locs 0 0 (ps_Qi D Y B below args s 0 0 q) (F0 m 71 ls [.int t0]) := by
  have hx := C.1
  have hb := C.2.1
  have hml := C.2.2.1
  have hown := C.2.2.2.1
  have hts := C.2.2.2.2.1
  unfold f_X3_readNumber_b71 at hF
  refine lv_istore (lv' := [(4, .int t0), (0, .ref (B + a0)), (1, .int x1), (2, .int x2), (3, .int x3), (5, .int x5)]) hx hb dX3_readNumber_71 hl (by decide) rfl (fun ls hl => ?_)
  refine lv_aload_n hx hb dX3_readNumber_73 rfl (lv_at hl 1 rfl) ?_
  refine lv_dup hx hb dX3_readNumber_74 rfl ?_
  refine pw_gI C hW pc_3 (k := 4) (by decide) rfl tq_196 dX3_readNumber_75 hF (fun xv1 hF => ?_)
  refine lv_iconst (v := 1) hx hb dX3_readNumber_78 (by decide) ?_
  refine lv_iadd hx hb dX3_readNumber_79 ?_
  refine pw_pI C hW hS pc_3 (k := 4) (by decide) rfl rfl tq_196 rfl dX3_readNumber_80 hF (fun M H locs hW hS hF => ?_)
  obtain ⟨xv2, exv2, hF⟩ := ps_ve hF
  refine lv_iinc (v := xv2) (lv' := [(5, .int xv2), (4, .int t0), (0, .ref (B + a0)), (1, .int x1), (2, .int x2), (3, .int x3)]) hx hb dX3_readNumber_83 hl (k := 5) rfl (by rw [exv2]; rfl) (by decide) rfl (fun ls hl => ?_)
  clear exv2
  refine lv_goto (tgt := 15) hx hb dX3_readNumber_86 (by decide) ?_
  exact hk15 M _ _ _ a0 x1 x2 x3 t0 xv2 hF hW hS (lv_sub hl [2, 3, 4, 5, 1, 0] rfl)
set_option maxRecDepth 100000 in
set_option maxHeartbeats 4000000 in
theorem kb_X3_readNumber_b134 (C : ps_C p s m args meth c cX3_readNumber 6 RX3 ((some .int)) "readNumber" D Y B) {q : Int32 × ps_M}  {M : ps_M} {x4 : Int32} (hF : f_X3_readNumber_b134 M x4 = some q) (hW : ps_W D Y B M H) (hS : va_S (fun q => B ≤ q) s.heap H locs) (hl : lv_has ls 6 [(4, .int x4)]) : W p l e rm_X3_readNumber s m args below meth c H locs 0 0 (ps_Qi D Y B below args s 0 0 q) (F0 m 134 ls []) := by
  have hx := C.1
  have hb := C.2.1
  have hml := C.2.2.1
  have hown := C.2.2.2.1
  have hts := C.2.2.2.2.1
  unfold f_X3_readNumber_b134 at hF
  refine lv_iload hx hb dX3_readNumber_134 (lv_at hl 0 rfl) ?_
  exact pw_iret C hW hS dX3_readNumber_136 hF
set_option maxRecDepth 100000 in
set_option maxHeartbeats 4000000 in
theorem kb_X3_readNumber_b128 (C : ps_C p s m args meth c cX3_readNumber 6 RX3 ((some .int)) "readNumber" D Y B) {q : Int32 × ps_M}  {M : ps_M} {a0 : Nat} {x3 : Int32} {x4 : Int32} (hF : f_X3_readNumber_b128 M a0 x3 x4 = some q) (hW : ps_W D Y B M H) (hS : va_S (fun q => B ≤ q) s.heap H locs) (hl : lv_has ls 6 [(0, .ref (B + a0)), (3, .int x3), (4, .int x4)]) : W p l e rm_X3_readNumber s m args below meth c H locs 0 0 (ps_Qi D Y B below args s 0 0 q) (F0 m 128 ls []) := by
  have hx := C.1
  have hb := C.2.1
  have hml := C.2.2.1
  have hown := C.2.2.2.1
  have hts := C.2.2.2.2.1
  unfold f_X3_readNumber_b128 at hF
  refine lv_aload_n hx hb dX3_readNumber_128 rfl (lv_at hl 0 rfl) ?_
  refine lv_iconst (v := 2) hx hb dX3_readNumber_129 (by decide) ?_
  refine lv_iload_n hx hb dX3_readNumber_130 rfl (lv_at hl 1 rfl) ?_
  obtain ⟨hK, hF⟩ := ps_ck_some hF
  obtain ⟨M9, hc, hF⟩ := ps_b1_some hF
  refine ps_backV (M' := M9) hS (ps_callV C hW pc_3 mf_X3_markFault tq_473 tq_3 tq_471 ⟨Nat.le_of_ble_eq_true rfl, Nat.le_of_ble_eq_true rfl⟩ rfl rfl (As := [.int (2 : Int32), .int x3]) (rest := []) (c_X3_markFault hc) hK rfl hl.1 rfl (Nat.le_of_ble_eq_true rfl) dX3_readNumber_131 ⟨Nat.le_of_ble_eq_true rfl, Nat.le_of_ble_eq_true rfl⟩) (fun H locs hW hS => ?_)
  clear hc
  generalize M9 = M at hW hF
  exact kb_X3_readNumber_b134 C hF hW hS (lv_sub hl [2] rfl)
set_option maxRecDepth 100000 in
set_option maxHeartbeats 4000000 in
theorem kb_X3_readNumber_b89 (C : ps_C p s m args meth c cX3_readNumber 6 RX3 ((some .int)) "readNumber" D Y B) {q : Int32 × ps_M}  {M : ps_M} {a0 : Nat} {x1 : Int32} {x2 : Int32} {x3 : Int32} {x4 : Int32} (hF : f_X3_readNumber_b89 M a0 x1 x2 x3 x4 = some q) (hW : ps_W D Y B M H) (hS : va_S (fun q => B ≤ q) s.heap H locs) (hl : lv_has ls 6 [(0, .ref (B + a0)), (1, .int x1), (2, .int x2), (3, .int x3), (4, .int x4)]) : W p l e rm_X3_readNumber s m args below meth c H locs 0 0 (ps_Qi D Y B below args s 0 0 q) (F0 m 89 ls []) := by
  have hx := C.1
  have hb := C.2.1
  have hml := C.2.2.1
  have hown := C.2.2.2.1
  have hts := C.2.2.2.2.1
  unfold f_X3_readNumber_b89 at hF
  refine lv_aload_n hx hb dX3_readNumber_89 rfl (lv_at hl 0 rfl) ?_
  refine pw_gI C hW pc_3 (k := 4) (by decide) rfl tq_196 dX3_readNumber_90 hF (fun xv3 hF => ?_)
  refine lv_iload_n hx hb dX3_readNumber_93 rfl (lv_at hl 3 rfl) ?_
  refine lv_icmp_ne (tgt := 106) hx hb dX3_readNumber_94 (by decide) (fun hv4 => ?_) (fun hv4 => ?_)
  · replace hF := (if_neg hv4).symm.trans hF
    refine lv_aload_n hx hb dX3_readNumber_106 rfl (lv_at hl 0 rfl) ?_
    refine pw_gI C hW pc_3 (k := 4) (by decide) rfl tq_196 dX3_readNumber_107 hF (fun xv5 hF => ?_)
    refine lv_iload_n hx hb dX3_readNumber_110 rfl (lv_at hl 3 rfl) ?_
    refine lv_isub hx hb dX3_readNumber_111 ?_
    refine lv_iconst (v := 3) hx hb dX3_readNumber_112 (by decide) ?_
    refine lv_icmp_gt (tgt := 128) hx hb dX3_readNumber_113 (by decide) (fun hv6 => ?_) (fun hv6 => ?_)
    · replace hF := (if_pos hv6).symm.trans hF
      exact kb_X3_readNumber_b128 C hF hW hS (lv_sub hl [0, 3, 4] rfl)
    · replace hF := (if_neg hv6).symm.trans hF
      refine lv_iload hx hb dX3_readNumber_116 (lv_at hl 4 rfl) ?_
      refine lv_iload_n hx hb dX3_readNumber_118 rfl (lv_at hl 1 rfl) ?_
      refine lv_icmp_lt (tgt := 128) hx hb dX3_readNumber_119 (by decide) (fun hv7 => ?_) (fun hv7 => ?_)
      · replace hF := (if_pos hv7).symm.trans hF
        exact kb_X3_readNumber_b128 C hF hW hS (lv_sub hl [0, 3, 4] rfl)
      · replace hF := (if_neg hv7).symm.trans hF
        refine lv_iload hx hb dX3_readNumber_122 (lv_at hl 4 rfl) ?_
        refine lv_iload_n hx hb dX3_readNumber_124 rfl (lv_at hl 2 rfl) ?_
        refine lv_icmp_le (tgt := 134) hx hb dX3_readNumber_125 (by decide) (fun hv8 => ?_) (fun hv8 => ?_)
        · replace hF := (if_pos hv8).symm.trans hF
          exact kb_X3_readNumber_b134 C hF hW hS (lv_sub hl [4] rfl)
        · replace hF := (if_neg hv8).symm.trans hF
          exact kb_X3_readNumber_b128 C hF hW hS (lv_sub hl [0, 3, 4] rfl)
  · replace hF := (if_pos hv4).symm.trans hF
    refine lv_aload_n hx hb dX3_readNumber_97 rfl (lv_at hl 0 rfl) ?_
    refine lv_iconst (v := 1) hx hb dX3_readNumber_98 (by decide) ?_
    refine lv_iload_n hx hb dX3_readNumber_99 rfl (lv_at hl 3 rfl) ?_
    obtain ⟨hK, hF⟩ := ps_ck_some hF
    obtain ⟨M9, hc, hF⟩ := ps_b1_some hF
    refine ps_backV (M' := M9) hS (ps_callV C hW pc_3 mf_X3_markFault tq_473 tq_3 tq_471 ⟨Nat.le_of_ble_eq_true rfl, Nat.le_of_ble_eq_true rfl⟩ rfl rfl (As := [.int (1 : Int32), .int x3]) (rest := []) (c_X3_markFault hc) hK rfl hl.1 rfl (Nat.le_of_ble_eq_true rfl) dX3_readNumber_100 ⟨Nat.le_of_ble_eq_true rfl, Nat.le_of_ble_eq_true rfl⟩) (fun H locs hW hS => ?_)
    clear hc
    generalize M9 = M at hW hF
    refine lv_goto (tgt := 134) hx hb dX3_readNumber_103 (by decide) ?_
    exact kb_X3_readNumber_b134 C hF hW hS (lv_sub hl [4] rfl)
set_option maxRecDepth 100000 in
set_option maxHeartbeats 4000000 in
theorem kb_X3_readNumber_w15 (C : ps_C p s m args meth c cX3_readNumber 6 RX3 ((some .int)) "readNumber" D Y B) {q : Int32 × ps_M} (k15 : ps_M → Nat → Int32 → Int32 → Int32 → Int32 → Int32 → Option (Int32 × ps_M)) (hk15 : ∀ (M : ps_M) (H : Heap) (locs : List Loc) (ls : Array Slot) (a0 : Nat) (x1 : Int32) (x2 : Int32) (x3 : Int32) (x4 : Int32) (x5 : Int32), k15 M a0 x1 x2 x3 x4 x5 = some q → ps_W D Y B M H → va_S (fun q => B ≤ q) s.heap H locs → lv_has ls 6 [(0, .ref (B + a0)), (1, .int x1), (2, .int x2), (3, .int x3), (4, .int x4), (5, .int x5)] → W p l e rm_X3_readNumber s m args below meth c H locs 0 0 (ps_Qi D Y B below args s 0 0 q) (F0 m 15 ls [])) {M : ps_M} {a0 : Nat} {x1 : Int32} {x2 : Int32} {x3 : Int32} {x4 : Int32} {x5 : Int32} (hF : f_X3_readNumber_w15 k15 M a0 x1 x2 x3 x4 x5 = some q) (hW : ps_W D Y B M H) (hS : va_S (fun q => B ≤ q) s.heap H locs) (hl : lv_has ls 6 [(0, .ref (B + a0)), (1, .int x1), (2, .int x2), (3, .int x3), (4, .int x4), (5, .int x5)]) : W p l e rm_X3_readNumber s m args below meth c H locs 0 0 (ps_Qi D Y B below args s 0 0 q) (F0 m 15 ls []) := by
  have hx := C.1
  have hb := C.2.1
  have hml := C.2.2.1
  have hown := C.2.2.2.1
  have hts := C.2.2.2.2.1
  unfold f_X3_readNumber_w15 at hF
  refine lv_iload hx hb dX3_readNumber_15 (lv_at hl 5 rfl) ?_
  refine lv_sipush (v := 250) hx hb dX3_readNumber_17 (by decide) ?_
  refine lv_icmp_ge (tgt := 89) hx hb dX3_readNumber_20 (by decide) (fun hv9 => ?_) (fun hv9 => ?_)
  · replace hF := (if_pos hv9).symm.trans hF
    exact kb_X3_readNumber_b89 C hF hW hS (lv_sub hl [0, 1, 2, 3, 4] rfl)
  · replace hF := (if_neg hv9).symm.trans hF
    refine lv_aload_n hx hb dX3_readNumber_23 rfl (lv_at hl 0 rfl) ?_
    refine pw_gR C hW pc_3 (k := 0) (by decide) rfl tq_188 dX3_readNumber_24 hF (fun av10 hF => ?_)
    refine lv_aload_n hx hb dX3_readNumber_27 rfl (lv_at hl 0 rfl) ?_
    refine pw_gI C hW pc_3 (k := 4) (by decide) rfl tq_196 dX3_readNumber_28 hF (fun xv11 hF => ?_)
    obtain ⟨hK, hF⟩ := ps_ck_some hF
    obtain ⟨xv12, M9, hc, hF⟩ := ps_b2_some hF
    refine ps_backI (x0 := xv12) (M' := M9) hS (ps_callV C hW pc_4 mf_X5_mark tq_460 tq_461 tq_459 ⟨Nat.le_of_ble_eq_true rfl, Nat.le_of_ble_eq_true rfl⟩ rfl rfl (As := [.int xv11]) (rest := []) (c_X5_mark hc) hK rfl hl.1 rfl (Nat.le_of_ble_eq_true rfl) dX3_readNumber_31 ⟨Nat.le_of_ble_eq_true rfl, Nat.le_of_ble_eq_true rfl⟩) (fun H locs hW hS => ?_)
    clear hc
    generalize M9 = M at hW hF
    obtain ⟨xv13, M9, hc, hF⟩ := ps_b2_some hF
    refine ps_backI (x0 := xv13) (M' := M9) hS (ps_callS C hW mf_X3_isFigure tq_484 tq_483 ⟨Nat.le_of_ble_eq_true rfl, Nat.le_of_ble_eq_true rfl⟩ rfl rfl (As := [.int xv12]) (rest := []) (c_X3_isFigure hc) rfl hl.1 rfl (Nat.le_of_ble_eq_true rfl) dX3_readNumber_34 ⟨Nat.le_of_ble_eq_true rfl, Nat.le_of_ble_eq_true rfl⟩) (fun H locs hW hS => ?_)
    clear hc
    generalize M9 = M at hW hF
    refine lv_if_eq (tgt := 89) hx hb dX3_readNumber_37 (by decide) (fun hv14 => ?_) (fun hv14 => ?_)
    · replace hF := (if_pos hv14).symm.trans hF
      exact kb_X3_readNumber_b89 C hF hW hS (lv_sub hl [0, 1, 2, 3, 4] rfl)
    · replace hF := (if_neg hv14).symm.trans hF
      refine lv_iload hx hb dX3_readNumber_40 (lv_at hl 5 rfl) ?_
      refine lv_iconst (v := 3) hx hb dX3_readNumber_42 (by decide) ?_
      refine lv_icmp_ge (tgt := 69) hx hb dX3_readNumber_43 (by decide) (fun hv15 => ?_) (fun hv15 => ?_)
      · replace hF := (if_pos hv15).symm.trans hF
        refine lv_iload hx hb dX3_readNumber_69 (lv_at hl 4 rfl) ?_
        exact kb_X3_readNumber_b71 C k15 hk15 hF hW hS (lv_sub hl [0, 1, 2, 3, 5] rfl)
      · replace hF := (if_neg hv15).symm.trans hF
        refine lv_iload hx hb dX3_readNumber_46 (lv_at hl 4 rfl) ?_
        refine lv_bipush (v := 10) hx hb dX3_readNumber_48 (by decide) ?_
        refine lv_imul hx hb dX3_readNumber_50 ?_
        refine lv_aload_n hx hb dX3_readNumber_51 rfl (lv_at hl 0 rfl) ?_
        refine pw_gR C hW pc_3 (k := 0) (by decide) rfl tq_188 dX3_readNumber_52 hF (fun av16 hF => ?_)
        refine lv_aload_n hx hb dX3_readNumber_55 rfl (lv_at hl 0 rfl) ?_
        refine pw_gI C hW pc_3 (k := 4) (by decide) rfl tq_196 dX3_readNumber_56 hF (fun xv17 hF => ?_)
        obtain ⟨hK, hF⟩ := ps_ck_some hF
        obtain ⟨xv18, M9, hc, hF⟩ := ps_b2_some hF
        refine ps_backI (x0 := xv18) (M' := M9) hS (ps_callV C hW pc_4 mf_X5_mark tq_460 tq_461 tq_459 ⟨Nat.le_of_ble_eq_true rfl, Nat.le_of_ble_eq_true rfl⟩ rfl rfl (As := [.int xv17]) (rest := [.int (x4 * (10 : Int32))]) (c_X5_mark hc) hK rfl hl.1 rfl (Nat.le_of_ble_eq_true rfl) dX3_readNumber_59 ⟨Nat.le_of_ble_eq_true rfl, Nat.le_of_ble_eq_true rfl⟩) (fun H locs hW hS => ?_)
        clear hc
        generalize M9 = M at hW hF
        refine lv_iadd hx hb dX3_readNumber_62 ?_
        refine lv_bipush (v := 48) hx hb dX3_readNumber_63 (by decide) ?_
        refine lv_isub hx hb dX3_readNumber_65 ?_
        refine lv_goto (tgt := 71) hx hb dX3_readNumber_66 (by decide) ?_
        exact kb_X3_readNumber_b71 C k15 hk15 hF hW hS (lv_sub hl [0, 1, 2, 3, 5] rfl)
theorem kb_X3_readNumber_l15 (C : ps_C p s m args meth c cX3_readNumber 6 RX3 ((some .int)) "readNumber" D Y B) {q : Int32 × ps_M}  : ∀ (n : Nat) (M : ps_M) (H : Heap) (locs : List Loc) (ls : Array Slot) (a0 : Nat) (x1 : Int32) (x2 : Int32) (x3 : Int32) (x4 : Int32) (x5 : Int32), f_X3_readNumber_l15 n M a0 x1 x2 x3 x4 x5 = some q → ps_W D Y B M H → va_S (fun q => B ≤ q) s.heap H locs → lv_has ls 6 [(0, .ref (B + a0)), (1, .int x1), (2, .int x2), (3, .int x3), (4, .int x4), (5, .int x5)] → W p l e rm_X3_readNumber s m args below meth c H locs 0 0 (ps_Qi D Y B below args s 0 0 q) (F0 m 15 ls []) := by
  intro n
  induction n with
  | zero => intro M H locs ls a0 x1 x2 x3 x4 x5 hF; cases hF
  | succ n ih => intro M H locs ls a0 x1 x2 x3 x4 x5 hF hW hS hl; exact kb_X3_readNumber_w15 C  (f_X3_readNumber_l15 n) ih hF hW hS hl
set_option maxRecDepth 100000 in
set_option maxHeartbeats 4000000 in
theorem kb_X3_readNumber (C : ps_C p s m args meth c cX3_readNumber 6 RX3 ((some .int)) "readNumber" D Y B) {q : Int32 × ps_M}  {M : ps_M} {a0 : Nat} {x1 : Int32} {x2 : Int32} (hF : f_X3_readNumber M a0 x1 x2 = some q) (hW : ps_W D Y B M H) (hS : va_S (fun q => B ≤ q) s.heap H locs) (hl : lv_has ls 6 [(0, .ref (B + a0)), (1, .int x1), (2, .int x2)]) : W p l e rm_X3_readNumber s m args below meth c H locs 0 0 (ps_Qi D Y B below args s 0 0 q) (F0 m 0 ls []) := by
  have hx := C.1
  have hb := C.2.1
  have hml := C.2.2.1
  have hown := C.2.2.2.1
  have hts := C.2.2.2.2.1
  unfold f_X3_readNumber at hF
  refine lv_aload_n hx hb dX3_readNumber_0 rfl (lv_at hl 0 rfl) ?_
  obtain ⟨hK, hF⟩ := ps_ck_some hF
  obtain ⟨M9, hc, hF⟩ := ps_b1_some hF
  refine ps_backV (M' := M9) hS (ps_callV C hW pc_3 mf_X3_skipBlanks tq_457 tq_0 tq_455 ⟨Nat.le_of_ble_eq_true rfl, Nat.le_of_ble_eq_true rfl⟩ rfl rfl (As := []) (rest := []) (c_X3_skipBlanks hc) hK rfl hl.1 rfl (Nat.le_of_ble_eq_true rfl) dX3_readNumber_1 ⟨Nat.le_of_ble_eq_true rfl, Nat.le_of_ble_eq_true rfl⟩) (fun H locs hW hS => ?_)
  clear hc
  generalize M9 = M at hW hF
  refine lv_aload_n hx hb dX3_readNumber_4 rfl (lv_at hl 0 rfl) ?_
  refine pw_gI C hW pc_3 (k := 4) (by decide) rfl tq_196 dX3_readNumber_5 hF (fun xv19 hF => ?_)
  refine lv_istore_n (lv' := [(3, .int xv19), (0, .ref (B + a0)), (1, .int x1), (2, .int x2)]) hx hb dX3_readNumber_8 rfl hl (by decide) rfl (fun ls hl => ?_)
  refine lv_iconst (v := 0) hx hb dX3_readNumber_9 (by decide) ?_
  refine lv_istore (lv' := [(4, .int (0 : Int32)), (3, .int xv19), (0, .ref (B + a0)), (1, .int x1), (2, .int x2)]) hx hb dX3_readNumber_10 hl (by decide) rfl (fun ls hl => ?_)
  refine lv_iconst (v := 0) hx hb dX3_readNumber_12 (by decide) ?_
  refine lv_istore (lv' := [(5, .int (0 : Int32)), (4, .int (0 : Int32)), (3, .int xv19), (0, .ref (B + a0)), (1, .int x1), (2, .int x2)]) hx hb dX3_readNumber_13 hl (by decide) rfl (fun ls hl => ?_)
  exact kb_X3_readNumber_l15 C ps_fu M _ _ _ a0 x1 x2 xv19 (0 : Int32) (0 : Int32) hF hW hS (lv_sub hl [3, 4, 5, 2, 1, 0] rfl)
theorem mf_X3_readNumber : ps_mf yX3_readNumber cX3_readNumber 6 ((some .int)) 2 := ⟨tq_482, tq_63, by decide +kernel, by decide +kernel, by decide +kernel⟩
theorem c_X3_readNumber {l : Launch} {D : va_G} {Y : ps_A} {B : Nat} {M : ps_M} {a0 : Nat} {x1 : Int32} {x2 : Int32} {r : Int32} {M' : ps_M} (hF : f_X3_readNumber M a0 x1 x2 = some (r, M')) : Met l yX3_readNumber (Cond.code yX3_readNumber cX3_readNumber 6 ((some .int)) :: tb_G) rm_X3_readNumber (ps_PB D Y B M [.ref (B + a0), .int x1, .int x2]) (va_Qi (fun x (_ : Unit) => x = r) (fun _ t => ps_St D Y B M' t) (fun q => B ≤ q)) 0 0 (fun q => B ≤ q) :=
  pm_of (by decide +kernel) (Nat.le_of_ble_eq_true rfl) (fun p e s m args below meth c C hW hS ls hl => kb_X3_readNumber C hF hW hS hl)

abbrev rm_X3_readEnd : Room := { frames := 2, cells := 0, slots := 0, locals := 42 }
def f_X3_readEnd_b42 (M : ps_M)  : Option (ps_M) := some M
def f_X3_readEnd (M : ps_M) (a0 : Nat) : Option (ps_M) := ps_ck M a0 3 (ps_b1 (f_X3_skipBlanks M a0 ) (fun M => ps_gR M a0 3 0 (fun av1 => ps_gI M a0 3 4 (fun xv2 => ps_ck M av1 4 (ps_b2 (f_X5_mark M av1 xv2) (fun xv3 M => if xv3 = (59 : Int32) then (ps_gI M a0 3 4 (fun xv6 => ps_pI M a0 3 4 (xv6 + (1 : Int32)) (fun M => f_X3_readEnd_b42 M ))) else (ps_gI M a0 3 4 (fun xv5 => ps_ck M a0 3 (ps_b1 (f_X3_markFault M a0 (1 : Int32) xv5) (fun M => f_X3_readEnd_b42 M ))))))))))
set_option maxRecDepth 100000 in
set_option maxHeartbeats 4000000 in
theorem kb_X3_readEnd_b42 (C : ps_C p s m args meth c cX3_readEnd 1 RX3 none "readEnd" D Y B) {q : ps_M}  {M : ps_M}  (hF : f_X3_readEnd_b42 M  = some q) (hW : ps_W D Y B M H) (hS : va_S (fun q => B ≤ q) s.heap H locs) (hl : lv_has ls 1 []) : W p l e rm_X3_readEnd s m args below meth c H locs 0 0 (ps_Qv D Y B below args s 0 0 q) (F0 m 42 ls []) := by
  have hx := C.1
  have hb := C.2.1
  have hml := C.2.2.1
  have hown := C.2.2.2.1
  have hts := C.2.2.2.2.1
  unfold f_X3_readEnd_b42 at hF
  exact pw_vret C hW hS dX3_readEnd_42 hF
set_option maxRecDepth 100000 in
set_option maxHeartbeats 4000000 in
theorem kb_X3_readEnd (C : ps_C p s m args meth c cX3_readEnd 1 RX3 none "readEnd" D Y B) {q : ps_M}  {M : ps_M} {a0 : Nat} (hF : f_X3_readEnd M a0 = some q) (hW : ps_W D Y B M H) (hS : va_S (fun q => B ≤ q) s.heap H locs) (hl : lv_has ls 1 [(0, .ref (B + a0))]) : W p l e rm_X3_readEnd s m args below meth c H locs 0 0 (ps_Qv D Y B below args s 0 0 q) (F0 m 0 ls []) := by
  have hx := C.1
  have hb := C.2.1
  have hml := C.2.2.1
  have hown := C.2.2.2.1
  have hts := C.2.2.2.2.1
  unfold f_X3_readEnd at hF
  refine lv_aload_n hx hb dX3_readEnd_0 rfl (lv_at hl 0 rfl) ?_
  obtain ⟨hK, hF⟩ := ps_ck_some hF
  obtain ⟨M9, hc, hF⟩ := ps_b1_some hF
  refine ps_backV (M' := M9) hS (ps_callV C hW pc_3 mf_X3_skipBlanks tq_457 tq_0 tq_455 ⟨Nat.le_of_ble_eq_true rfl, Nat.le_of_ble_eq_true rfl⟩ rfl rfl (As := []) (rest := []) (c_X3_skipBlanks hc) hK rfl hl.1 rfl (Nat.le_of_ble_eq_true rfl) dX3_readEnd_1 ⟨Nat.le_of_ble_eq_true rfl, Nat.le_of_ble_eq_true rfl⟩) (fun H locs hW hS => ?_)
  clear hc
  generalize M9 = M at hW hF
  refine lv_aload_n hx hb dX3_readEnd_4 rfl (lv_at hl 0 rfl) ?_
  refine pw_gR C hW pc_3 (k := 0) (by decide) rfl tq_188 dX3_readEnd_5 hF (fun av1 hF => ?_)
  refine lv_aload_n hx hb dX3_readEnd_8 rfl (lv_at hl 0 rfl) ?_
  refine pw_gI C hW pc_3 (k := 4) (by decide) rfl tq_196 dX3_readEnd_9 hF (fun xv2 hF => ?_)
  obtain ⟨hK, hF⟩ := ps_ck_some hF
  obtain ⟨xv3, M9, hc, hF⟩ := ps_b2_some hF
  refine ps_backI (x0 := xv3) (M' := M9) hS (ps_callV C hW pc_4 mf_X5_mark tq_460 tq_461 tq_459 ⟨Nat.le_of_ble_eq_true rfl, Nat.le_of_ble_eq_true rfl⟩ rfl rfl (As := [.int xv2]) (rest := []) (c_X5_mark hc) hK rfl hl.1 rfl (Nat.le_of_ble_eq_true rfl) dX3_readEnd_12 ⟨Nat.le_of_ble_eq_true rfl, Nat.le_of_ble_eq_true rfl⟩) (fun H locs hW hS => ?_)
  clear hc
  generalize M9 = M at hW hF
  refine lv_bipush (v := 59) hx hb dX3_readEnd_15 (by decide) ?_
  refine lv_icmp_ne (tgt := 33) hx hb dX3_readEnd_17 (by decide) (fun hv4 => ?_) (fun hv4 => ?_)
  · replace hF := (if_neg hv4).symm.trans hF
    refine lv_aload_n hx hb dX3_readEnd_33 rfl (lv_at hl 0 rfl) ?_
    refine lv_iconst (v := 1) hx hb dX3_readEnd_34 (by decide) ?_
    refine lv_aload_n hx hb dX3_readEnd_35 rfl (lv_at hl 0 rfl) ?_
    refine pw_gI C hW pc_3 (k := 4) (by decide) rfl tq_196 dX3_readEnd_36 hF (fun xv5 hF => ?_)
    obtain ⟨hK, hF⟩ := ps_ck_some hF
    obtain ⟨M9, hc, hF⟩ := ps_b1_some hF
    refine ps_backV (M' := M9) hS (ps_callV C hW pc_3 mf_X3_markFault tq_473 tq_3 tq_471 ⟨Nat.le_of_ble_eq_true rfl, Nat.le_of_ble_eq_true rfl⟩ rfl rfl (As := [.int (1 : Int32), .int xv5]) (rest := []) (c_X3_markFault hc) hK rfl hl.1 rfl (Nat.le_of_ble_eq_true rfl) dX3_readEnd_39 ⟨Nat.le_of_ble_eq_true rfl, Nat.le_of_ble_eq_true rfl⟩) (fun H locs hW hS => ?_)
    clear hc
    generalize M9 = M at hW hF
    exact kb_X3_readEnd_b42 C hF hW hS (lv_sub hl [] rfl)
  · replace hF := (if_pos hv4).symm.trans hF
    refine lv_aload_n hx hb dX3_readEnd_20 rfl (lv_at hl 0 rfl) ?_
    refine lv_dup hx hb dX3_readEnd_21 rfl ?_
    refine pw_gI C hW pc_3 (k := 4) (by decide) rfl tq_196 dX3_readEnd_22 hF (fun xv6 hF => ?_)
    refine lv_iconst (v := 1) hx hb dX3_readEnd_25 (by decide) ?_
    refine lv_iadd hx hb dX3_readEnd_26 ?_
    refine pw_pI C hW hS pc_3 (k := 4) (by decide) rfl rfl tq_196 rfl dX3_readEnd_27 hF (fun M H locs hW hS hF => ?_)
    refine lv_goto (tgt := 42) hx hb dX3_readEnd_30 (by decide) ?_
    exact kb_X3_readEnd_b42 C hF hW hS (lv_sub hl [] rfl)
theorem mf_X3_readEnd : ps_mf yX3_readEnd cX3_readEnd 1 none 0 := ⟨tq_490, tq_63, by decide +kernel, by decide +kernel, by decide +kernel⟩
theorem c_X3_readEnd {l : Launch} {D : va_G} {Y : ps_A} {B : Nat} {M : ps_M} {a0 : Nat} {M' : ps_M} (hF : f_X3_readEnd M a0 = some M') : Met l yX3_readEnd (Cond.code yX3_readEnd cX3_readEnd 1 none :: tb_G) rm_X3_readEnd (ps_PB D Y B M [.ref (B + a0)]) (va_Qv (fun (_ : Unit) => True) (fun _ t => ps_St D Y B M' t) (fun q => B ≤ q)) 0 0 (fun q => B ≤ q) :=
  pm_of (by decide +kernel) (Nat.le_of_ble_eq_true rfl) (fun p e s m args below meth c C hW hS ls hl => kb_X3_readEnd C hF hW hS hl)

abbrev rm_X3_readLayers : Room := { frames := 3, cells := 0, slots := 0, locals := 67 }
def f_X3_readLayers_b83 (M : ps_M) (a0 : Nat) : Option (ps_M) := ps_ck M a0 3 (ps_b1 (f_X3_readEnd M a0 ) (fun M => some M))
def f_X3_readLayers_w2 (k2 : ps_M → Nat → Int32 → Option (ps_M)) (M : ps_M) (a0 : Nat) (x1 : Int32) : Option (ps_M) := if (12 : Int32) ≤ x1 then (f_X3_readLayers_b83 M a0) else (ps_gR M a0 3 1 (fun av2 => ps_gR M av2 7 6 (fun av3 => ps_ck M a0 3 (ps_b2 (f_X3_readNumber M a0 (1 : Int32) (9 : Int32)) (fun xv4 M => ps_b1 (f_X4_put M av3 x1 xv4) (fun M => ps_gR M a0 3 1 (fun av5 => ps_pI M av5 7 0 (x1 + (1 : Int32)) (fun M => ps_ck M a0 3 (ps_b1 (f_X3_skipBlanks M a0 ) (fun M => if (x1 + (1 : Int32)) = (12 : Int32) then (f_X3_readLayers_b83 M a0) else (ps_gR M a0 3 0 (fun av7 => ps_gI M a0 3 4 (fun xv8 => ps_ck M av7 4 (ps_b2 (f_X5_mark M av7 xv8) (fun xv9 M => if xv9 = (44 : Int32) then (ps_gI M a0 3 4 (fun xv11 => ps_pI M a0 3 4 (xv11 + (1 : Int32)) (fun M => ps_v (x1 + 1) (fun xv12 => k2 M a0 xv12)))) else (f_X3_readLayers_b83 M a0))))))))))))))))
def f_X3_readLayers_l2 : Nat → ps_M → Nat → Int32 → Option (ps_M)
  | 0, _, _, _ => none
  | n + 1, M, a0, x1 => f_X3_readLayers_w2 (f_X3_readLayers_l2 n) M a0 x1
def f_X3_readLayers (M : ps_M) (a0 : Nat) : Option (ps_M) := f_X3_readLayers_l2 ps_fu M a0 (0 : Int32)
set_option maxRecDepth 100000 in
set_option maxHeartbeats 4000000 in
theorem kb_X3_readLayers_b83 (C : ps_C p s m args meth c cX3_readLayers 2 RX3 none "readLayers" D Y B) {q : ps_M}  {M : ps_M} {a0 : Nat} (hF : f_X3_readLayers_b83 M a0 = some q) (hW : ps_W D Y B M H) (hS : va_S (fun q => B ≤ q) s.heap H locs) (hl : lv_has ls 2 [(0, .ref (B + a0))]) : W p l e rm_X3_readLayers s m args below meth c H locs 0 0 (ps_Qv D Y B below args s 0 0 q) (F0 m 83 ls []) := by
  have hx := C.1
  have hb := C.2.1
  have hml := C.2.2.1
  have hown := C.2.2.2.1
  have hts := C.2.2.2.2.1
  unfold f_X3_readLayers_b83 at hF
  refine lv_aload_n hx hb dX3_readLayers_83 rfl (lv_at hl 0 rfl) ?_
  obtain ⟨hK, hF⟩ := ps_ck_some hF
  obtain ⟨M9, hc, hF⟩ := ps_b1_some hF
  refine ps_backV (M' := M9) hS (ps_callV C hW pc_3 mf_X3_readEnd tq_489 tq_6 tq_487 ⟨Nat.le_of_ble_eq_true rfl, Nat.le_of_ble_eq_true rfl⟩ rfl rfl (As := []) (rest := []) (c_X3_readEnd hc) hK rfl hl.1 rfl (Nat.le_of_ble_eq_true rfl) dX3_readLayers_84 ⟨Nat.le_of_ble_eq_true rfl, Nat.le_of_ble_eq_true rfl⟩) (fun H locs hW hS => ?_)
  clear hc
  generalize M9 = M at hW hF
  exact pw_vret C hW hS dX3_readLayers_87 hF
set_option maxRecDepth 100000 in
set_option maxHeartbeats 4000000 in
theorem kb_X3_readLayers_w2 (C : ps_C p s m args meth c cX3_readLayers 2 RX3 none "readLayers" D Y B) {q : ps_M} (k2 : ps_M → Nat → Int32 → Option (ps_M)) (hk2 : ∀ (M : ps_M) (H : Heap) (locs : List Loc) (ls : Array Slot) (a0 : Nat) (x1 : Int32), k2 M a0 x1 = some q → ps_W D Y B M H → va_S (fun q => B ≤ q) s.heap H locs → lv_has ls 2 [(0, .ref (B + a0)), (1, .int x1)] → W p l e rm_X3_readLayers s m args below meth c H locs 0 0 (ps_Qv D Y B below args s 0 0 q) (F0 m 2 ls [])) {M : ps_M} {a0 : Nat} {x1 : Int32} (hF : f_X3_readLayers_w2 k2 M a0 x1 = some q) (hW : ps_W D Y B M H) (hS : va_S (fun q => B ≤ q) s.heap H locs) (hl : lv_has ls 2 [(0, .ref (B + a0)), (1, .int x1)]) : W p l e rm_X3_readLayers s m args below meth c H locs 0 0 (ps_Qv D Y B below args s 0 0 q) (F0 m 2 ls []) := by
  have hx := C.1
  have hb := C.2.1
  have hml := C.2.2.1
  have hown := C.2.2.2.1
  have hts := C.2.2.2.2.1
  unfold f_X3_readLayers_w2 at hF
  refine lv_iload_n hx hb dX3_readLayers_2 rfl (lv_at hl 1 rfl) ?_
  refine lv_bipush (v := 12) hx hb dX3_readLayers_3 (by decide) ?_
  refine lv_icmp_ge (tgt := 83) hx hb dX3_readLayers_5 (by decide) (fun hv1 => ?_) (fun hv1 => ?_)
  · replace hF := (if_pos hv1).symm.trans hF
    exact kb_X3_readLayers_b83 C hF hW hS (lv_sub hl [0] rfl)
  · replace hF := (if_neg hv1).symm.trans hF
    refine lv_aload_n hx hb dX3_readLayers_8 rfl (lv_at hl 0 rfl) ?_
    refine pw_gR C hW pc_3 (k := 1) (by decide) rfl tq_190 dX3_readLayers_9 hF (fun av2 hF => ?_)
    refine pw_gR C hW pc_7 (k := 6) (by decide) rfl tq_112 dX3_readLayers_12 hF (fun av3 hF => ?_)
    refine lv_iload_n hx hb dX3_readLayers_15 rfl (lv_at hl 1 rfl) ?_
    refine lv_aload_n hx hb dX3_readLayers_16 rfl (lv_at hl 0 rfl) ?_
    refine lv_iconst (v := 1) hx hb dX3_readLayers_17 (by decide) ?_
    refine lv_bipush (v := 9) hx hb dX3_readLayers_18 (by decide) ?_
    obtain ⟨hK, hF⟩ := ps_ck_some hF
    obtain ⟨xv4, M9, hc, hF⟩ := ps_b2_some hF
    refine ps_backI (x0 := xv4) (M' := M9) hS (ps_callV C hW pc_3 mf_X3_readNumber tq_481 tq_5 tq_479 ⟨Nat.le_of_ble_eq_true rfl, Nat.le_of_ble_eq_true rfl⟩ rfl rfl (As := [.int (1 : Int32), .int (9 : Int32)]) (rest := [.int x1, .ref (B + av3)]) (c_X3_readNumber hc) hK rfl hl.1 rfl (Nat.le_of_ble_eq_true rfl) dX3_readLayers_20 ⟨Nat.le_of_ble_eq_true rfl, Nat.le_of_ble_eq_true rfl⟩) (fun H locs hW hS => ?_)
    clear hc
    generalize M9 = M at hW hF
    obtain ⟨M9, hc, hF⟩ := ps_b1_some hF
    refine ps_backV (M' := M9) hS (ps_callS C hW mf_X4_put tq_440 tq_486 ⟨Nat.le_of_ble_eq_true rfl, Nat.le_of_ble_eq_true rfl⟩ rfl rfl (As := [.ref (B + av3), .int x1, .int xv4]) (rest := []) (c_X4_put hc) rfl hl.1 rfl (Nat.le_of_ble_eq_true rfl) dX3_readLayers_23 ⟨Nat.le_of_ble_eq_true rfl, Nat.le_of_ble_eq_true rfl⟩) (fun H locs hW hS => ?_)
    clear hc
    generalize M9 = M at hW hF
    refine lv_aload_n hx hb dX3_readLayers_26 rfl (lv_at hl 0 rfl) ?_
    refine pw_gR C hW pc_3 (k := 1) (by decide) rfl tq_190 dX3_readLayers_27 hF (fun av5 hF => ?_)
    refine lv_iload_n hx hb dX3_readLayers_30 rfl (lv_at hl 1 rfl) ?_
    refine lv_iconst (v := 1) hx hb dX3_readLayers_31 (by decide) ?_
    refine lv_iadd hx hb dX3_readLayers_32 ?_
    refine pw_pI C hW hS pc_7 (k := 0) (by decide) rfl rfl tq_90 rfl dX3_readLayers_33 hF (fun M H locs hW hS hF => ?_)
    refine lv_aload_n hx hb dX3_readLayers_36 rfl (lv_at hl 0 rfl) ?_
    obtain ⟨hK, hF⟩ := ps_ck_some hF
    obtain ⟨M9, hc, hF⟩ := ps_b1_some hF
    refine ps_backV (M' := M9) hS (ps_callV C hW pc_3 mf_X3_skipBlanks tq_457 tq_0 tq_455 ⟨Nat.le_of_ble_eq_true rfl, Nat.le_of_ble_eq_true rfl⟩ rfl rfl (As := []) (rest := []) (c_X3_skipBlanks hc) hK rfl hl.1 rfl (Nat.le_of_ble_eq_true rfl) dX3_readLayers_37 ⟨Nat.le_of_ble_eq_true rfl, Nat.le_of_ble_eq_true rfl⟩) (fun H locs hW hS => ?_)
    clear hc
    generalize M9 = M at hW hF
    refine lv_iload_n hx hb dX3_readLayers_40 rfl (lv_at hl 1 rfl) ?_
    refine lv_iconst (v := 1) hx hb dX3_readLayers_41 (by decide) ?_
    refine lv_iadd hx hb dX3_readLayers_42 ?_
    refine lv_bipush (v := 12) hx hb dX3_readLayers_43 (by decide) ?_
    refine lv_icmp_eq (tgt := 83) hx hb dX3_readLayers_45 (by decide) (fun hv6 => ?_) (fun hv6 => ?_)
    · replace hF := (if_pos hv6).symm.trans hF
      exact kb_X3_readLayers_b83 C hF hW hS (lv_sub hl [0] rfl)
    · replace hF := (if_neg hv6).symm.trans hF
      refine lv_aload_n hx hb dX3_readLayers_48 rfl (lv_at hl 0 rfl) ?_
      refine pw_gR C hW pc_3 (k := 0) (by decide) rfl tq_188 dX3_readLayers_49 hF (fun av7 hF => ?_)
      refine lv_aload_n hx hb dX3_readLayers_52 rfl (lv_at hl 0 rfl) ?_
      refine pw_gI C hW pc_3 (k := 4) (by decide) rfl tq_196 dX3_readLayers_53 hF (fun xv8 hF => ?_)
      obtain ⟨hK, hF⟩ := ps_ck_some hF
      obtain ⟨xv9, M9, hc, hF⟩ := ps_b2_some hF
      refine ps_backI (x0 := xv9) (M' := M9) hS (ps_callV C hW pc_4 mf_X5_mark tq_460 tq_461 tq_459 ⟨Nat.le_of_ble_eq_true rfl, Nat.le_of_ble_eq_true rfl⟩ rfl rfl (As := [.int xv8]) (rest := []) (c_X5_mark hc) hK rfl hl.1 rfl (Nat.le_of_ble_eq_true rfl) dX3_readLayers_56 ⟨Nat.le_of_ble_eq_true rfl, Nat.le_of_ble_eq_true rfl⟩) (fun H locs hW hS => ?_)
      clear hc
      generalize M9 = M at hW hF
      refine lv_bipush (v := 44) hx hb dX3_readLayers_59 (by decide) ?_
      refine lv_icmp_eq (tgt := 67) hx hb dX3_readLayers_61 (by decide) (fun hv10 => ?_) (fun hv10 => ?_)
      · replace hF := (if_pos hv10).symm.trans hF
        refine lv_aload_n hx hb dX3_readLayers_67 rfl (lv_at hl 0 rfl) ?_
        refine lv_dup hx hb dX3_readLayers_68 rfl ?_
        refine pw_gI C hW pc_3 (k := 4) (by decide) rfl tq_196 dX3_readLayers_69 hF (fun xv11 hF => ?_)
        refine lv_iconst (v := 1) hx hb dX3_readLayers_72 (by decide) ?_
        refine lv_iadd hx hb dX3_readLayers_73 ?_
        refine pw_pI C hW hS pc_3 (k := 4) (by decide) rfl rfl tq_196 rfl dX3_readLayers_74 hF (fun M H locs hW hS hF => ?_)
        obtain ⟨xv12, exv12, hF⟩ := ps_ve hF
        refine lv_iinc (v := xv12) (lv' := [(1, .int xv12), (0, .ref (B + a0))]) hx hb dX3_readLayers_77 hl (k := 1) rfl (by rw [exv12]; rfl) (by decide) rfl (fun ls hl => ?_)
        clear exv12
        refine lv_goto (tgt := 2) hx hb dX3_readLayers_80 (by decide) ?_
        exact hk2 M _ _ _ a0 xv12 hF hW hS (lv_sub hl [1, 0] rfl)
      · replace hF := (if_neg hv10).symm.trans hF
        refine lv_goto (tgt := 83) hx hb dX3_readLayers_64 (by decide) ?_
        exact kb_X3_readLayers_b83 C hF hW hS (lv_sub hl [0] rfl)
theorem kb_X3_readLayers_l2 (C : ps_C p s m args meth c cX3_readLayers 2 RX3 none "readLayers" D Y B) {q : ps_M}  : ∀ (n : Nat) (M : ps_M) (H : Heap) (locs : List Loc) (ls : Array Slot) (a0 : Nat) (x1 : Int32), f_X3_readLayers_l2 n M a0 x1 = some q → ps_W D Y B M H → va_S (fun q => B ≤ q) s.heap H locs → lv_has ls 2 [(0, .ref (B + a0)), (1, .int x1)] → W p l e rm_X3_readLayers s m args below meth c H locs 0 0 (ps_Qv D Y B below args s 0 0 q) (F0 m 2 ls []) := by
  intro n
  induction n with
  | zero => intro M H locs ls a0 x1 hF; cases hF
  | succ n ih => intro M H locs ls a0 x1 hF hW hS hl; exact kb_X3_readLayers_w2 C  (f_X3_readLayers_l2 n) ih hF hW hS hl
set_option maxRecDepth 100000 in
set_option maxHeartbeats 4000000 in
theorem kb_X3_readLayers (C : ps_C p s m args meth c cX3_readLayers 2 RX3 none "readLayers" D Y B) {q : ps_M}  {M : ps_M} {a0 : Nat} (hF : f_X3_readLayers M a0 = some q) (hW : ps_W D Y B M H) (hS : va_S (fun q => B ≤ q) s.heap H locs) (hl : lv_has ls 2 [(0, .ref (B + a0))]) : W p l e rm_X3_readLayers s m args below meth c H locs 0 0 (ps_Qv D Y B below args s 0 0 q) (F0 m 0 ls []) := by
  have hx := C.1
  have hb := C.2.1
  have hml := C.2.2.1
  have hown := C.2.2.2.1
  have hts := C.2.2.2.2.1
  unfold f_X3_readLayers at hF
  refine lv_iconst (v := 0) hx hb dX3_readLayers_0 (by decide) ?_
  refine lv_istore_n (lv' := [(1, .int (0 : Int32)), (0, .ref (B + a0))]) hx hb dX3_readLayers_1 rfl hl (by decide) rfl (fun ls hl => ?_)
  exact kb_X3_readLayers_l2 C ps_fu M _ _ _ a0 (0 : Int32) hF hW hS (lv_sub hl [1, 0] rfl)
theorem mf_X3_readLayers : ps_mf yX3_readLayers cX3_readLayers 2 none 0 := ⟨tq_478, tq_63, by decide +kernel, by decide +kernel, by decide +kernel⟩
theorem c_X3_readLayers {l : Launch} {D : va_G} {Y : ps_A} {B : Nat} {M : ps_M} {a0 : Nat} {M' : ps_M} (hF : f_X3_readLayers M a0 = some M') : Met l yX3_readLayers (Cond.code yX3_readLayers cX3_readLayers 2 none :: tb_G) rm_X3_readLayers (ps_PB D Y B M [.ref (B + a0)]) (va_Qv (fun (_ : Unit) => True) (fun _ t => ps_St D Y B M' t) (fun q => B ≤ q)) 0 0 (fun q => B ≤ q) :=
  pm_of (by decide +kernel) (Nat.le_of_ble_eq_true rfl) (fun p e s m args below meth c C hW hS ls hl => kb_X3_readLayers C hF hW hS hl)

abbrev rm_X3_readPerson : Room := { frames := 3, cells := 0, slots := 0, locals := 67 }
def f_X3_readPerson (M : ps_M) (a0 : Nat) : Option (ps_M) := ps_gR M a0 3 1 (fun av1 => ps_gI M av1 7 1 (fun xv2 => ps_gR M a0 3 1 (fun av3 => ps_gR M av3 7 7 (fun av4 => ps_ck M a0 3 (ps_b2 (f_X3_readNumber M a0 (1 : Int32) (20 : Int32)) (fun xv5 M => ps_b1 (f_X4_put M av4 xv2 xv5) (fun M => ps_gR M a0 3 1 (fun av6 => ps_gR M av6 7 8 (fun av7 => ps_ck M a0 3 (ps_b2 (f_X3_readNumber M a0 (0 : Int32) (9 : Int32)) (fun xv8 M => ps_b1 (f_X4_put M av7 xv2 xv8) (fun M => ps_gR M a0 3 1 (fun av9 => ps_gR M av9 7 9 (fun av10 => ps_ck M a0 3 (ps_b2 (f_X3_readNumber M a0 (0 : Int32) (5 : Int32)) (fun xv11 M => ps_b1 (f_X4_put M av10 xv2 xv11) (fun M => ps_gR M a0 3 1 (fun av12 => ps_gR M av12 7 10 (fun av13 => ps_ck M a0 3 (ps_b2 (f_X3_readNumber M a0 (0 : Int32) (9 : Int32)) (fun xv14 M => ps_b1 (f_X4_put M av13 xv2 xv14) (fun M => ps_gR M a0 3 1 (fun av15 => ps_gR M av15 7 11 (fun av16 => ps_ck M a0 3 (ps_b2 (f_X3_readNumber M a0 (0 : Int32) (2 : Int32)) (fun xv17 M => ps_b1 (f_X4_put M av16 xv2 xv17) (fun M => ps_gR M a0 3 1 (fun av18 => ps_pI M av18 7 1 (xv2 + (1 : Int32)) (fun M => ps_ck M a0 3 (ps_b1 (f_X3_readEnd M a0 ) (fun M => some M)))))))))))))))))))))))))))))))
set_option maxRecDepth 100000 in
set_option maxHeartbeats 4000000 in
theorem kb_X3_readPerson (C : ps_C p s m args meth c cX3_readPerson 2 RX3 none "readPerson" D Y B) {q : ps_M}  {M : ps_M} {a0 : Nat} (hF : f_X3_readPerson M a0 = some q) (hW : ps_W D Y B M H) (hS : va_S (fun q => B ≤ q) s.heap H locs) (hl : lv_has ls 2 [(0, .ref (B + a0))]) : W p l e rm_X3_readPerson s m args below meth c H locs 0 0 (ps_Qv D Y B below args s 0 0 q) (F0 m 0 ls []) := by
  have hx := C.1
  have hb := C.2.1
  have hml := C.2.2.1
  have hown := C.2.2.2.1
  have hts := C.2.2.2.2.1
  unfold f_X3_readPerson at hF
  refine lv_aload_n hx hb dX3_readPerson_0 rfl (lv_at hl 0 rfl) ?_
  refine pw_gR C hW pc_3 (k := 1) (by decide) rfl tq_190 dX3_readPerson_1 hF (fun av1 hF => ?_)
  refine pw_gI C hW pc_7 (k := 1) (by decide) rfl tq_93 dX3_readPerson_4 hF (fun xv2 hF => ?_)
  refine lv_istore_n (lv' := [(1, .int xv2), (0, .ref (B + a0))]) hx hb dX3_readPerson_7 rfl hl (by decide) rfl (fun ls hl => ?_)
  refine lv_aload_n hx hb dX3_readPerson_8 rfl (lv_at hl 1 rfl) ?_
  refine pw_gR C hW pc_3 (k := 1) (by decide) rfl tq_190 dX3_readPerson_9 hF (fun av3 hF => ?_)
  refine pw_gR C hW pc_7 (k := 7) (by decide) rfl tq_118 dX3_readPerson_12 hF (fun av4 hF => ?_)
  refine lv_iload_n hx hb dX3_readPerson_15 rfl (lv_at hl 0 rfl) ?_
  refine lv_aload_n hx hb dX3_readPerson_16 rfl (lv_at hl 1 rfl) ?_
  refine lv_iconst (v := 1) hx hb dX3_readPerson_17 (by decide) ?_
  refine lv_bipush (v := 20) hx hb dX3_readPerson_18 (by decide) ?_
  obtain ⟨hK, hF⟩ := ps_ck_some hF
  obtain ⟨xv5, M9, hc, hF⟩ := ps_b2_some hF
  refine ps_backI (x0 := xv5) (M' := M9) hS (ps_callV C hW pc_3 mf_X3_readNumber tq_481 tq_5 tq_479 ⟨Nat.le_of_ble_eq_true rfl, Nat.le_of_ble_eq_true rfl⟩ rfl rfl (As := [.int (1 : Int32), .int (20 : Int32)]) (rest := [.int xv2, .ref (B + av4)]) (c_X3_readNumber hc) hK rfl hl.1 rfl (Nat.le_of_ble_eq_true rfl) dX3_readPerson_20 ⟨Nat.le_of_ble_eq_true rfl, Nat.le_of_ble_eq_true rfl⟩) (fun H locs hW hS => ?_)
  clear hc
  generalize M9 = M at hW hF
  obtain ⟨M9, hc, hF⟩ := ps_b1_some hF
  refine ps_backV (M' := M9) hS (ps_callS C hW mf_X4_put tq_440 tq_486 ⟨Nat.le_of_ble_eq_true rfl, Nat.le_of_ble_eq_true rfl⟩ rfl rfl (As := [.ref (B + av4), .int xv2, .int xv5]) (rest := []) (c_X4_put hc) rfl hl.1 rfl (Nat.le_of_ble_eq_true rfl) dX3_readPerson_23 ⟨Nat.le_of_ble_eq_true rfl, Nat.le_of_ble_eq_true rfl⟩) (fun H locs hW hS => ?_)
  clear hc
  generalize M9 = M at hW hF
  refine lv_aload_n hx hb dX3_readPerson_26 rfl (lv_at hl 1 rfl) ?_
  refine pw_gR C hW pc_3 (k := 1) (by decide) rfl tq_190 dX3_readPerson_27 hF (fun av6 hF => ?_)
  refine pw_gR C hW pc_7 (k := 8) (by decide) rfl tq_121 dX3_readPerson_30 hF (fun av7 hF => ?_)
  refine lv_iload_n hx hb dX3_readPerson_33 rfl (lv_at hl 0 rfl) ?_
  refine lv_aload_n hx hb dX3_readPerson_34 rfl (lv_at hl 1 rfl) ?_
  refine lv_iconst (v := 0) hx hb dX3_readPerson_35 (by decide) ?_
  refine lv_bipush (v := 9) hx hb dX3_readPerson_36 (by decide) ?_
  obtain ⟨hK, hF⟩ := ps_ck_some hF
  obtain ⟨xv8, M9, hc, hF⟩ := ps_b2_some hF
  refine ps_backI (x0 := xv8) (M' := M9) hS (ps_callV C hW pc_3 mf_X3_readNumber tq_481 tq_5 tq_479 ⟨Nat.le_of_ble_eq_true rfl, Nat.le_of_ble_eq_true rfl⟩ rfl rfl (As := [.int (0 : Int32), .int (9 : Int32)]) (rest := [.int xv2, .ref (B + av7)]) (c_X3_readNumber hc) hK rfl hl.1 rfl (Nat.le_of_ble_eq_true rfl) dX3_readPerson_38 ⟨Nat.le_of_ble_eq_true rfl, Nat.le_of_ble_eq_true rfl⟩) (fun H locs hW hS => ?_)
  clear hc
  generalize M9 = M at hW hF
  obtain ⟨M9, hc, hF⟩ := ps_b1_some hF
  refine ps_backV (M' := M9) hS (ps_callS C hW mf_X4_put tq_440 tq_486 ⟨Nat.le_of_ble_eq_true rfl, Nat.le_of_ble_eq_true rfl⟩ rfl rfl (As := [.ref (B + av7), .int xv2, .int xv8]) (rest := []) (c_X4_put hc) rfl hl.1 rfl (Nat.le_of_ble_eq_true rfl) dX3_readPerson_41 ⟨Nat.le_of_ble_eq_true rfl, Nat.le_of_ble_eq_true rfl⟩) (fun H locs hW hS => ?_)
  clear hc
  generalize M9 = M at hW hF
  refine lv_aload_n hx hb dX3_readPerson_44 rfl (lv_at hl 1 rfl) ?_
  refine pw_gR C hW pc_3 (k := 1) (by decide) rfl tq_190 dX3_readPerson_45 hF (fun av9 hF => ?_)
  refine pw_gR C hW pc_7 (k := 9) (by decide) rfl tq_125 dX3_readPerson_48 hF (fun av10 hF => ?_)
  refine lv_iload_n hx hb dX3_readPerson_51 rfl (lv_at hl 0 rfl) ?_
  refine lv_aload_n hx hb dX3_readPerson_52 rfl (lv_at hl 1 rfl) ?_
  refine lv_iconst (v := 0) hx hb dX3_readPerson_53 (by decide) ?_
  refine lv_iconst (v := 5) hx hb dX3_readPerson_54 (by decide) ?_
  obtain ⟨hK, hF⟩ := ps_ck_some hF
  obtain ⟨xv11, M9, hc, hF⟩ := ps_b2_some hF
  refine ps_backI (x0 := xv11) (M' := M9) hS (ps_callV C hW pc_3 mf_X3_readNumber tq_481 tq_5 tq_479 ⟨Nat.le_of_ble_eq_true rfl, Nat.le_of_ble_eq_true rfl⟩ rfl rfl (As := [.int (0 : Int32), .int (5 : Int32)]) (rest := [.int xv2, .ref (B + av10)]) (c_X3_readNumber hc) hK rfl hl.1 rfl (Nat.le_of_ble_eq_true rfl) dX3_readPerson_55 ⟨Nat.le_of_ble_eq_true rfl, Nat.le_of_ble_eq_true rfl⟩) (fun H locs hW hS => ?_)
  clear hc
  generalize M9 = M at hW hF
  obtain ⟨M9, hc, hF⟩ := ps_b1_some hF
  refine ps_backV (M' := M9) hS (ps_callS C hW mf_X4_put tq_440 tq_486 ⟨Nat.le_of_ble_eq_true rfl, Nat.le_of_ble_eq_true rfl⟩ rfl rfl (As := [.ref (B + av10), .int xv2, .int xv11]) (rest := []) (c_X4_put hc) rfl hl.1 rfl (Nat.le_of_ble_eq_true rfl) dX3_readPerson_58 ⟨Nat.le_of_ble_eq_true rfl, Nat.le_of_ble_eq_true rfl⟩) (fun H locs hW hS => ?_)
  clear hc
  generalize M9 = M at hW hF
  refine lv_aload_n hx hb dX3_readPerson_61 rfl (lv_at hl 1 rfl) ?_
  refine pw_gR C hW pc_3 (k := 1) (by decide) rfl tq_190 dX3_readPerson_62 hF (fun av12 hF => ?_)
  refine pw_gR C hW pc_7 (k := 10) (by decide) rfl tq_130 dX3_readPerson_65 hF (fun av13 hF => ?_)
  refine lv_iload_n hx hb dX3_readPerson_68 rfl (lv_at hl 0 rfl) ?_
  refine lv_aload_n hx hb dX3_readPerson_69 rfl (lv_at hl 1 rfl) ?_
  refine lv_iconst (v := 0) hx hb dX3_readPerson_70 (by decide) ?_
  refine lv_bipush (v := 9) hx hb dX3_readPerson_71 (by decide) ?_
  obtain ⟨hK, hF⟩ := ps_ck_some hF
  obtain ⟨xv14, M9, hc, hF⟩ := ps_b2_some hF
  refine ps_backI (x0 := xv14) (M' := M9) hS (ps_callV C hW pc_3 mf_X3_readNumber tq_481 tq_5 tq_479 ⟨Nat.le_of_ble_eq_true rfl, Nat.le_of_ble_eq_true rfl⟩ rfl rfl (As := [.int (0 : Int32), .int (9 : Int32)]) (rest := [.int xv2, .ref (B + av13)]) (c_X3_readNumber hc) hK rfl hl.1 rfl (Nat.le_of_ble_eq_true rfl) dX3_readPerson_73 ⟨Nat.le_of_ble_eq_true rfl, Nat.le_of_ble_eq_true rfl⟩) (fun H locs hW hS => ?_)
  clear hc
  generalize M9 = M at hW hF
  obtain ⟨M9, hc, hF⟩ := ps_b1_some hF
  refine ps_backV (M' := M9) hS (ps_callS C hW mf_X4_put tq_440 tq_486 ⟨Nat.le_of_ble_eq_true rfl, Nat.le_of_ble_eq_true rfl⟩ rfl rfl (As := [.ref (B + av13), .int xv2, .int xv14]) (rest := []) (c_X4_put hc) rfl hl.1 rfl (Nat.le_of_ble_eq_true rfl) dX3_readPerson_76 ⟨Nat.le_of_ble_eq_true rfl, Nat.le_of_ble_eq_true rfl⟩) (fun H locs hW hS => ?_)
  clear hc
  generalize M9 = M at hW hF
  refine lv_aload_n hx hb dX3_readPerson_79 rfl (lv_at hl 1 rfl) ?_
  refine pw_gR C hW pc_3 (k := 1) (by decide) rfl tq_190 dX3_readPerson_80 hF (fun av15 hF => ?_)
  refine pw_gR C hW pc_7 (k := 11) (by decide) rfl tq_132 dX3_readPerson_83 hF (fun av16 hF => ?_)
  refine lv_iload_n hx hb dX3_readPerson_86 rfl (lv_at hl 0 rfl) ?_
  refine lv_aload_n hx hb dX3_readPerson_87 rfl (lv_at hl 1 rfl) ?_
  refine lv_iconst (v := 0) hx hb dX3_readPerson_88 (by decide) ?_
  refine lv_iconst (v := 2) hx hb dX3_readPerson_89 (by decide) ?_
  obtain ⟨hK, hF⟩ := ps_ck_some hF
  obtain ⟨xv17, M9, hc, hF⟩ := ps_b2_some hF
  refine ps_backI (x0 := xv17) (M' := M9) hS (ps_callV C hW pc_3 mf_X3_readNumber tq_481 tq_5 tq_479 ⟨Nat.le_of_ble_eq_true rfl, Nat.le_of_ble_eq_true rfl⟩ rfl rfl (As := [.int (0 : Int32), .int (2 : Int32)]) (rest := [.int xv2, .ref (B + av16)]) (c_X3_readNumber hc) hK rfl hl.1 rfl (Nat.le_of_ble_eq_true rfl) dX3_readPerson_90 ⟨Nat.le_of_ble_eq_true rfl, Nat.le_of_ble_eq_true rfl⟩) (fun H locs hW hS => ?_)
  clear hc
  generalize M9 = M at hW hF
  obtain ⟨M9, hc, hF⟩ := ps_b1_some hF
  refine ps_backV (M' := M9) hS (ps_callS C hW mf_X4_put tq_440 tq_486 ⟨Nat.le_of_ble_eq_true rfl, Nat.le_of_ble_eq_true rfl⟩ rfl rfl (As := [.ref (B + av16), .int xv2, .int xv17]) (rest := []) (c_X4_put hc) rfl hl.1 rfl (Nat.le_of_ble_eq_true rfl) dX3_readPerson_93 ⟨Nat.le_of_ble_eq_true rfl, Nat.le_of_ble_eq_true rfl⟩) (fun H locs hW hS => ?_)
  clear hc
  generalize M9 = M at hW hF
  refine lv_aload_n hx hb dX3_readPerson_96 rfl (lv_at hl 1 rfl) ?_
  refine pw_gR C hW pc_3 (k := 1) (by decide) rfl tq_190 dX3_readPerson_97 hF (fun av18 hF => ?_)
  refine lv_iload_n hx hb dX3_readPerson_100 rfl (lv_at hl 0 rfl) ?_
  refine lv_iconst (v := 1) hx hb dX3_readPerson_101 (by decide) ?_
  refine lv_iadd hx hb dX3_readPerson_102 ?_
  refine pw_pI C hW hS pc_7 (k := 1) (by decide) rfl rfl tq_93 rfl dX3_readPerson_103 hF (fun M H locs hW hS hF => ?_)
  refine lv_aload_n hx hb dX3_readPerson_106 rfl (lv_at hl 1 rfl) ?_
  obtain ⟨hK, hF⟩ := ps_ck_some hF
  obtain ⟨M9, hc, hF⟩ := ps_b1_some hF
  refine ps_backV (M' := M9) hS (ps_callV C hW pc_3 mf_X3_readEnd tq_489 tq_6 tq_487 ⟨Nat.le_of_ble_eq_true rfl, Nat.le_of_ble_eq_true rfl⟩ rfl rfl (As := []) (rest := []) (c_X3_readEnd hc) hK rfl hl.1 rfl (Nat.le_of_ble_eq_true rfl) dX3_readPerson_107 ⟨Nat.le_of_ble_eq_true rfl, Nat.le_of_ble_eq_true rfl⟩) (fun H locs hW hS => ?_)
  clear hc
  generalize M9 = M at hW hF
  exact pw_vret C hW hS dX3_readPerson_110 hF
theorem mf_X3_readPerson : ps_mf yX3_readPerson cX3_readPerson 2 none 0 := ⟨tq_494, tq_63, by decide +kernel, by decide +kernel, by decide +kernel⟩
theorem c_X3_readPerson {l : Launch} {D : va_G} {Y : ps_A} {B : Nat} {M : ps_M} {a0 : Nat} {M' : ps_M} (hF : f_X3_readPerson M a0 = some M') : Met l yX3_readPerson (Cond.code yX3_readPerson cX3_readPerson 2 none :: tb_G) rm_X3_readPerson (ps_PB D Y B M [.ref (B + a0)]) (va_Qv (fun (_ : Unit) => True) (fun _ t => ps_St D Y B M' t) (fun q => B ≤ q)) 0 0 (fun q => B ≤ q) :=
  pm_of (by decide +kernel) (Nat.le_of_ble_eq_true rfl) (fun p e s m args below meth c C hW hS ls hl => kb_X3_readPerson C hF hW hS hl)

abbrev rm_X3_readSaw : Room := { frames := 3, cells := 0, slots := 0, locals := 67 }
def f_X3_readSaw (M : ps_M) (a0 : Nat) : Option (ps_M) := ps_gR M a0 3 1 (fun av1 => ps_ck M a0 3 (ps_b2 (f_X3_readNumber M a0 (1 : Int32) (9 : Int32)) (fun xv2 M => ps_pI M av1 7 2 xv2 (fun M => ps_gR M a0 3 1 (fun av3 => ps_ck M a0 3 (ps_b2 (f_X3_readNumber M a0 (0 : Int32) (9 : Int32)) (fun xv4 M => ps_pI M av3 7 3 xv4 (fun M => ps_gR M a0 3 1 (fun av5 => ps_ck M a0 3 (ps_b2 (f_X3_readNumber M a0 (0 : Int32) (9 : Int32)) (fun xv6 M => ps_pI M av5 7 4 xv6 (fun M => ps_pZ M a0 3 5 (1 : Int32) (fun M => ps_ck M a0 3 (ps_b1 (f_X3_readEnd M a0 ) (fun M => some M)))))))))))))))
set_option maxRecDepth 100000 in
set_option maxHeartbeats 4000000 in
theorem kb_X3_readSaw (C : ps_C p s m args meth c cX3_readSaw 1 RX3 none "readSaw" D Y B) {q : ps_M}  {M : ps_M} {a0 : Nat} (hF : f_X3_readSaw M a0 = some q) (hW : ps_W D Y B M H) (hS : va_S (fun q => B ≤ q) s.heap H locs) (hl : lv_has ls 1 [(0, .ref (B + a0))]) : W p l e rm_X3_readSaw s m args below meth c H locs 0 0 (ps_Qv D Y B below args s 0 0 q) (F0 m 0 ls []) := by
  have hx := C.1
  have hb := C.2.1
  have hml := C.2.2.1
  have hown := C.2.2.2.1
  have hts := C.2.2.2.2.1
  unfold f_X3_readSaw at hF
  refine lv_aload_n hx hb dX3_readSaw_0 rfl (lv_at hl 0 rfl) ?_
  refine pw_gR C hW pc_3 (k := 1) (by decide) rfl tq_190 dX3_readSaw_1 hF (fun av1 hF => ?_)
  refine lv_aload_n hx hb dX3_readSaw_4 rfl (lv_at hl 0 rfl) ?_
  refine lv_iconst (v := 1) hx hb dX3_readSaw_5 (by decide) ?_
  refine lv_bipush (v := 9) hx hb dX3_readSaw_6 (by decide) ?_
  obtain ⟨hK, hF⟩ := ps_ck_some hF
  obtain ⟨xv2, M9, hc, hF⟩ := ps_b2_some hF
  refine ps_backI (x0 := xv2) (M' := M9) hS (ps_callV C hW pc_3 mf_X3_readNumber tq_481 tq_5 tq_479 ⟨Nat.le_of_ble_eq_true rfl, Nat.le_of_ble_eq_true rfl⟩ rfl rfl (As := [.int (1 : Int32), .int (9 : Int32)]) (rest := [.ref (B + av1)]) (c_X3_readNumber hc) hK rfl hl.1 rfl (Nat.le_of_ble_eq_true rfl) dX3_readSaw_8 ⟨Nat.le_of_ble_eq_true rfl, Nat.le_of_ble_eq_true rfl⟩) (fun H locs hW hS => ?_)
  clear hc
  generalize M9 = M at hW hF
  refine pw_pI C hW hS pc_7 (k := 2) (by decide) rfl rfl tq_98 rfl dX3_readSaw_11 hF (fun M H locs hW hS hF => ?_)
  refine lv_aload_n hx hb dX3_readSaw_14 rfl (lv_at hl 0 rfl) ?_
  refine pw_gR C hW pc_3 (k := 1) (by decide) rfl tq_190 dX3_readSaw_15 hF (fun av3 hF => ?_)
  refine lv_aload_n hx hb dX3_readSaw_18 rfl (lv_at hl 0 rfl) ?_
  refine lv_iconst (v := 0) hx hb dX3_readSaw_19 (by decide) ?_
  refine lv_bipush (v := 9) hx hb dX3_readSaw_20 (by decide) ?_
  obtain ⟨hK, hF⟩ := ps_ck_some hF
  obtain ⟨xv4, M9, hc, hF⟩ := ps_b2_some hF
  refine ps_backI (x0 := xv4) (M' := M9) hS (ps_callV C hW pc_3 mf_X3_readNumber tq_481 tq_5 tq_479 ⟨Nat.le_of_ble_eq_true rfl, Nat.le_of_ble_eq_true rfl⟩ rfl rfl (As := [.int (0 : Int32), .int (9 : Int32)]) (rest := [.ref (B + av3)]) (c_X3_readNumber hc) hK rfl hl.1 rfl (Nat.le_of_ble_eq_true rfl) dX3_readSaw_22 ⟨Nat.le_of_ble_eq_true rfl, Nat.le_of_ble_eq_true rfl⟩) (fun H locs hW hS => ?_)
  clear hc
  generalize M9 = M at hW hF
  refine pw_pI C hW hS pc_7 (k := 3) (by decide) rfl rfl tq_101 rfl dX3_readSaw_25 hF (fun M H locs hW hS hF => ?_)
  refine lv_aload_n hx hb dX3_readSaw_28 rfl (lv_at hl 0 rfl) ?_
  refine pw_gR C hW pc_3 (k := 1) (by decide) rfl tq_190 dX3_readSaw_29 hF (fun av5 hF => ?_)
  refine lv_aload_n hx hb dX3_readSaw_32 rfl (lv_at hl 0 rfl) ?_
  refine lv_iconst (v := 0) hx hb dX3_readSaw_33 (by decide) ?_
  refine lv_bipush (v := 9) hx hb dX3_readSaw_34 (by decide) ?_
  obtain ⟨hK, hF⟩ := ps_ck_some hF
  obtain ⟨xv6, M9, hc, hF⟩ := ps_b2_some hF
  refine ps_backI (x0 := xv6) (M' := M9) hS (ps_callV C hW pc_3 mf_X3_readNumber tq_481 tq_5 tq_479 ⟨Nat.le_of_ble_eq_true rfl, Nat.le_of_ble_eq_true rfl⟩ rfl rfl (As := [.int (0 : Int32), .int (9 : Int32)]) (rest := [.ref (B + av5)]) (c_X3_readNumber hc) hK rfl hl.1 rfl (Nat.le_of_ble_eq_true rfl) dX3_readSaw_36 ⟨Nat.le_of_ble_eq_true rfl, Nat.le_of_ble_eq_true rfl⟩) (fun H locs hW hS => ?_)
  clear hc
  generalize M9 = M at hW hF
  refine pw_pI C hW hS pc_7 (k := 4) (by decide) rfl rfl tq_105 rfl dX3_readSaw_39 hF (fun M H locs hW hS hF => ?_)
  refine lv_aload_n hx hb dX3_readSaw_42 rfl (lv_at hl 0 rfl) ?_
  refine lv_iconst (v := 1) hx hb dX3_readSaw_43 (by decide) ?_
  refine pw_pZ C hW hS pc_3 (k := 5) (by decide) rfl rfl tq_197 rfl dX3_readSaw_44 hF (fun M H locs hW hS hF => ?_)
  refine lv_aload_n hx hb dX3_readSaw_47 rfl (lv_at hl 0 rfl) ?_
  obtain ⟨hK, hF⟩ := ps_ck_some hF
  obtain ⟨M9, hc, hF⟩ := ps_b1_some hF
  refine ps_backV (M' := M9) hS (ps_callV C hW pc_3 mf_X3_readEnd tq_489 tq_6 tq_487 ⟨Nat.le_of_ble_eq_true rfl, Nat.le_of_ble_eq_true rfl⟩ rfl rfl (As := []) (rest := []) (c_X3_readEnd hc) hK rfl hl.1 rfl (Nat.le_of_ble_eq_true rfl) dX3_readSaw_48 ⟨Nat.le_of_ble_eq_true rfl, Nat.le_of_ble_eq_true rfl⟩) (fun H locs hW hS => ?_)
  clear hc
  generalize M9 = M at hW hF
  exact pw_vret C hW hS dX3_readSaw_51 hF
theorem mf_X3_readSaw : ps_mf yX3_readSaw cX3_readSaw 1 none 0 := ⟨tq_498, tq_63, by decide +kernel, by decide +kernel, by decide +kernel⟩
theorem c_X3_readSaw {l : Launch} {D : va_G} {Y : ps_A} {B : Nat} {M : ps_M} {a0 : Nat} {M' : ps_M} (hF : f_X3_readSaw M a0 = some M') : Met l yX3_readSaw (Cond.code yX3_readSaw cX3_readSaw 1 none :: tb_G) rm_X3_readSaw (ps_PB D Y B M [.ref (B + a0)]) (va_Qv (fun (_ : Unit) => True) (fun _ t => ps_St D Y B M' t) (fun q => B ≤ q)) 0 0 (fun q => B ≤ q) :=
  pm_of (by decide +kernel) (Nat.le_of_ble_eq_true rfl) (fun p e s m args below meth c C hW hS ls hl => kb_X3_readSaw C hF hW hS hl)

end
