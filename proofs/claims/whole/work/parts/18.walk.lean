section
variable {p : Program} {l : Launch} {e : Env} {s : State} {m : MethodId} {args : Array Value} {below : List Frame} {meth : Method} {c : Code} {H : Heap} {locs : List Loc} {ls : Array Slot} {D : va_G} {Y : ps_A} {B : Nat}
abbrev rm_X10_see : Room := { frames := 1, cells := 0, slots := 0, locals := 25 }
def f_X10_see (M : ps_M) (a0 : Nat) (x1 : Int32) : Option (Int32 × ps_M) := ps_b2 (f_X10_in M (x1.toInt64) (0 : Int64) (999 : Int64)) (fun xv1 M => if xv1 = 0 then (some ((-1000000002 : Int32), M)) else (ps_gI M a0 9 32 (fun xv3 => if xv3 = (8 : Int32) then (some ((-1000000004 : Int32), M)) else (ps_gR M a0 9 31 (fun av5 => ps_gI M a0 9 32 (fun xv6 => ps_xI M av5 xv6 x1 (fun M => ps_gI M a0 9 32 (fun xv7 => ps_pI M a0 9 32 (xv7 + (1 : Int32)) (fun M => ps_gI M a0 9 32 (fun xv8 => some (xv8, M)))))))))))
set_option maxRecDepth 100000 in
set_option maxHeartbeats 4000000 in
theorem kb_X10_see (C : ps_C p s m args meth c cX10_see 2 RX10 ((some .int)) "see" D Y B) {q : Int32 × ps_M}  {M : ps_M} {a0 : Nat} {x1 : Int32} (hF : f_X10_see M a0 x1 = some q) (hW : ps_W D Y B M H) (hS : va_S (fun q => B ≤ q) s.heap H locs) (hl : lv_has ls 2 [(0, .ref (B + a0)), (1, .int x1)]) : W p l e rm_X10_see s m args below meth c H locs 0 0 (ps_Qi D Y B below args s 0 0 q) (F0 m 0 ls []) := by
  have hx := C.1
  have hb := C.2.1
  have hml := C.2.2.1
  have hown := C.2.2.2.1
  have hts := C.2.2.2.2.1
  unfold f_X10_see at hF
  refine lv_iload_n hx hb dX10_see_0 rfl (lv_at hl 1 rfl) ?_
  refine lv_i2l hx hb dX10_see_1 rfl ?_
  refine lv_lconst (v := 0) hx hb dX10_see_2 (by decide) ?_
  refine lv_ldc2 (v := 999) hx hb hown (hts _ tq_1252) dX10_see_3 ?_
  obtain ⟨xv1, M9, hc, hF⟩ := ps_b2_some hF
  refine ps_backI (x0 := xv1) (M' := M9) hS (ps_callS C hW mf_X10_in tq_1031 tq_1030 ⟨Nat.le_of_ble_eq_true rfl, Nat.le_of_ble_eq_true rfl⟩ rfl rfl (As := [.long (x1.toInt64), .long (0 : Int64), .long (999 : Int64)]) (rest := []) (c_X10_in hc) rfl hl.1 rfl (Nat.le_of_ble_eq_true rfl) dX10_see_6 ⟨Nat.le_of_ble_eq_true rfl, Nat.le_of_ble_eq_true rfl⟩) (fun H locs hW hS => ?_)
  clear hc
  generalize M9 = M at hW hF
  refine lv_if_ne (tgt := 15) hx hb dX10_see_9 (by decide) (fun hv2 => ?_) (fun hv2 => ?_)
  · replace hF := (if_neg hv2).symm.trans hF
    refine lv_aload_n hx hb dX10_see_15 rfl (lv_at hl 0 rfl) ?_
    refine pw_gI C hW pc_9 (k := 32) (by decide) rfl tq_950 dX10_see_16 hF (fun xv3 hF => ?_)
    refine lv_bipush (v := 8) hx hb dX10_see_19 (by decide) ?_
    refine lv_icmp_ne (tgt := 27) hx hb dX10_see_21 (by decide) (fun hv4 => ?_) (fun hv4 => ?_)
    · replace hF := (if_neg hv4).symm.trans hF
      refine lv_aload_n hx hb dX10_see_27 rfl (lv_at hl 0 rfl) ?_
      refine pw_gR C hW pc_9 (k := 31) (by decide) rfl tq_949 dX10_see_28 hF (fun av5 hF => ?_)
      refine lv_aload_n hx hb dX10_see_31 rfl (lv_at hl 0 rfl) ?_
      refine pw_gI C hW pc_9 (k := 32) (by decide) rfl tq_950 dX10_see_32 hF (fun xv6 hF => ?_)
      refine lv_iload_n hx hb dX10_see_35 rfl (lv_at hl 1 rfl) ?_
      refine pw_xI C hW hS dX10_see_36 hF (fun M H locs hW hS hF => ?_)
      refine lv_aload_n hx hb dX10_see_37 rfl (lv_at hl 0 rfl) ?_
      refine lv_dup hx hb dX10_see_38 rfl ?_
      refine pw_gI C hW pc_9 (k := 32) (by decide) rfl tq_950 dX10_see_39 hF (fun xv7 hF => ?_)
      refine lv_iconst (v := 1) hx hb dX10_see_42 (by decide) ?_
      refine lv_iadd hx hb dX10_see_43 ?_
      refine pw_pI C hW hS pc_9 (k := 32) (by decide) rfl rfl tq_950 rfl dX10_see_44 hF (fun M H locs hW hS hF => ?_)
      refine lv_aload_n hx hb dX10_see_47 rfl (lv_at hl 0 rfl) ?_
      refine pw_gI C hW pc_9 (k := 32) (by decide) rfl tq_950 dX10_see_48 hF (fun xv8 hF => ?_)
      exact pw_iret C hW hS dX10_see_51 hF
    · replace hF := (if_pos hv4).symm.trans hF
      refine lv_ldc (v := -1000000004) hx hb hown (hts _ tq_1034) dX10_see_24 ?_
      exact pw_iret C hW hS dX10_see_26 hF
  · replace hF := (if_pos hv2).symm.trans hF
    refine lv_ldc (v := -1000000002) hx hb hown (hts _ tq_1033) dX10_see_12 ?_
    exact pw_iret C hW hS dX10_see_14 hF
theorem mf_X10_see : ps_mf yX10_see cX10_see 2 ((some .int)) 1 := ⟨tq_1280, tq_71, by decide +kernel, by decide +kernel, by decide +kernel⟩
theorem c_X10_see {l : Launch} {D : va_G} {Y : ps_A} {B : Nat} {M : ps_M} {a0 : Nat} {x1 : Int32} {r : Int32} {M' : ps_M} (hF : f_X10_see M a0 x1 = some (r, M')) : Met l yX10_see (Cond.code yX10_see cX10_see 2 ((some .int)) :: tb_G) rm_X10_see (ps_PB D Y B M [.ref (B + a0), .int x1]) (va_Qi (fun x (_ : Unit) => x = r) (fun _ t => ps_St D Y B M' t) (fun q => B ≤ q)) 0 0 (fun q => B ≤ q) :=
  pm_of (by decide +kernel) (Nat.le_of_ble_eq_true rfl) (fun p e s m args below meth c C hW hS ls hl => kb_X10_see C hF hW hS hl)

abbrev rm_X10_isAsSeen : Room := { frames := 3, cells := 0, slots := 0, locals := 75 }
def f_X10_isAsSeen_b45 (k4 : ps_M → Nat → Int32 → Int32 → Option (Int32 × ps_M)) (M : ps_M) (a0 : Nat) (x2 : Int32) (t0 : Int32) : Option (Int32 × ps_M) := ps_v (x2 + 1) (fun xv1 => k4 M a0 t0 xv1)
def f_X10_isAsSeen_b44 (k4 : ps_M → Nat → Int32 → Int32 → Option (Int32 × ps_M)) (M : ps_M) (a0 : Nat) (x2 : Int32) : Option (Int32 × ps_M) := f_X10_isAsSeen_b45 k4 M a0 x2 (0 : Int32)
def f_X10_isAsSeen_b52 (M : ps_M) (x1 : Int32) : Option (Int32 × ps_M) := ps_z x1 M
def f_X10_isAsSeen_w4 (k4 : ps_M → Nat → Int32 → Int32 → Option (Int32 × ps_M)) (M : ps_M) (a0 : Nat) (x1 : Int32) (x2 : Int32) : Option (Int32 × ps_M) := ps_gI M a0 9 32 (fun xv2 => if xv2 ≤ x2 then (f_X10_isAsSeen_b52 M x1) else (if x1 = 0 then (f_X10_isAsSeen_b52 M x1) else (ps_ck M a0 9 (ps_b2 (f_X10_isThrough M a0 (28 : Int32)) (fun xv5 M => if xv5 = 0 then (ps_ck M a0 9 (ps_b2 (f_X10_pull M a0 (28 : Int32)) (fun xv7 M => ps_gR M a0 9 31 (fun av8 => ps_aI M av8 x2 (fun xv9 => if xv7 = xv9 then (f_X10_isAsSeen_b45 k4 M a0 x2 (1 : Int32)) else (f_X10_isAsSeen_b44 k4 M a0 x2)))))) else (f_X10_isAsSeen_b44 k4 M a0 x2))))))
def f_X10_isAsSeen_l4 : Nat → ps_M → Nat → Int32 → Int32 → Option (Int32 × ps_M)
  | 0, _, _, _, _ => none
  | n + 1, M, a0, x1, x2 => f_X10_isAsSeen_w4 (f_X10_isAsSeen_l4 n) M a0 x1 x2
def f_X10_isAsSeen (M : ps_M) (a0 : Nat) : Option (Int32 × ps_M) := f_X10_isAsSeen_l4 ps_fu M a0 (1 : Int32) (0 : Int32)
set_option maxRecDepth 100000 in
set_option maxHeartbeats 4000000 in
theorem kb_X10_isAsSeen_b45 (C : ps_C p s m args meth c cX10_isAsSeen 3 RX10 ((some .boolean)) "isAsSeen" D Y B) {q : Int32 × ps_M} (k4 : ps_M → Nat → Int32 → Int32 → Option (Int32 × ps_M)) (hk4 : ∀ (M : ps_M) (H : Heap) (locs : List Loc) (ls : Array Slot) (a0 : Nat) (x1 : Int32) (x2 : Int32), k4 M a0 x1 x2 = some q → ps_W D Y B M H → va_S (fun q => B ≤ q) s.heap H locs → lv_has ls 3 [(0, .ref (B + a0)), (1, .int x1), (2, .int x2)] → W p l e rm_X10_isAsSeen s m args below meth c H locs 0 0 (ps_Qi D Y B below args s 0 0 q) (F0 m 4 ls [])) {M : ps_M} {a0 : Nat} {x2 : Int32} {t0 : Int32} (hF : f_X10_isAsSeen_b45 k4 M a0 x2 t0 = some q) (hW : ps_W D Y B M H) (hS : va_S (fun q => B ≤ q) s.heap H locs) (hl : lv_has ls 3 [(0, .ref (B + a0)), (2, .int x2)]) : W p l e rm_X10_isAsSeen s m args below meth c H locs 0 0 (ps_Qi D Y B below args s 0 0 q) (F0 m 45 ls [.int t0]) := by
  have hx := C.1
  have hb := C.2.1
  have hml := C.2.2.1
  have hown := C.2.2.2.1
  have hts := C.2.2.2.2.1
  unfold f_X10_isAsSeen_b45 at hF
  refine lv_istore_n (lv' := [(1, .int t0), (0, .ref (B + a0)), (2, .int x2)]) hx hb dX10_isAsSeen_45 rfl hl (by decide) rfl (fun ls hl => ?_)
  obtain ⟨xv1, exv1, hF⟩ := ps_ve hF
  refine lv_iinc (v := xv1) (lv' := [(2, .int xv1), (1, .int t0), (0, .ref (B + a0))]) hx hb dX10_isAsSeen_46 hl (k := 2) rfl (by rw [exv1]; rfl) (by decide) rfl (fun ls hl => ?_)
  clear exv1
  refine lv_goto (tgt := 4) hx hb dX10_isAsSeen_49 (by decide) ?_
  exact hk4 M _ _ _ a0 t0 xv1 hF hW hS (lv_sub hl [2, 1, 0] rfl)
set_option maxRecDepth 100000 in
set_option maxHeartbeats 4000000 in
theorem kb_X10_isAsSeen_b44 (C : ps_C p s m args meth c cX10_isAsSeen 3 RX10 ((some .boolean)) "isAsSeen" D Y B) {q : Int32 × ps_M} (k4 : ps_M → Nat → Int32 → Int32 → Option (Int32 × ps_M)) (hk4 : ∀ (M : ps_M) (H : Heap) (locs : List Loc) (ls : Array Slot) (a0 : Nat) (x1 : Int32) (x2 : Int32), k4 M a0 x1 x2 = some q → ps_W D Y B M H → va_S (fun q => B ≤ q) s.heap H locs → lv_has ls 3 [(0, .ref (B + a0)), (1, .int x1), (2, .int x2)] → W p l e rm_X10_isAsSeen s m args below meth c H locs 0 0 (ps_Qi D Y B below args s 0 0 q) (F0 m 4 ls [])) {M : ps_M} {a0 : Nat} {x2 : Int32} (hF : f_X10_isAsSeen_b44 k4 M a0 x2 = some q) (hW : ps_W D Y B M H) (hS : va_S (fun q => B ≤ q) s.heap H locs) (hl : lv_has ls 3 [(0, .ref (B + a0)), (2, .int x2)]) : W p l e rm_X10_isAsSeen s m args below meth c H locs 0 0 (ps_Qi D Y B below args s 0 0 q) (F0 m 44 ls []) := by
  have hx := C.1
  have hb := C.2.1
  have hml := C.2.2.1
  have hown := C.2.2.2.1
  have hts := C.2.2.2.2.1
  unfold f_X10_isAsSeen_b44 at hF
  refine lv_iconst (v := 0) hx hb dX10_isAsSeen_44 (by decide) ?_
  exact kb_X10_isAsSeen_b45 C k4 hk4 hF hW hS (lv_sub hl [0, 1] rfl)
set_option maxRecDepth 100000 in
set_option maxHeartbeats 4000000 in
theorem kb_X10_isAsSeen_b52 (C : ps_C p s m args meth c cX10_isAsSeen 3 RX10 ((some .boolean)) "isAsSeen" D Y B) {q : Int32 × ps_M}  {M : ps_M} {x1 : Int32} (hF : f_X10_isAsSeen_b52 M x1 = some q) (hW : ps_W D Y B M H) (hS : va_S (fun q => B ≤ q) s.heap H locs) (hl : lv_has ls 3 [(1, .int x1)]) : W p l e rm_X10_isAsSeen s m args below meth c H locs 0 0 (ps_Qi D Y B below args s 0 0 q) (F0 m 52 ls []) := by
  have hx := C.1
  have hb := C.2.1
  have hml := C.2.2.1
  have hown := C.2.2.2.1
  have hts := C.2.2.2.2.1
  unfold f_X10_isAsSeen_b52 at hF
  refine lv_iload_n hx hb dX10_isAsSeen_52 rfl (lv_at hl 0 rfl) ?_
  exact pw_zret C hW hS dX10_isAsSeen_53 hF
set_option maxRecDepth 100000 in
set_option maxHeartbeats 4000000 in
theorem kb_X10_isAsSeen_w4 (C : ps_C p s m args meth c cX10_isAsSeen 3 RX10 ((some .boolean)) "isAsSeen" D Y B) {q : Int32 × ps_M} (k4 : ps_M → Nat → Int32 → Int32 → Option (Int32 × ps_M)) (hk4 : ∀ (M : ps_M) (H : Heap) (locs : List Loc) (ls : Array Slot) (a0 : Nat) (x1 : Int32) (x2 : Int32), k4 M a0 x1 x2 = some q → ps_W D Y B M H → va_S (fun q => B ≤ q) s.heap H locs → lv_has ls 3 [(0, .ref (B + a0)), (1, .int x1), (2, .int x2)] → W p l e rm_X10_isAsSeen s m args below meth c H locs 0 0 (ps_Qi D Y B below args s 0 0 q) (F0 m 4 ls [])) {M : ps_M} {a0 : Nat} {x1 : Int32} {x2 : Int32} (hF : f_X10_isAsSeen_w4 k4 M a0 x1 x2 = some q) (hW : ps_W D Y B M H) (hS : va_S (fun q => B ≤ q) s.heap H locs) (hl : lv_has ls 3 [(0, .ref (B + a0)), (1, .int x1), (2, .int x2)]) : W p l e rm_X10_isAsSeen s m args below meth c H locs 0 0 (ps_Qi D Y B below args s 0 0 q) (F0 m 4 ls []) := by
  have hx := C.1
  have hb := C.2.1
  have hml := C.2.2.1
  have hown := C.2.2.2.1
  have hts := C.2.2.2.2.1
  unfold f_X10_isAsSeen_w4 at hF
  refine lv_iload_n hx hb dX10_isAsSeen_4 rfl (lv_at hl 2 rfl) ?_
  refine lv_aload_n hx hb dX10_isAsSeen_5 rfl (lv_at hl 0 rfl) ?_
  refine pw_gI C hW pc_9 (k := 32) (by decide) rfl tq_950 dX10_isAsSeen_6 hF (fun xv2 hF => ?_)
  refine lv_icmp_ge (tgt := 52) hx hb dX10_isAsSeen_9 (by decide) (fun hv3 => ?_) (fun hv3 => ?_)
  · replace hF := (if_pos hv3).symm.trans hF
    exact kb_X10_isAsSeen_b52 C hF hW hS (lv_sub hl [1] rfl)
  · replace hF := (if_neg hv3).symm.trans hF
    refine lv_iload_n hx hb dX10_isAsSeen_12 rfl (lv_at hl 1 rfl) ?_
    refine lv_if_eq (tgt := 52) hx hb dX10_isAsSeen_13 (by decide) (fun hv4 => ?_) (fun hv4 => ?_)
    · replace hF := (if_pos hv4).symm.trans hF
      exact kb_X10_isAsSeen_b52 C hF hW hS (lv_sub hl [1] rfl)
    · replace hF := (if_neg hv4).symm.trans hF
      refine lv_aload_n hx hb dX10_isAsSeen_16 rfl (lv_at hl 0 rfl) ?_
      refine lv_bipush (v := 28) hx hb dX10_isAsSeen_17 (by decide) ?_
      obtain ⟨hK, hF⟩ := ps_ck_some hF
      obtain ⟨xv5, M9, hc, hF⟩ := ps_b2_some hF
      refine ps_backI (x0 := xv5) (M' := M9) hS (ps_callV C hW pc_9 mf_X10_isThrough tq_1090 tq_39 tq_1088 ⟨Nat.le_of_ble_eq_true rfl, Nat.le_of_ble_eq_true rfl⟩ rfl rfl (As := [.int (28 : Int32)]) (rest := []) (c_X10_isThrough hc) hK rfl hl.1 rfl (Nat.le_of_ble_eq_true rfl) dX10_isAsSeen_19 ⟨Nat.le_of_ble_eq_true rfl, Nat.le_of_ble_eq_true rfl⟩) (fun H locs hW hS => ?_)
      clear hc
      generalize M9 = M at hW hF
      refine lv_if_ne (tgt := 44) hx hb dX10_isAsSeen_22 (by decide) (fun hv6 => ?_) (fun hv6 => ?_)
      · replace hF := (if_neg hv6).symm.trans hF
        exact kb_X10_isAsSeen_b44 C k4 hk4 hF hW hS (lv_sub hl [0, 2] rfl)
      · replace hF := (if_pos hv6).symm.trans hF
        refine lv_aload_n hx hb dX10_isAsSeen_25 rfl (lv_at hl 0 rfl) ?_
        refine lv_bipush (v := 28) hx hb dX10_isAsSeen_26 (by decide) ?_
        obtain ⟨hK, hF⟩ := ps_ck_some hF
        obtain ⟨xv7, M9, hc, hF⟩ := ps_b2_some hF
        refine ps_backI (x0 := xv7) (M' := M9) hS (ps_callV C hW pc_9 mf_X10_pull tq_1132 tq_44 tq_1130 ⟨Nat.le_of_ble_eq_true rfl, Nat.le_of_ble_eq_true rfl⟩ rfl rfl (As := [.int (28 : Int32)]) (rest := []) (c_X10_pull hc) hK rfl hl.1 rfl (Nat.le_of_ble_eq_true rfl) dX10_isAsSeen_28 ⟨Nat.le_of_ble_eq_true rfl, Nat.le_of_ble_eq_true rfl⟩) (fun H locs hW hS => ?_)
        clear hc
        generalize M9 = M at hW hF
        refine lv_aload_n hx hb dX10_isAsSeen_31 rfl (lv_at hl 0 rfl) ?_
        refine pw_gR C hW pc_9 (k := 31) (by decide) rfl tq_949 dX10_isAsSeen_32 hF (fun av8 hF => ?_)
        refine lv_iload_n hx hb dX10_isAsSeen_35 rfl (lv_at hl 2 rfl) ?_
        refine pw_aI C hW dX10_isAsSeen_36 hF (fun xv9 hF => ?_)
        refine lv_icmp_ne (tgt := 44) hx hb dX10_isAsSeen_37 (by decide) (fun hv10 => ?_) (fun hv10 => ?_)
        · replace hF := (if_neg hv10).symm.trans hF
          exact kb_X10_isAsSeen_b44 C k4 hk4 hF hW hS (lv_sub hl [0, 2] rfl)
        · replace hF := (if_pos hv10).symm.trans hF
          refine lv_iconst (v := 1) hx hb dX10_isAsSeen_40 (by decide) ?_
          refine lv_goto (tgt := 45) hx hb dX10_isAsSeen_41 (by decide) ?_
          exact kb_X10_isAsSeen_b45 C k4 hk4 hF hW hS (lv_sub hl [0, 2] rfl)
theorem kb_X10_isAsSeen_l4 (C : ps_C p s m args meth c cX10_isAsSeen 3 RX10 ((some .boolean)) "isAsSeen" D Y B) {q : Int32 × ps_M}  : ∀ (n : Nat) (M : ps_M) (H : Heap) (locs : List Loc) (ls : Array Slot) (a0 : Nat) (x1 : Int32) (x2 : Int32), f_X10_isAsSeen_l4 n M a0 x1 x2 = some q → ps_W D Y B M H → va_S (fun q => B ≤ q) s.heap H locs → lv_has ls 3 [(0, .ref (B + a0)), (1, .int x1), (2, .int x2)] → W p l e rm_X10_isAsSeen s m args below meth c H locs 0 0 (ps_Qi D Y B below args s 0 0 q) (F0 m 4 ls []) := by
  intro n
  induction n with
  | zero => intro M H locs ls a0 x1 x2 hF; cases hF
  | succ n ih => intro M H locs ls a0 x1 x2 hF hW hS hl; exact kb_X10_isAsSeen_w4 C  (f_X10_isAsSeen_l4 n) ih hF hW hS hl
set_option maxRecDepth 100000 in
set_option maxHeartbeats 4000000 in
theorem kb_X10_isAsSeen (C : ps_C p s m args meth c cX10_isAsSeen 3 RX10 ((some .boolean)) "isAsSeen" D Y B) {q : Int32 × ps_M}  {M : ps_M} {a0 : Nat} (hF : f_X10_isAsSeen M a0 = some q) (hW : ps_W D Y B M H) (hS : va_S (fun q => B ≤ q) s.heap H locs) (hl : lv_has ls 3 [(0, .ref (B + a0))]) : W p l e rm_X10_isAsSeen s m args below meth c H locs 0 0 (ps_Qi D Y B below args s 0 0 q) (F0 m 0 ls []) := by
  have hx := C.1
  have hb := C.2.1
  have hml := C.2.2.1
  have hown := C.2.2.2.1
  have hts := C.2.2.2.2.1
  unfold f_X10_isAsSeen at hF
  refine lv_iconst (v := 1) hx hb dX10_isAsSeen_0 (by decide) ?_
  refine lv_istore_n (lv' := [(1, .int (1 : Int32)), (0, .ref (B + a0))]) hx hb dX10_isAsSeen_1 rfl hl (by decide) rfl (fun ls hl => ?_)
  refine lv_iconst (v := 0) hx hb dX10_isAsSeen_2 (by decide) ?_
  refine lv_istore_n (lv' := [(2, .int (0 : Int32)), (1, .int (1 : Int32)), (0, .ref (B + a0))]) hx hb dX10_isAsSeen_3 rfl hl (by decide) rfl (fun ls hl => ?_)
  exact kb_X10_isAsSeen_l4 C ps_fu M _ _ _ a0 (1 : Int32) (0 : Int32) hF hW hS (lv_sub hl [2, 1, 0] rfl)
theorem mf_X10_isAsSeen : ps_mf yX10_isAsSeen cX10_isAsSeen 3 ((some .boolean)) 0 := ⟨tq_1288, tq_71, by decide +kernel, by decide +kernel, by decide +kernel⟩
theorem c_X10_isAsSeen {l : Launch} {D : va_G} {Y : ps_A} {B : Nat} {M : ps_M} {a0 : Nat} {r : Int32} {M' : ps_M} (hF : f_X10_isAsSeen M a0 = some (r, M')) : Met l yX10_isAsSeen (Cond.code yX10_isAsSeen cX10_isAsSeen 3 ((some .boolean)) :: tb_G) rm_X10_isAsSeen (ps_PB D Y B M [.ref (B + a0)]) (va_Qi (fun x (_ : Unit) => x = r) (fun _ t => ps_St D Y B M' t) (fun q => B ≤ q)) 0 0 (fun q => B ≤ q) :=
  pm_of (by decide +kernel) (Nat.le_of_ble_eq_true rfl) (fun p e s m args below meth c C hW hS ls hl => kb_X10_isAsSeen C hF hW hS hl)

abbrev rm_X10_habits : Room := { frames := 4, cells := 0, slots := 0, locals := 97 }
def f_X10_habits_w21 (k21 : ps_M → Nat → Int32 → Int32 → Int32 → Int32 → Option (Int32 × ps_M)) (M : ps_M) (a0 : Nat) (x1 : Int32) (x2 : Int32) (x3 : Int32) (x4 : Int32) : Option (Int32 × ps_M) := if (10 : Int32) ≤ x4 then (some (x3, M)) else (ps_ck M a0 9 (ps_b1 (f_X10_beginFresh M a0 x1 x2) (fun M => ps_gR M a0 9 0 (fun av2 => ps_xI M av2 ((40 : Int32) + x2) x4 (fun M => ps_ck M a0 9 (ps_b2 (f_X10_isAsSeen M a0 ) (fun xv3 M => ps_b2 (f_X10_one M xv3) (fun xv4 M => ps_v ((x3 ||| (xv4 <<< (x4 &&& 31)))) (fun xv5 => ps_v (x4 + 1) (fun xv6 => k21 M a0 x1 x2 xv5 xv6))))))))))
def f_X10_habits_l21 : Nat → ps_M → Nat → Int32 → Int32 → Int32 → Int32 → Option (Int32 × ps_M)
  | 0, _, _, _, _, _, _ => none
  | n + 1, M, a0, x1, x2, x3, x4 => f_X10_habits_w21 (f_X10_habits_l21 n) M a0 x1 x2 x3 x4
def f_X10_habits (M : ps_M) (a0 : Nat) (x1 : Int32) (x2 : Int32) : Option (Int32 × ps_M) := ps_ck M a0 9 (ps_b2 (f_X10_refusedTwo M a0 x1 x2) (fun xv7 M => if 0 ≤ xv7 then (f_X10_habits_l21 ps_fu M a0 x1 x2 (0 : Int32) (0 : Int32)) else (ps_ck M a0 9 (ps_b2 (f_X10_refusedTwo M a0 x1 x2) (fun xv9 M => some (xv9, M))))))
set_option maxRecDepth 100000 in
set_option maxHeartbeats 4000000 in
theorem kb_X10_habits_w21 (C : ps_C p s m args meth c cX10_habits 5 RX10 ((some .int)) "habits" D Y B) {q : Int32 × ps_M} (k21 : ps_M → Nat → Int32 → Int32 → Int32 → Int32 → Option (Int32 × ps_M)) (hk21 : ∀ (M : ps_M) (H : Heap) (locs : List Loc) (ls : Array Slot) (a0 : Nat) (x1 : Int32) (x2 : Int32) (x3 : Int32) (x4 : Int32), k21 M a0 x1 x2 x3 x4 = some q → ps_W D Y B M H → va_S (fun q => B ≤ q) s.heap H locs → lv_has ls 5 [(0, .ref (B + a0)), (1, .int x1), (2, .int x2), (3, .int x3), (4, .int x4)] → W p l e rm_X10_habits s m args below meth c H locs 0 0 (ps_Qi D Y B below args s 0 0 q) (F0 m 21 ls [])) {M : ps_M} {a0 : Nat} {x1 : Int32} {x2 : Int32} {x3 : Int32} {x4 : Int32} (hF : f_X10_habits_w21 k21 M a0 x1 x2 x3 x4 = some q) (hW : ps_W D Y B M H) (hS : va_S (fun q => B ≤ q) s.heap H locs) (hl : lv_has ls 5 [(0, .ref (B + a0)), (1, .int x1), (2, .int x2), (3, .int x3), (4, .int x4)]) : W p l e rm_X10_habits s m args below meth c H locs 0 0 (ps_Qi D Y B below args s 0 0 q) (F0 m 21 ls []) := by
  have hx := C.1
  have hb := C.2.1
  have hml := C.2.2.1
  have hown := C.2.2.2.1
  have hts := C.2.2.2.2.1
  unfold f_X10_habits_w21 at hF
  refine lv_iload hx hb dX10_habits_21 (lv_at hl 4 rfl) ?_
  refine lv_bipush (v := 10) hx hb dX10_habits_23 (by decide) ?_
  refine lv_icmp_ge (tgt := 64) hx hb dX10_habits_25 (by decide) (fun hv1 => ?_) (fun hv1 => ?_)
  · replace hF := (if_pos hv1).symm.trans hF
    refine lv_iload_n hx hb dX10_habits_64 rfl (lv_at hl 3 rfl) ?_
    exact pw_iret C hW hS dX10_habits_65 hF
  · replace hF := (if_neg hv1).symm.trans hF
    refine lv_aload_n hx hb dX10_habits_28 rfl (lv_at hl 0 rfl) ?_
    refine lv_iload_n hx hb dX10_habits_29 rfl (lv_at hl 1 rfl) ?_
    refine lv_iload_n hx hb dX10_habits_30 rfl (lv_at hl 2 rfl) ?_
    obtain ⟨hK, hF⟩ := ps_ck_some hF
    obtain ⟨M9, hc, hF⟩ := ps_b1_some hF
    refine ps_backV (M' := M9) hS (ps_callV C hW pc_9 mf_X10_beginFresh tq_1229 tq_55 tq_1227 ⟨Nat.le_of_ble_eq_true rfl, Nat.le_of_ble_eq_true rfl⟩ rfl rfl (As := [.int x1, .int x2]) (rest := []) (c_X10_beginFresh hc) hK rfl hl.1 rfl (Nat.le_of_ble_eq_true rfl) dX10_habits_31 ⟨Nat.le_of_ble_eq_true rfl, Nat.le_of_ble_eq_true rfl⟩) (fun H locs hW hS => ?_)
    clear hc
    generalize M9 = M at hW hF
    refine lv_aload_n hx hb dX10_habits_34 rfl (lv_at hl 0 rfl) ?_
    refine pw_gR C hW pc_9 (k := 0) (by decide) rfl tq_918 dX10_habits_35 hF (fun av2 hF => ?_)
    refine lv_bipush (v := 40) hx hb dX10_habits_38 (by decide) ?_
    refine lv_iload_n hx hb dX10_habits_40 rfl (lv_at hl 2 rfl) ?_
    refine lv_iadd hx hb dX10_habits_41 ?_
    refine lv_iload hx hb dX10_habits_42 (lv_at hl 4 rfl) ?_
    refine pw_xI C hW hS dX10_habits_44 hF (fun M H locs hW hS hF => ?_)
    refine lv_iload_n hx hb dX10_habits_45 rfl (lv_at hl 3 rfl) ?_
    refine lv_aload_n hx hb dX10_habits_46 rfl (lv_at hl 0 rfl) ?_
    obtain ⟨hK, hF⟩ := ps_ck_some hF
    obtain ⟨xv3, M9, hc, hF⟩ := ps_b2_some hF
    refine ps_backI (x0 := xv3) (M' := M9) hS (ps_callV C hW pc_9 mf_X10_isAsSeen tq_1287 tq_59 tq_1285 ⟨Nat.le_of_ble_eq_true rfl, Nat.le_of_ble_eq_true rfl⟩ rfl rfl (As := []) (rest := [.int x3]) (c_X10_isAsSeen hc) hK rfl hl.1 rfl (Nat.le_of_ble_eq_true rfl) dX10_habits_47 ⟨Nat.le_of_ble_eq_true rfl, Nat.le_of_ble_eq_true rfl⟩) (fun H locs hW hS => ?_)
    clear hc
    generalize M9 = M at hW hF
    obtain ⟨xv4, M9, hc, hF⟩ := ps_b2_some hF
    refine ps_backI (x0 := xv4) (M' := M9) hS (ps_callS C hW mf_X10_one tq_1093 tq_1092 ⟨Nat.le_of_ble_eq_true rfl, Nat.le_of_ble_eq_true rfl⟩ rfl rfl (As := [.int xv3]) (rest := [.int x3]) (c_X10_one hc) rfl hl.1 rfl (Nat.le_of_ble_eq_true rfl) dX10_habits_50 ⟨Nat.le_of_ble_eq_true rfl, Nat.le_of_ble_eq_true rfl⟩) (fun H locs hW hS => ?_)
    clear hc
    generalize M9 = M at hW hF
    refine lv_iload hx hb dX10_habits_53 (lv_at hl 4 rfl) ?_
    refine lv_ishl hx hb dX10_habits_55 ?_
    refine lv_ior hx hb dX10_habits_56 ?_
    refine pw_v hF (fun xv5 hF => ?_)
    refine lv_istore_n (lv' := [(3, .int xv5), (0, .ref (B + a0)), (1, .int x1), (2, .int x2), (4, .int x4)]) hx hb dX10_habits_57 rfl hl (by decide) rfl (fun ls hl => ?_)
    obtain ⟨xv6, exv6, hF⟩ := ps_ve hF
    refine lv_iinc (v := xv6) (lv' := [(4, .int xv6), (3, .int xv5), (0, .ref (B + a0)), (1, .int x1), (2, .int x2)]) hx hb dX10_habits_58 hl (k := 4) rfl (by rw [exv6]; rfl) (by decide) rfl (fun ls hl => ?_)
    clear exv6
    refine lv_goto (tgt := 21) hx hb dX10_habits_61 (by decide) ?_
    exact hk21 M _ _ _ a0 x1 x2 xv5 xv6 hF hW hS (lv_sub hl [2, 3, 4, 1, 0] rfl)
theorem kb_X10_habits_l21 (C : ps_C p s m args meth c cX10_habits 5 RX10 ((some .int)) "habits" D Y B) {q : Int32 × ps_M}  : ∀ (n : Nat) (M : ps_M) (H : Heap) (locs : List Loc) (ls : Array Slot) (a0 : Nat) (x1 : Int32) (x2 : Int32) (x3 : Int32) (x4 : Int32), f_X10_habits_l21 n M a0 x1 x2 x3 x4 = some q → ps_W D Y B M H → va_S (fun q => B ≤ q) s.heap H locs → lv_has ls 5 [(0, .ref (B + a0)), (1, .int x1), (2, .int x2), (3, .int x3), (4, .int x4)] → W p l e rm_X10_habits s m args below meth c H locs 0 0 (ps_Qi D Y B below args s 0 0 q) (F0 m 21 ls []) := by
  intro n
  induction n with
  | zero => intro M H locs ls a0 x1 x2 x3 x4 hF; cases hF
  | succ n ih => intro M H locs ls a0 x1 x2 x3 x4 hF hW hS hl; exact kb_X10_habits_w21 C  (f_X10_habits_l21 n) ih hF hW hS hl
set_option maxRecDepth 100000 in
set_option maxHeartbeats 4000000 in
theorem kb_X10_habits (C : ps_C p s m args meth c cX10_habits 5 RX10 ((some .int)) "habits" D Y B) {q : Int32 × ps_M}  {M : ps_M} {a0 : Nat} {x1 : Int32} {x2 : Int32} (hF : f_X10_habits M a0 x1 x2 = some q) (hW : ps_W D Y B M H) (hS : va_S (fun q => B ≤ q) s.heap H locs) (hl : lv_has ls 5 [(0, .ref (B + a0)), (1, .int x1), (2, .int x2)]) : W p l e rm_X10_habits s m args below meth c H locs 0 0 (ps_Qi D Y B below args s 0 0 q) (F0 m 0 ls []) := by
  have hx := C.1
  have hb := C.2.1
  have hml := C.2.2.1
  have hown := C.2.2.2.1
  have hts := C.2.2.2.2.1
  unfold f_X10_habits at hF
  refine lv_aload_n hx hb dX10_habits_0 rfl (lv_at hl 0 rfl) ?_
  refine lv_iload_n hx hb dX10_habits_1 rfl (lv_at hl 1 rfl) ?_
  refine lv_iload_n hx hb dX10_habits_2 rfl (lv_at hl 2 rfl) ?_
  obtain ⟨hK, hF⟩ := ps_ck_some hF
  obtain ⟨xv7, M9, hc, hF⟩ := ps_b2_some hF
  refine ps_backI (x0 := xv7) (M' := M9) hS (ps_callV C hW pc_9 mf_X10_refusedTwo tq_1221 tq_53 tq_1219 ⟨Nat.le_of_ble_eq_true rfl, Nat.le_of_ble_eq_true rfl⟩ rfl rfl (As := [.int x1, .int x2]) (rest := []) (c_X10_refusedTwo hc) hK rfl hl.1 rfl (Nat.le_of_ble_eq_true rfl) dX10_habits_3 ⟨Nat.le_of_ble_eq_true rfl, Nat.le_of_ble_eq_true rfl⟩) (fun H locs hW hS => ?_)
  clear hc
  generalize M9 = M at hW hF
  refine lv_if_ge (tgt := 16) hx hb dX10_habits_6 (by decide) (fun hv8 => ?_) (fun hv8 => ?_)
  · replace hF := (if_pos hv8).symm.trans hF
    refine lv_iconst (v := 0) hx hb dX10_habits_16 (by decide) ?_
    refine lv_istore_n (lv' := [(3, .int (0 : Int32)), (0, .ref (B + a0)), (1, .int x1), (2, .int x2)]) hx hb dX10_habits_17 rfl hl (by decide) rfl (fun ls hl => ?_)
    refine lv_iconst (v := 0) hx hb dX10_habits_18 (by decide) ?_
    refine lv_istore (lv' := [(4, .int (0 : Int32)), (3, .int (0 : Int32)), (0, .ref (B + a0)), (1, .int x1), (2, .int x2)]) hx hb dX10_habits_19 hl (by decide) rfl (fun ls hl => ?_)
    exact kb_X10_habits_l21 C ps_fu M _ _ _ a0 x1 x2 (0 : Int32) (0 : Int32) hF hW hS (lv_sub hl [2, 3, 4, 1, 0] rfl)
  · replace hF := (if_neg hv8).symm.trans hF
    refine lv_aload_n hx hb dX10_habits_9 rfl (lv_at hl 0 rfl) ?_
    refine lv_iload_n hx hb dX10_habits_10 rfl (lv_at hl 1 rfl) ?_
    refine lv_iload_n hx hb dX10_habits_11 rfl (lv_at hl 2 rfl) ?_
    obtain ⟨hK, hF⟩ := ps_ck_some hF
    obtain ⟨xv9, M9, hc, hF⟩ := ps_b2_some hF
    refine ps_backI (x0 := xv9) (M' := M9) hS (ps_callV C hW pc_9 mf_X10_refusedTwo tq_1221 tq_53 tq_1219 ⟨Nat.le_of_ble_eq_true rfl, Nat.le_of_ble_eq_true rfl⟩ rfl rfl (As := [.int x1, .int x2]) (rest := []) (c_X10_refusedTwo hc) hK rfl hl.1 rfl (Nat.le_of_ble_eq_true rfl) dX10_habits_12 ⟨Nat.le_of_ble_eq_true rfl, Nat.le_of_ble_eq_true rfl⟩) (fun H locs hW hS => ?_)
    clear hc
    generalize M9 = M at hW hF
    exact pw_iret C hW hS dX10_habits_15 hF
theorem mf_X10_habits : ps_mf yX10_habits cX10_habits 5 ((some .int)) 2 := ⟨tq_1284, tq_71, by decide +kernel, by decide +kernel, by decide +kernel⟩
theorem c_X10_habits {l : Launch} {D : va_G} {Y : ps_A} {B : Nat} {M : ps_M} {a0 : Nat} {x1 : Int32} {x2 : Int32} {r : Int32} {M' : ps_M} (hF : f_X10_habits M a0 x1 x2 = some (r, M')) : Met l yX10_habits (Cond.code yX10_habits cX10_habits 5 ((some .int)) :: tb_G) rm_X10_habits (ps_PB D Y B M [.ref (B + a0), .int x1, .int x2]) (va_Qi (fun x (_ : Unit) => x = r) (fun _ t => ps_St D Y B M' t) (fun q => B ≤ q)) 0 0 (fun q => B ≤ q) :=
  pm_of (by decide +kernel) (Nat.le_of_ble_eq_true rfl) (fun p e s m args below meth c C hW hS ls hl => kb_X10_habits C hF hW hS hl)

abbrev rm_X10_end : Room := { frames := 4, cells := 0, slots := 0, locals := 97 }
def f_X10_end_b70 (k14 : ps_M → Nat → Int32 → Int32 → Int32 → Option (Int32 × ps_M)) (k25 : ps_M → Nat → Int32 → Int32 → Int32 → Int32 → Option (Int32 × ps_M)) (M : ps_M) (a0 : Nat) (x1 : Int32) (x2 : Int32) (x3 : Int32) (x4 : Int32) : Option (Int32 × ps_M) := ps_v (x4 + 1) (fun xv1 => k25 M a0 x1 x2 x3 xv1)
def f_X10_end_w25 (k14 : ps_M → Nat → Int32 → Int32 → Int32 → Option (Int32 × ps_M)) (k25 : ps_M → Nat → Int32 → Int32 → Int32 → Int32 → Option (Int32 × ps_M)) (M : ps_M) (a0 : Nat) (x1 : Int32) (x2 : Int32) (x3 : Int32) (x4 : Int32) : Option (Int32 × ps_M) := ps_gI M a0 9 3 (fun xv2 => if xv2 ≤ x4 then (ps_v (x3 + 1) (fun xv4 => k14 M a0 x1 x2 xv4)) else (if x3 = x4 then (f_X10_end_b70 k14 k25 M a0 x1 x2 x3 x4) else (ps_ck M a0 9 (ps_b1 (f_X10_beginFresh M a0 x3 x4) (fun M => ps_ck M a0 9 (ps_b2 (f_X10_isAsSeen M a0 ) (fun xv6 M => if xv6 = 0 then (f_X10_end_b70 k14 k25 M a0 x1 x2 x3 x4) else (if x2 = x1 then (some ((((10 : Int32) * x3) + x4), M)) else (ps_v (x2 + 1) (fun xv9 => f_X10_end_b70 k14 k25 M a0 x1 xv9 x3 x4))))))))))
def f_X10_end_l25 (k14 : ps_M → Nat → Int32 → Int32 → Int32 → Option (Int32 × ps_M)) : Nat → ps_M → Nat → Int32 → Int32 → Int32 → Int32 → Option (Int32 × ps_M)
  | 0, _, _, _, _, _, _ => none
  | n + 1, M, a0, x1, x2, x3, x4 => f_X10_end_w25 k14 (f_X10_end_l25 k14 n) M a0 x1 x2 x3 x4
def f_X10_end_b92 (M : ps_M) (t0 : Int32) : Option (Int32 × ps_M) := some (t0, M)
def f_X10_end_w14 (k14 : ps_M → Nat → Int32 → Int32 → Int32 → Option (Int32 × ps_M)) (M : ps_M) (a0 : Nat) (x1 : Int32) (x2 : Int32) (x3 : Int32) : Option (Int32 × ps_M) := ps_gI M a0 9 3 (fun xv10 => if xv10 ≤ x3 then (if x1 = (-1 : Int32) then (f_X10_end_b92 M x2) else (f_X10_end_b92 M (-1 : Int32))) else (f_X10_end_l25 k14 ps_fu M a0 x1 x2 x3 (0 : Int32)))
def f_X10_end_l14 : Nat → ps_M → Nat → Int32 → Int32 → Int32 → Option (Int32 × ps_M)
  | 0, _, _, _, _, _ => none
  | n + 1, M, a0, x1, x2, x3 => f_X10_end_w14 (f_X10_end_l14 n) M a0 x1 x2 x3
def f_X10_end (M : ps_M) (a0 : Nat) (x1 : Int32) : Option (Int32 × ps_M) := ps_gI M a0 9 2 (fun xv13 => if xv13 = 0 then (some ((-1000000003 : Int32), M)) else (f_X10_end_l14 ps_fu M a0 x1 (0 : Int32) (0 : Int32)))
set_option maxRecDepth 100000 in
set_option maxHeartbeats 4000000 in
theorem kb_X10_end_b70 (C : ps_C p s m args meth c cX10_end 5 RX10 ((some .int)) "end" D Y B) {q : Int32 × ps_M} (k14 : ps_M → Nat → Int32 → Int32 → Int32 → Option (Int32 × ps_M)) (hk14 : ∀ (M : ps_M) (H : Heap) (locs : List Loc) (ls : Array Slot) (a0 : Nat) (x1 : Int32) (x2 : Int32) (x3 : Int32), k14 M a0 x1 x2 x3 = some q → ps_W D Y B M H → va_S (fun q => B ≤ q) s.heap H locs → lv_has ls 5 [(0, .ref (B + a0)), (1, .int x1), (2, .int x2), (3, .int x3)] → W p l e rm_X10_end s m args below meth c H locs 0 0 (ps_Qi D Y B below args s 0 0 q) (F0 m 14 ls [])) (k25 : ps_M → Nat → Int32 → Int32 → Int32 → Int32 → Option (Int32 × ps_M)) (hk25 : ∀ (M : ps_M) (H : Heap) (locs : List Loc) (ls : Array Slot) (a0 : Nat) (x1 : Int32) (x2 : Int32) (x3 : Int32) (x4 : Int32), k25 M a0 x1 x2 x3 x4 = some q → ps_W D Y B M H → va_S (fun q => B ≤ q) s.heap H locs → lv_has ls 5 [(0, .ref (B + a0)), (1, .int x1), (2, .int x2), (3, .int x3), (4, .int x4)] → W p l e rm_X10_end s m args below meth c H locs 0 0 (ps_Qi D Y B below args s 0 0 q) (F0 m 25 ls [])) {M : ps_M} {a0 : Nat} {x1 : Int32} {x2 : Int32} {x3 : Int32} {x4 : Int32} (hF : f_X10_end_b70 k14 k25 M a0 x1 x2 x3 x4 = some q) (hW : ps_W D Y B M H) (hS : va_S (fun q => B ≤ q) s.heap H locs) (hl : lv_has ls 5 [(0, .ref (B + a0)), (1, .int x1), (2, .int x2), (3, .int x3), (4, .int x4)]) : W p l e rm_X10_end s m args below meth c H locs 0 0 (ps_Qi D Y B below args s 0 0 q) (F0 m 70 ls []) := by
  have hx := C.1
  have hb := C.2.1
  have hml := C.2.2.1
  have hown := C.2.2.2.1
  have hts := C.2.2.2.2.1
  unfold f_X10_end_b70 at hF
  obtain ⟨xv1, exv1, hF⟩ := ps_ve hF
  refine lv_iinc (v := xv1) (lv' := [(4, .int xv1), (0, .ref (B + a0)), (1, .int x1), (2, .int x2), (3, .int x3)]) hx hb dX10_end_70 hl (k := 4) rfl (by rw [exv1]; rfl) (by decide) rfl (fun ls hl => ?_)
  clear exv1
  refine lv_goto (tgt := 25) hx hb dX10_end_73 (by decide) ?_
  exact hk25 M _ _ _ a0 x1 x2 x3 xv1 hF hW hS (lv_sub hl [1, 2, 3, 4, 0] rfl)
set_option maxRecDepth 100000 in
set_option maxHeartbeats 4000000 in
theorem kb_X10_end_w25 (C : ps_C p s m args meth c cX10_end 5 RX10 ((some .int)) "end" D Y B) {q : Int32 × ps_M} (k14 : ps_M → Nat → Int32 → Int32 → Int32 → Option (Int32 × ps_M)) (hk14 : ∀ (M : ps_M) (H : Heap) (locs : List Loc) (ls : Array Slot) (a0 : Nat) (x1 : Int32) (x2 : Int32) (x3 : Int32), k14 M a0 x1 x2 x3 = some q → ps_W D Y B M H → va_S (fun q => B ≤ q) s.heap H locs → lv_has ls 5 [(0, .ref (B + a0)), (1, .int x1), (2, .int x2), (3, .int x3)] → W p l e rm_X10_end s m args below meth c H locs 0 0 (ps_Qi D Y B below args s 0 0 q) (F0 m 14 ls [])) (k25 : ps_M → Nat → Int32 → Int32 → Int32 → Int32 → Option (Int32 × ps_M)) (hk25 : ∀ (M : ps_M) (H : Heap) (locs : List Loc) (ls : Array Slot) (a0 : Nat) (x1 : Int32) (x2 : Int32) (x3 : Int32) (x4 : Int32), k25 M a0 x1 x2 x3 x4 = some q → ps_W D Y B M H → va_S (fun q => B ≤ q) s.heap H locs → lv_has ls 5 [(0, .ref (B + a0)), (1, .int x1), (2, .int x2), (3, .int x3), (4, .int x4)] → W p l e rm_X10_end s m args below meth c H locs 0 0 (ps_Qi D Y B below args s 0 0 q) (F0 m 25 ls [])) {M : ps_M} {a0 : Nat} {x1 : Int32} {x2 : Int32} {x3 : Int32} {x4 : Int32} (hF : f_X10_end_w25 k14 k25 M a0 x1 x2 x3 x4 = some q) (hW : ps_W D Y B M H) (hS : va_S (fun q => B ≤ q) s.heap H locs) (hl : lv_has ls 5 [(0, .ref (B + a0)), (1, .int x1), (2, .int x2), (3, .int x3), (4, .int x4)]) : W p l e rm_X10_end s m args below meth c H locs 0 0 (ps_Qi D Y B below args s 0 0 q) (F0 m 25 ls []) := by
  have hx := C.1
  have hb := C.2.1
  have hml := C.2.2.1
  have hown := C.2.2.2.1
  have hts := C.2.2.2.2.1
  unfold f_X10_end_w25 at hF
  refine lv_iload hx hb dX10_end_25 (lv_at hl 4 rfl) ?_
  refine lv_aload_n hx hb dX10_end_27 rfl (lv_at hl 0 rfl) ?_
  refine pw_gI C hW pc_9 (k := 3) (by decide) rfl tq_921 dX10_end_28 hF (fun xv2 hF => ?_)
  refine lv_icmp_ge (tgt := 76) hx hb dX10_end_31 (by decide) (fun hv3 => ?_) (fun hv3 => ?_)
  · replace hF := (if_pos hv3).symm.trans hF
    obtain ⟨xv4, exv4, hF⟩ := ps_ve hF
    refine lv_iinc (v := xv4) (lv' := [(3, .int xv4), (0, .ref (B + a0)), (1, .int x1), (2, .int x2), (4, .int x4)]) hx hb dX10_end_76 hl (k := 3) rfl (by rw [exv4]; rfl) (by decide) rfl (fun ls hl => ?_)
    clear exv4
    refine lv_goto (tgt := 14) hx hb dX10_end_79 (by decide) ?_
    exact hk14 M _ _ _ a0 x1 x2 xv4 hF hW hS (lv_sub hl [1, 2, 3, 0] rfl)
  · replace hF := (if_neg hv3).symm.trans hF
    refine lv_iload_n hx hb dX10_end_34 rfl (lv_at hl 3 rfl) ?_
    refine lv_iload hx hb dX10_end_35 (lv_at hl 4 rfl) ?_
    refine lv_icmp_eq (tgt := 70) hx hb dX10_end_37 (by decide) (fun hv5 => ?_) (fun hv5 => ?_)
    · replace hF := (if_pos hv5).symm.trans hF
      exact kb_X10_end_b70 C k14 hk14 k25 hk25 hF hW hS (lv_sub hl [0, 1, 2, 3, 4] rfl)
    · replace hF := (if_neg hv5).symm.trans hF
      refine lv_aload_n hx hb dX10_end_40 rfl (lv_at hl 0 rfl) ?_
      refine lv_iload_n hx hb dX10_end_41 rfl (lv_at hl 3 rfl) ?_
      refine lv_iload hx hb dX10_end_42 (lv_at hl 4 rfl) ?_
      obtain ⟨hK, hF⟩ := ps_ck_some hF
      obtain ⟨M9, hc, hF⟩ := ps_b1_some hF
      refine ps_backV (M' := M9) hS (ps_callV C hW pc_9 mf_X10_beginFresh tq_1229 tq_55 tq_1227 ⟨Nat.le_of_ble_eq_true rfl, Nat.le_of_ble_eq_true rfl⟩ rfl rfl (As := [.int x3, .int x4]) (rest := []) (c_X10_beginFresh hc) hK rfl hl.1 rfl (Nat.le_of_ble_eq_true rfl) dX10_end_44 ⟨Nat.le_of_ble_eq_true rfl, Nat.le_of_ble_eq_true rfl⟩) (fun H locs hW hS => ?_)
      clear hc
      generalize M9 = M at hW hF
      refine lv_aload_n hx hb dX10_end_47 rfl (lv_at hl 0 rfl) ?_
      obtain ⟨hK, hF⟩ := ps_ck_some hF
      obtain ⟨xv6, M9, hc, hF⟩ := ps_b2_some hF
      refine ps_backI (x0 := xv6) (M' := M9) hS (ps_callV C hW pc_9 mf_X10_isAsSeen tq_1287 tq_59 tq_1285 ⟨Nat.le_of_ble_eq_true rfl, Nat.le_of_ble_eq_true rfl⟩ rfl rfl (As := []) (rest := []) (c_X10_isAsSeen hc) hK rfl hl.1 rfl (Nat.le_of_ble_eq_true rfl) dX10_end_48 ⟨Nat.le_of_ble_eq_true rfl, Nat.le_of_ble_eq_true rfl⟩) (fun H locs hW hS => ?_)
      clear hc
      generalize M9 = M at hW hF
      refine lv_if_eq (tgt := 70) hx hb dX10_end_51 (by decide) (fun hv7 => ?_) (fun hv7 => ?_)
      · replace hF := (if_pos hv7).symm.trans hF
        exact kb_X10_end_b70 C k14 hk14 k25 hk25 hF hW hS (lv_sub hl [0, 1, 2, 3, 4] rfl)
      · replace hF := (if_neg hv7).symm.trans hF
        refine lv_iload_n hx hb dX10_end_54 rfl (lv_at hl 2 rfl) ?_
        refine lv_iload_n hx hb dX10_end_55 rfl (lv_at hl 1 rfl) ?_
        refine lv_icmp_ne (tgt := 67) hx hb dX10_end_56 (by decide) (fun hv8 => ?_) (fun hv8 => ?_)
        · replace hF := (if_neg hv8).symm.trans hF
          obtain ⟨xv9, exv9, hF⟩ := ps_ve hF
          refine lv_iinc (v := xv9) (lv' := [(2, .int xv9), (0, .ref (B + a0)), (1, .int x1), (3, .int x3), (4, .int x4)]) hx hb dX10_end_67 hl (k := 2) rfl (by rw [exv9]; rfl) (by decide) rfl (fun ls hl => ?_)
          clear exv9
          exact kb_X10_end_b70 C k14 hk14 k25 hk25 hF hW hS (lv_sub hl [1, 2, 0, 3, 4] rfl)
        · replace hF := (if_pos hv8).symm.trans hF
          refine lv_bipush (v := 10) hx hb dX10_end_59 (by decide) ?_
          refine lv_iload_n hx hb dX10_end_61 rfl (lv_at hl 3 rfl) ?_
          refine lv_imul hx hb dX10_end_62 ?_
          refine lv_iload hx hb dX10_end_63 (lv_at hl 4 rfl) ?_
          refine lv_iadd hx hb dX10_end_65 ?_
          exact pw_iret C hW hS dX10_end_66 hF
theorem kb_X10_end_l25 (C : ps_C p s m args meth c cX10_end 5 RX10 ((some .int)) "end" D Y B) {q : Int32 × ps_M} (k14 : ps_M → Nat → Int32 → Int32 → Int32 → Option (Int32 × ps_M)) (hk14 : ∀ (M : ps_M) (H : Heap) (locs : List Loc) (ls : Array Slot) (a0 : Nat) (x1 : Int32) (x2 : Int32) (x3 : Int32), k14 M a0 x1 x2 x3 = some q → ps_W D Y B M H → va_S (fun q => B ≤ q) s.heap H locs → lv_has ls 5 [(0, .ref (B + a0)), (1, .int x1), (2, .int x2), (3, .int x3)] → W p l e rm_X10_end s m args below meth c H locs 0 0 (ps_Qi D Y B below args s 0 0 q) (F0 m 14 ls [])) : ∀ (n : Nat) (M : ps_M) (H : Heap) (locs : List Loc) (ls : Array Slot) (a0 : Nat) (x1 : Int32) (x2 : Int32) (x3 : Int32) (x4 : Int32), f_X10_end_l25 k14 n M a0 x1 x2 x3 x4 = some q → ps_W D Y B M H → va_S (fun q => B ≤ q) s.heap H locs → lv_has ls 5 [(0, .ref (B + a0)), (1, .int x1), (2, .int x2), (3, .int x3), (4, .int x4)] → W p l e rm_X10_end s m args below meth c H locs 0 0 (ps_Qi D Y B below args s 0 0 q) (F0 m 25 ls []) := by
  intro n
  induction n with
  | zero => intro M H locs ls a0 x1 x2 x3 x4 hF; cases hF
  | succ n ih => intro M H locs ls a0 x1 x2 x3 x4 hF hW hS hl; exact kb_X10_end_w25 C k14 hk14 (f_X10_end_l25 k14 n) ih hF hW hS hl
set_option maxRecDepth 100000 in
set_option maxHeartbeats 4000000 in
theorem kb_X10_end_b92 (C : ps_C p s m args meth c cX10_end 5 RX10 ((some .int)) "end" D Y B) {q : Int32 × ps_M}  {M : ps_M} {t0 : Int32} (hF : f_X10_end_b92 M t0 = some q) (hW : ps_W D Y B M H) (hS : va_S (fun q => B ≤ q) s.heap H locs) (hl : lv_has ls 5 []) : W p l e rm_X10_end s m args below meth c H locs 0 0 (ps_Qi D Y B below args s 0 0 q) (F0 m 92 ls [.int t0]) := by
  have hx := C.1
  have hb := C.2.1
  have hml := C.2.2.1
  have hown := C.2.2.2.1
  have hts := C.2.2.2.2.1
  unfold f_X10_end_b92 at hF
  exact pw_iret C hW hS dX10_end_92 hF
set_option maxRecDepth 100000 in
set_option maxHeartbeats 4000000 in
theorem kb_X10_end_w14 (C : ps_C p s m args meth c cX10_end 5 RX10 ((some .int)) "end" D Y B) {q : Int32 × ps_M} (k14 : ps_M → Nat → Int32 → Int32 → Int32 → Option (Int32 × ps_M)) (hk14 : ∀ (M : ps_M) (H : Heap) (locs : List Loc) (ls : Array Slot) (a0 : Nat) (x1 : Int32) (x2 : Int32) (x3 : Int32), k14 M a0 x1 x2 x3 = some q → ps_W D Y B M H → va_S (fun q => B ≤ q) s.heap H locs → lv_has ls 5 [(0, .ref (B + a0)), (1, .int x1), (2, .int x2), (3, .int x3)] → W p l e rm_X10_end s m args below meth c H locs 0 0 (ps_Qi D Y B below args s 0 0 q) (F0 m 14 ls [])) {M : ps_M} {a0 : Nat} {x1 : Int32} {x2 : Int32} {x3 : Int32} (hF : f_X10_end_w14 k14 M a0 x1 x2 x3 = some q) (hW : ps_W D Y B M H) (hS : va_S (fun q => B ≤ q) s.heap H locs) (hl : lv_has ls 5 [(0, .ref (B + a0)), (1, .int x1), (2, .int x2), (3, .int x3)]) : W p l e rm_X10_end s m args below meth c H locs 0 0 (ps_Qi D Y B below args s 0 0 q) (F0 m 14 ls []) := by
  have hx := C.1
  have hb := C.2.1
  have hml := C.2.2.1
  have hown := C.2.2.2.1
  have hts := C.2.2.2.2.1
  unfold f_X10_end_w14 at hF
  refine lv_iload_n hx hb dX10_end_14 rfl (lv_at hl 3 rfl) ?_
  refine lv_aload_n hx hb dX10_end_15 rfl (lv_at hl 0 rfl) ?_
  refine pw_gI C hW pc_9 (k := 3) (by decide) rfl tq_921 dX10_end_16 hF (fun xv10 hF => ?_)
  refine lv_icmp_ge (tgt := 82) hx hb dX10_end_19 (by decide) (fun hv11 => ?_) (fun hv11 => ?_)
  · replace hF := (if_pos hv11).symm.trans hF
    refine lv_iload_n hx hb dX10_end_82 rfl (lv_at hl 1 rfl) ?_
    refine lv_iconst (v := -1) hx hb dX10_end_83 (by decide) ?_
    refine lv_icmp_ne (tgt := 91) hx hb dX10_end_84 (by decide) (fun hv12 => ?_) (fun hv12 => ?_)
    · replace hF := (if_neg hv12).symm.trans hF
      refine lv_iconst (v := -1) hx hb dX10_end_91 (by decide) ?_
      exact kb_X10_end_b92 C hF hW hS (lv_sub hl [] rfl)
    · replace hF := (if_pos hv12).symm.trans hF
      refine lv_iload_n hx hb dX10_end_87 rfl (lv_at hl 2 rfl) ?_
      refine lv_goto (tgt := 92) hx hb dX10_end_88 (by decide) ?_
      exact kb_X10_end_b92 C hF hW hS (lv_sub hl [] rfl)
  · replace hF := (if_neg hv11).symm.trans hF
    refine lv_iconst (v := 0) hx hb dX10_end_22 (by decide) ?_
    refine lv_istore (lv' := [(4, .int (0 : Int32)), (0, .ref (B + a0)), (1, .int x1), (2, .int x2), (3, .int x3)]) hx hb dX10_end_23 hl (by decide) rfl (fun ls hl => ?_)
    exact kb_X10_end_l25 C k14 hk14 ps_fu M _ _ _ a0 x1 x2 x3 (0 : Int32) hF hW hS (lv_sub hl [1, 2, 3, 4, 0] rfl)
theorem kb_X10_end_l14 (C : ps_C p s m args meth c cX10_end 5 RX10 ((some .int)) "end" D Y B) {q : Int32 × ps_M}  : ∀ (n : Nat) (M : ps_M) (H : Heap) (locs : List Loc) (ls : Array Slot) (a0 : Nat) (x1 : Int32) (x2 : Int32) (x3 : Int32), f_X10_end_l14 n M a0 x1 x2 x3 = some q → ps_W D Y B M H → va_S (fun q => B ≤ q) s.heap H locs → lv_has ls 5 [(0, .ref (B + a0)), (1, .int x1), (2, .int x2), (3, .int x3)] → W p l e rm_X10_end s m args below meth c H locs 0 0 (ps_Qi D Y B below args s 0 0 q) (F0 m 14 ls []) := by
  intro n
  induction n with
  | zero => intro M H locs ls a0 x1 x2 x3 hF; cases hF
  | succ n ih => intro M H locs ls a0 x1 x2 x3 hF hW hS hl; exact kb_X10_end_w14 C  (f_X10_end_l14 n) ih hF hW hS hl
set_option maxRecDepth 100000 in
set_option maxHeartbeats 4000000 in
theorem kb_X10_end (C : ps_C p s m args meth c cX10_end 5 RX10 ((some .int)) "end" D Y B) {q : Int32 × ps_M}  {M : ps_M} {a0 : Nat} {x1 : Int32} (hF : f_X10_end M a0 x1 = some q) (hW : ps_W D Y B M H) (hS : va_S (fun q => B ≤ q) s.heap H locs) (hl : lv_has ls 5 [(0, .ref (B + a0)), (1, .int x1)]) : W p l e rm_X10_end s m args below meth c H locs 0 0 (ps_Qi D Y B below args s 0 0 q) (F0 m 0 ls []) := by
  have hx := C.1
  have hb := C.2.1
  have hml := C.2.2.1
  have hown := C.2.2.2.1
  have hts := C.2.2.2.2.1
  unfold f_X10_end at hF
  refine lv_aload_n hx hb dX10_end_0 rfl (lv_at hl 0 rfl) ?_
  refine pw_gI C hW pc_9 (k := 2) (by decide) rfl tq_920 dX10_end_1 hF (fun xv13 hF => ?_)
  refine lv_if_ne (tgt := 10) hx hb dX10_end_4 (by decide) (fun hv14 => ?_) (fun hv14 => ?_)
  · replace hF := (if_neg hv14).symm.trans hF
    refine lv_iconst (v := 0) hx hb dX10_end_10 (by decide) ?_
    refine lv_istore_n (lv' := [(2, .int (0 : Int32)), (0, .ref (B + a0)), (1, .int x1)]) hx hb dX10_end_11 rfl hl (by decide) rfl (fun ls hl => ?_)
    refine lv_iconst (v := 0) hx hb dX10_end_12 (by decide) ?_
    refine lv_istore_n (lv' := [(3, .int (0 : Int32)), (2, .int (0 : Int32)), (0, .ref (B + a0)), (1, .int x1)]) hx hb dX10_end_13 rfl hl (by decide) rfl (fun ls hl => ?_)
    exact kb_X10_end_l14 C ps_fu M _ _ _ a0 x1 (0 : Int32) (0 : Int32) hF hW hS (lv_sub hl [2, 3, 1, 0] rfl)
  · replace hF := (if_pos hv14).symm.trans hF
    refine lv_ldc (v := -1000000003) hx hb hown (hts _ tq_1112) dX10_end_7 ?_
    exact pw_iret C hW hS dX10_end_9 hF
theorem mf_X10_end : ps_mf yX10_end cX10_end 5 ((some .int)) 1 := ⟨tq_1292, tq_71, by decide +kernel, by decide +kernel, by decide +kernel⟩
theorem c_X10_end {l : Launch} {D : va_G} {Y : ps_A} {B : Nat} {M : ps_M} {a0 : Nat} {x1 : Int32} {r : Int32} {M' : ps_M} (hF : f_X10_end M a0 x1 = some (r, M')) : Met l yX10_end (Cond.code yX10_end cX10_end 5 ((some .int)) :: tb_G) rm_X10_end (ps_PB D Y B M [.ref (B + a0), .int x1]) (va_Qi (fun x (_ : Unit) => x = r) (fun _ t => ps_St D Y B M' t) (fun q => B ≤ q)) 0 0 (fun q => B ≤ q) :=
  pm_of (by decide +kernel) (Nat.le_of_ble_eq_true rfl) (fun p e s m args below meth c C hW hS ls hl => kb_X10_end C hF hW hS hl)

abbrev rm_X10_write : Room := { frames := 1, cells := 0, slots := 0, locals := 25 }
def f_X10_write (M : ps_M) (a0 : Nat) (x1 : Int32) : Option (Int32 × ps_M) := ps_b2 (f_X10_in M (x1.toInt64) (0 : Int64) (999 : Int64)) (fun xv1 M => if xv1 = 0 then (some ((-1000000002 : Int32), M)) else (ps_gI M a0 9 34 (fun xv3 => if xv3 = (20 : Int32) then (some ((-1000000004 : Int32), M)) else (ps_gR M a0 9 33 (fun av5 => ps_gI M a0 9 34 (fun xv6 => ps_xI M av5 xv6 x1 (fun M => ps_gI M a0 9 34 (fun xv7 => ps_pI M a0 9 34 (xv7 + (1 : Int32)) (fun M => ps_gI M a0 9 34 (fun xv8 => some (xv8, M)))))))))))
set_option maxRecDepth 100000 in
set_option maxHeartbeats 4000000 in
theorem kb_X10_write (C : ps_C p s m args meth c cX10_write 2 RX10 ((some .int)) "write" D Y B) {q : Int32 × ps_M}  {M : ps_M} {a0 : Nat} {x1 : Int32} (hF : f_X10_write M a0 x1 = some q) (hW : ps_W D Y B M H) (hS : va_S (fun q => B ≤ q) s.heap H locs) (hl : lv_has ls 2 [(0, .ref (B + a0)), (1, .int x1)]) : W p l e rm_X10_write s m args below meth c H locs 0 0 (ps_Qi D Y B below args s 0 0 q) (F0 m 0 ls []) := by
  have hx := C.1
  have hb := C.2.1
  have hml := C.2.2.1
  have hown := C.2.2.2.1
  have hts := C.2.2.2.2.1
  unfold f_X10_write at hF
  refine lv_iload_n hx hb dX10_write_0 rfl (lv_at hl 1 rfl) ?_
  refine lv_i2l hx hb dX10_write_1 rfl ?_
  refine lv_lconst (v := 0) hx hb dX10_write_2 (by decide) ?_
  refine lv_ldc2 (v := 999) hx hb hown (hts _ tq_1252) dX10_write_3 ?_
  obtain ⟨xv1, M9, hc, hF⟩ := ps_b2_some hF
  refine ps_backI (x0 := xv1) (M' := M9) hS (ps_callS C hW mf_X10_in tq_1031 tq_1030 ⟨Nat.le_of_ble_eq_true rfl, Nat.le_of_ble_eq_true rfl⟩ rfl rfl (As := [.long (x1.toInt64), .long (0 : Int64), .long (999 : Int64)]) (rest := []) (c_X10_in hc) rfl hl.1 rfl (Nat.le_of_ble_eq_true rfl) dX10_write_6 ⟨Nat.le_of_ble_eq_true rfl, Nat.le_of_ble_eq_true rfl⟩) (fun H locs hW hS => ?_)
  clear hc
  generalize M9 = M at hW hF
  refine lv_if_ne (tgt := 15) hx hb dX10_write_9 (by decide) (fun hv2 => ?_) (fun hv2 => ?_)
  · replace hF := (if_neg hv2).symm.trans hF
    refine lv_aload_n hx hb dX10_write_15 rfl (lv_at hl 0 rfl) ?_
    refine pw_gI C hW pc_9 (k := 34) (by decide) rfl tq_952 dX10_write_16 hF (fun xv3 hF => ?_)
    refine lv_bipush (v := 20) hx hb dX10_write_19 (by decide) ?_
    refine lv_icmp_ne (tgt := 27) hx hb dX10_write_21 (by decide) (fun hv4 => ?_) (fun hv4 => ?_)
    · replace hF := (if_neg hv4).symm.trans hF
      refine lv_aload_n hx hb dX10_write_27 rfl (lv_at hl 0 rfl) ?_
      refine pw_gR C hW pc_9 (k := 33) (by decide) rfl tq_951 dX10_write_28 hF (fun av5 hF => ?_)
      refine lv_aload_n hx hb dX10_write_31 rfl (lv_at hl 0 rfl) ?_
      refine pw_gI C hW pc_9 (k := 34) (by decide) rfl tq_952 dX10_write_32 hF (fun xv6 hF => ?_)
      refine lv_iload_n hx hb dX10_write_35 rfl (lv_at hl 1 rfl) ?_
      refine pw_xI C hW hS dX10_write_36 hF (fun M H locs hW hS hF => ?_)
      refine lv_aload_n hx hb dX10_write_37 rfl (lv_at hl 0 rfl) ?_
      refine lv_dup hx hb dX10_write_38 rfl ?_
      refine pw_gI C hW pc_9 (k := 34) (by decide) rfl tq_952 dX10_write_39 hF (fun xv7 hF => ?_)
      refine lv_iconst (v := 1) hx hb dX10_write_42 (by decide) ?_
      refine lv_iadd hx hb dX10_write_43 ?_
      refine pw_pI C hW hS pc_9 (k := 34) (by decide) rfl rfl tq_952 rfl dX10_write_44 hF (fun M H locs hW hS hF => ?_)
      refine lv_aload_n hx hb dX10_write_47 rfl (lv_at hl 0 rfl) ?_
      refine pw_gI C hW pc_9 (k := 34) (by decide) rfl tq_952 dX10_write_48 hF (fun xv8 hF => ?_)
      exact pw_iret C hW hS dX10_write_51 hF
    · replace hF := (if_pos hv4).symm.trans hF
      refine lv_ldc (v := -1000000004) hx hb hown (hts _ tq_1034) dX10_write_24 ?_
      exact pw_iret C hW hS dX10_write_26 hF
  · replace hF := (if_pos hv2).symm.trans hF
    refine lv_ldc (v := -1000000002) hx hb hown (hts _ tq_1033) dX10_write_12 ?_
    exact pw_iret C hW hS dX10_write_14 hF
theorem mf_X10_write : ps_mf yX10_write cX10_write 2 ((some .int)) 1 := ⟨tq_1296, tq_71, by decide +kernel, by decide +kernel, by decide +kernel⟩
theorem c_X10_write {l : Launch} {D : va_G} {Y : ps_A} {B : Nat} {M : ps_M} {a0 : Nat} {x1 : Int32} {r : Int32} {M' : ps_M} (hF : f_X10_write M a0 x1 = some (r, M')) : Met l yX10_write (Cond.code yX10_write cX10_write 2 ((some .int)) :: tb_G) rm_X10_write (ps_PB D Y B M [.ref (B + a0), .int x1]) (va_Qi (fun x (_ : Unit) => x = r) (fun _ t => ps_St D Y B M' t) (fun q => B ≤ q)) 0 0 (fun q => B ≤ q) :=
  pm_of (by decide +kernel) (Nat.le_of_ble_eq_true rfl) (fun p e s m args below meth c C hW hS ls hl => kb_X10_write C hF hW hS hl)

abbrev rm_X10_judge : Room := { frames := 3, cells := 0, slots := 0, locals := 75 }
def f_X10_judge_b51 (M : ps_M) (x1 : Int32) : Option (Int32 × ps_M) := some (x1, M)
def f_X10_judge_w19 (k19 : ps_M → Nat → Int32 → Option (Int32 × ps_M)) (M : ps_M) (a0 : Nat) (x1 : Int32) : Option (Int32 × ps_M) := ps_gI M a0 9 34 (fun xv1 => if xv1 ≤ x1 then (some ((-1 : Int32), M)) else (ps_ck M a0 9 (ps_b2 (f_X10_isThrough M a0 (28 : Int32)) (fun xv3 M => if xv3 = 0 then (ps_ck M a0 9 (ps_b2 (f_X10_pull M a0 (28 : Int32)) (fun xv5 M => ps_gR M a0 9 33 (fun av6 => ps_aI M av6 x1 (fun xv7 => if xv5 = xv7 then (ps_v (x1 + 1) (fun xv9 => k19 M a0 xv9)) else (f_X10_judge_b51 M x1)))))) else (f_X10_judge_b51 M x1)))))
def f_X10_judge_l19 : Nat → ps_M → Nat → Int32 → Option (Int32 × ps_M)
  | 0, _, _, _ => none
  | n + 1, M, a0, x1 => f_X10_judge_w19 (f_X10_judge_l19 n) M a0 x1
def f_X10_judge (M : ps_M) (a0 : Nat) : Option (Int32 × ps_M) := ps_ck M a0 9 (ps_b2 (f_X10_isPair M a0 ) (fun xv10 M => if xv10 = 0 then (some ((-1000000003 : Int32), M)) else (ps_ck M a0 9 (ps_b1 (f_X10_copy M a0 (0 : Int32) (28 : Int32)) (fun M => f_X10_judge_l19 ps_fu M a0 (0 : Int32))))))
set_option maxRecDepth 100000 in
set_option maxHeartbeats 4000000 in
theorem kb_X10_judge_b51 (C : ps_C p s m args meth c cX10_judge 2 RX10 ((some .int)) "judge" D Y B) {q : Int32 × ps_M}  {M : ps_M} {x1 : Int32} (hF : f_X10_judge_b51 M x1 = some q) (hW : ps_W D Y B M H) (hS : va_S (fun q => B ≤ q) s.heap H locs) (hl : lv_has ls 2 [(1, .int x1)]) : W p l e rm_X10_judge s m args below meth c H locs 0 0 (ps_Qi D Y B below args s 0 0 q) (F0 m 51 ls []) := by
  have hx := C.1
  have hb := C.2.1
  have hml := C.2.2.1
  have hown := C.2.2.2.1
  have hts := C.2.2.2.2.1
  unfold f_X10_judge_b51 at hF
  refine lv_iload_n hx hb dX10_judge_51 rfl (lv_at hl 0 rfl) ?_
  exact pw_iret C hW hS dX10_judge_52 hF
set_option maxRecDepth 100000 in
set_option maxHeartbeats 4000000 in
theorem kb_X10_judge_w19 (C : ps_C p s m args meth c cX10_judge 2 RX10 ((some .int)) "judge" D Y B) {q : Int32 × ps_M} (k19 : ps_M → Nat → Int32 → Option (Int32 × ps_M)) (hk19 : ∀ (M : ps_M) (H : Heap) (locs : List Loc) (ls : Array Slot) (a0 : Nat) (x1 : Int32), k19 M a0 x1 = some q → ps_W D Y B M H → va_S (fun q => B ≤ q) s.heap H locs → lv_has ls 2 [(0, .ref (B + a0)), (1, .int x1)] → W p l e rm_X10_judge s m args below meth c H locs 0 0 (ps_Qi D Y B below args s 0 0 q) (F0 m 19 ls [])) {M : ps_M} {a0 : Nat} {x1 : Int32} (hF : f_X10_judge_w19 k19 M a0 x1 = some q) (hW : ps_W D Y B M H) (hS : va_S (fun q => B ≤ q) s.heap H locs) (hl : lv_has ls 2 [(0, .ref (B + a0)), (1, .int x1)]) : W p l e rm_X10_judge s m args below meth c H locs 0 0 (ps_Qi D Y B below args s 0 0 q) (F0 m 19 ls []) := by
  have hx := C.1
  have hb := C.2.1
  have hml := C.2.2.1
  have hown := C.2.2.2.1
  have hts := C.2.2.2.2.1
  unfold f_X10_judge_w19 at hF
  refine lv_iload_n hx hb dX10_judge_19 rfl (lv_at hl 1 rfl) ?_
  refine lv_aload_n hx hb dX10_judge_20 rfl (lv_at hl 0 rfl) ?_
  refine pw_gI C hW pc_9 (k := 34) (by decide) rfl tq_952 dX10_judge_21 hF (fun xv1 hF => ?_)
  refine lv_icmp_ge (tgt := 59) hx hb dX10_judge_24 (by decide) (fun hv2 => ?_) (fun hv2 => ?_)
  · replace hF := (if_pos hv2).symm.trans hF
    refine lv_iconst (v := -1) hx hb dX10_judge_59 (by decide) ?_
    exact pw_iret C hW hS dX10_judge_60 hF
  · replace hF := (if_neg hv2).symm.trans hF
    refine lv_aload_n hx hb dX10_judge_27 rfl (lv_at hl 0 rfl) ?_
    refine lv_bipush (v := 28) hx hb dX10_judge_28 (by decide) ?_
    obtain ⟨hK, hF⟩ := ps_ck_some hF
    obtain ⟨xv3, M9, hc, hF⟩ := ps_b2_some hF
    refine ps_backI (x0 := xv3) (M' := M9) hS (ps_callV C hW pc_9 mf_X10_isThrough tq_1090 tq_39 tq_1088 ⟨Nat.le_of_ble_eq_true rfl, Nat.le_of_ble_eq_true rfl⟩ rfl rfl (As := [.int (28 : Int32)]) (rest := []) (c_X10_isThrough hc) hK rfl hl.1 rfl (Nat.le_of_ble_eq_true rfl) dX10_judge_30 ⟨Nat.le_of_ble_eq_true rfl, Nat.le_of_ble_eq_true rfl⟩) (fun H locs hW hS => ?_)
    clear hc
    generalize M9 = M at hW hF
    refine lv_if_ne (tgt := 51) hx hb dX10_judge_33 (by decide) (fun hv4 => ?_) (fun hv4 => ?_)
    · replace hF := (if_neg hv4).symm.trans hF
      exact kb_X10_judge_b51 C hF hW hS (lv_sub hl [1] rfl)
    · replace hF := (if_pos hv4).symm.trans hF
      refine lv_aload_n hx hb dX10_judge_36 rfl (lv_at hl 0 rfl) ?_
      refine lv_bipush (v := 28) hx hb dX10_judge_37 (by decide) ?_
      obtain ⟨hK, hF⟩ := ps_ck_some hF
      obtain ⟨xv5, M9, hc, hF⟩ := ps_b2_some hF
      refine ps_backI (x0 := xv5) (M' := M9) hS (ps_callV C hW pc_9 mf_X10_pull tq_1132 tq_44 tq_1130 ⟨Nat.le_of_ble_eq_true rfl, Nat.le_of_ble_eq_true rfl⟩ rfl rfl (As := [.int (28 : Int32)]) (rest := []) (c_X10_pull hc) hK rfl hl.1 rfl (Nat.le_of_ble_eq_true rfl) dX10_judge_39 ⟨Nat.le_of_ble_eq_true rfl, Nat.le_of_ble_eq_true rfl⟩) (fun H locs hW hS => ?_)
      clear hc
      generalize M9 = M at hW hF
      refine lv_aload_n hx hb dX10_judge_42 rfl (lv_at hl 0 rfl) ?_
      refine pw_gR C hW pc_9 (k := 33) (by decide) rfl tq_951 dX10_judge_43 hF (fun av6 hF => ?_)
      refine lv_iload_n hx hb dX10_judge_46 rfl (lv_at hl 1 rfl) ?_
      refine pw_aI C hW dX10_judge_47 hF (fun xv7 hF => ?_)
      refine lv_icmp_eq (tgt := 53) hx hb dX10_judge_48 (by decide) (fun hv8 => ?_) (fun hv8 => ?_)
      · replace hF := (if_pos hv8).symm.trans hF
        obtain ⟨xv9, exv9, hF⟩ := ps_ve hF
        refine lv_iinc (v := xv9) (lv' := [(1, .int xv9), (0, .ref (B + a0))]) hx hb dX10_judge_53 hl (k := 1) rfl (by rw [exv9]; rfl) (by decide) rfl (fun ls hl => ?_)
        clear exv9
        refine lv_goto (tgt := 19) hx hb dX10_judge_56 (by decide) ?_
        exact hk19 M _ _ _ a0 xv9 hF hW hS (lv_sub hl [1, 0] rfl)
      · replace hF := (if_neg hv8).symm.trans hF
        exact kb_X10_judge_b51 C hF hW hS (lv_sub hl [1] rfl)
theorem kb_X10_judge_l19 (C : ps_C p s m args meth c cX10_judge 2 RX10 ((some .int)) "judge" D Y B) {q : Int32 × ps_M}  : ∀ (n : Nat) (M : ps_M) (H : Heap) (locs : List Loc) (ls : Array Slot) (a0 : Nat) (x1 : Int32), f_X10_judge_l19 n M a0 x1 = some q → ps_W D Y B M H → va_S (fun q => B ≤ q) s.heap H locs → lv_has ls 2 [(0, .ref (B + a0)), (1, .int x1)] → W p l e rm_X10_judge s m args below meth c H locs 0 0 (ps_Qi D Y B below args s 0 0 q) (F0 m 19 ls []) := by
  intro n
  induction n with
  | zero => intro M H locs ls a0 x1 hF; cases hF
  | succ n ih => intro M H locs ls a0 x1 hF hW hS hl; exact kb_X10_judge_w19 C  (f_X10_judge_l19 n) ih hF hW hS hl
set_option maxRecDepth 100000 in
set_option maxHeartbeats 4000000 in
theorem kb_X10_judge (C : ps_C p s m args meth c cX10_judge 2 RX10 ((some .int)) "judge" D Y B) {q : Int32 × ps_M}  {M : ps_M} {a0 : Nat} (hF : f_X10_judge M a0 = some q) (hW : ps_W D Y B M H) (hS : va_S (fun q => B ≤ q) s.heap H locs) (hl : lv_has ls 2 [(0, .ref (B + a0))]) : W p l e rm_X10_judge s m args below meth c H locs 0 0 (ps_Qi D Y B below args s 0 0 q) (F0 m 0 ls []) := by
  have hx := C.1
  have hb := C.2.1
  have hml := C.2.2.1
  have hown := C.2.2.2.1
  have hts := C.2.2.2.2.1
  unfold f_X10_judge at hF
  refine lv_aload_n hx hb dX10_judge_0 rfl (lv_at hl 0 rfl) ?_
  obtain ⟨hK, hF⟩ := ps_ck_some hF
  obtain ⟨xv10, M9, hc, hF⟩ := ps_b2_some hF
  refine ps_backI (x0 := xv10) (M' := M9) hS (ps_callV C hW pc_9 mf_X10_isPair tq_1120 tq_41 tq_1118 ⟨Nat.le_of_ble_eq_true rfl, Nat.le_of_ble_eq_true rfl⟩ rfl rfl (As := []) (rest := []) (c_X10_isPair hc) hK rfl hl.1 rfl (Nat.le_of_ble_eq_true rfl) dX10_judge_1 ⟨Nat.le_of_ble_eq_true rfl, Nat.le_of_ble_eq_true rfl⟩) (fun H locs hW hS => ?_)
  clear hc
  generalize M9 = M at hW hF
  refine lv_if_ne (tgt := 10) hx hb dX10_judge_4 (by decide) (fun hv11 => ?_) (fun hv11 => ?_)
  · replace hF := (if_neg hv11).symm.trans hF
    refine lv_aload_n hx hb dX10_judge_10 rfl (lv_at hl 0 rfl) ?_
    refine lv_iconst (v := 0) hx hb dX10_judge_11 (by decide) ?_
    refine lv_bipush (v := 28) hx hb dX10_judge_12 (by decide) ?_
    obtain ⟨hK, hF⟩ := ps_ck_some hF
    obtain ⟨M9, hc, hF⟩ := ps_b1_some hF
    refine ps_backV (M' := M9) hS (ps_callV C hW pc_9 mf_X10_copy tq_1128 tq_43 tq_1126 ⟨Nat.le_of_ble_eq_true rfl, Nat.le_of_ble_eq_true rfl⟩ rfl rfl (As := [.int (0 : Int32), .int (28 : Int32)]) (rest := []) (c_X10_copy hc) hK rfl hl.1 rfl (Nat.le_of_ble_eq_true rfl) dX10_judge_14 ⟨Nat.le_of_ble_eq_true rfl, Nat.le_of_ble_eq_true rfl⟩) (fun H locs hW hS => ?_)
    clear hc
    generalize M9 = M at hW hF
    refine lv_iconst (v := 0) hx hb dX10_judge_17 (by decide) ?_
    refine lv_istore_n (lv' := [(1, .int (0 : Int32)), (0, .ref (B + a0))]) hx hb dX10_judge_18 rfl hl (by decide) rfl (fun ls hl => ?_)
    exact kb_X10_judge_l19 C ps_fu M _ _ _ a0 (0 : Int32) hF hW hS (lv_sub hl [1, 0] rfl)
  · replace hF := (if_pos hv11).symm.trans hF
    refine lv_ldc (v := -1000000003) hx hb hown (hts _ tq_1112) dX10_judge_7 ?_
    exact pw_iret C hW hS dX10_judge_9 hF
theorem mf_X10_judge : ps_mf yX10_judge cX10_judge 2 ((some .int)) 0 := ⟨tq_1300, tq_71, by decide +kernel, by decide +kernel, by decide +kernel⟩
theorem c_X10_judge {l : Launch} {D : va_G} {Y : ps_A} {B : Nat} {M : ps_M} {a0 : Nat} {r : Int32} {M' : ps_M} (hF : f_X10_judge M a0 = some (r, M')) : Met l yX10_judge (Cond.code yX10_judge cX10_judge 2 ((some .int)) :: tb_G) rm_X10_judge (ps_PB D Y B M [.ref (B + a0)]) (va_Qi (fun x (_ : Unit) => x = r) (fun _ t => ps_St D Y B M' t) (fun q => B ≤ q)) 0 0 (fun q => B ≤ q) :=
  pm_of (by decide +kernel) (Nat.le_of_ble_eq_true rfl) (fun p e s m args below meth c C hW hS ls hl => kb_X10_judge C hF hW hS hl)

abbrev rm_X10_tear : Room := { frames := 0, cells := 0, slots := 0, locals := 0 }
def f_X10_tear (M : ps_M) (a0 : Nat) : Option (Int32 × ps_M) := ps_gI M a0 9 32 (fun xv1 => ps_gI M a0 9 34 (fun xv2 => ps_v ((xv1 + xv2)) (fun xv3 => ps_pI M a0 9 32 (0 : Int32) (fun M => ps_pI M a0 9 34 (0 : Int32) (fun M => some (xv3, M))))))
set_option maxRecDepth 100000 in
set_option maxHeartbeats 4000000 in
theorem kb_X10_tear (C : ps_C p s m args meth c cX10_tear 2 RX10 ((some .int)) "tear" D Y B) {q : Int32 × ps_M}  {M : ps_M} {a0 : Nat} (hF : f_X10_tear M a0 = some q) (hW : ps_W D Y B M H) (hS : va_S (fun q => B ≤ q) s.heap H locs) (hl : lv_has ls 2 [(0, .ref (B + a0))]) : W p l e rm_X10_tear s m args below meth c H locs 0 0 (ps_Qi D Y B below args s 0 0 q) (F0 m 0 ls []) := by
  have hx := C.1
  have hb := C.2.1
  have hml := C.2.2.1
  have hown := C.2.2.2.1
  have hts := C.2.2.2.2.1
  unfold f_X10_tear at hF
  refine lv_aload_n hx hb dX10_tear_0 rfl (lv_at hl 0 rfl) ?_
  refine pw_gI C hW pc_9 (k := 32) (by decide) rfl tq_950 dX10_tear_1 hF (fun xv1 hF => ?_)
  refine lv_aload_n hx hb dX10_tear_4 rfl (lv_at hl 0 rfl) ?_
  refine pw_gI C hW pc_9 (k := 34) (by decide) rfl tq_952 dX10_tear_5 hF (fun xv2 hF => ?_)
  refine lv_iadd hx hb dX10_tear_8 ?_
  refine pw_v hF (fun xv3 hF => ?_)
  refine lv_istore_n (lv' := [(1, .int xv3), (0, .ref (B + a0))]) hx hb dX10_tear_9 rfl hl (by decide) rfl (fun ls hl => ?_)
  refine lv_aload_n hx hb dX10_tear_10 rfl (lv_at hl 1 rfl) ?_
  refine lv_iconst (v := 0) hx hb dX10_tear_11 (by decide) ?_
  refine pw_pI C hW hS pc_9 (k := 32) (by decide) rfl rfl tq_950 rfl dX10_tear_12 hF (fun M H locs hW hS hF => ?_)
  refine lv_aload_n hx hb dX10_tear_15 rfl (lv_at hl 1 rfl) ?_
  refine lv_iconst (v := 0) hx hb dX10_tear_16 (by decide) ?_
  refine pw_pI C hW hS pc_9 (k := 34) (by decide) rfl rfl tq_952 rfl dX10_tear_17 hF (fun M H locs hW hS hF => ?_)
  refine lv_iload_n hx hb dX10_tear_20 rfl (lv_at hl 0 rfl) ?_
  exact pw_iret C hW hS dX10_tear_21 hF
theorem mf_X10_tear : ps_mf yX10_tear cX10_tear 2 ((some .int)) 0 := ⟨tq_1304, tq_71, by decide +kernel, by decide +kernel, by decide +kernel⟩
theorem c_X10_tear {l : Launch} {D : va_G} {Y : ps_A} {B : Nat} {M : ps_M} {a0 : Nat} {r : Int32} {M' : ps_M} (hF : f_X10_tear M a0 = some (r, M')) : Met l yX10_tear (Cond.code yX10_tear cX10_tear 2 ((some .int)) :: tb_G) rm_X10_tear (ps_PB D Y B M [.ref (B + a0)]) (va_Qi (fun x (_ : Unit) => x = r) (fun _ t => ps_St D Y B M' t) (fun q => B ≤ q)) 0 0 (fun q => B ≤ q) :=
  pm_of (by decide +kernel) (Nat.le_of_ble_eq_true rfl) (fun p e s m args below meth c C hW hS ls hl => kb_X10_tear C hF hW hS hl)

abbrev rm_X10_seed : Room := { frames := 0, cells := 0, slots := 0, locals := 0 }
def f_X10_seed (M : ps_M) (a0 : Nat) (x1 : Int32) : Option (Int32 × ps_M) := if 0 ≤ x1 then (ps_gR M a0 9 0 (fun av2 => ps_aI M av2 (25 : Int32) (fun xv3 => ps_gR M a0 9 0 (fun av4 => ps_xI M av4 (25 : Int32) x1 (fun M => some (xv3, M)))))) else (some ((-1000000002 : Int32), M))
set_option maxRecDepth 100000 in
set_option maxHeartbeats 4000000 in
theorem kb_X10_seed (C : ps_C p s m args meth c cX10_seed 3 RX10 ((some .int)) "seed" D Y B) {q : Int32 × ps_M}  {M : ps_M} {a0 : Nat} {x1 : Int32} (hF : f_X10_seed M a0 x1 = some q) (hW : ps_W D Y B M H) (hS : va_S (fun q => B ≤ q) s.heap H locs) (hl : lv_has ls 3 [(0, .ref (B + a0)), (1, .int x1)]) : W p l e rm_X10_seed s m args below meth c H locs 0 0 (ps_Qi D Y B below args s 0 0 q) (F0 m 0 ls []) := by
  have hx := C.1
  have hb := C.2.1
  have hml := C.2.2.1
  have hown := C.2.2.2.1
  have hts := C.2.2.2.2.1
  unfold f_X10_seed at hF
  refine lv_iload_n hx hb dX10_seed_0 rfl (lv_at hl 1 rfl) ?_
  refine lv_if_ge (tgt := 7) hx hb dX10_seed_1 (by decide) (fun hv1 => ?_) (fun hv1 => ?_)
  · replace hF := (if_pos hv1).symm.trans hF
    refine lv_aload_n hx hb dX10_seed_7 rfl (lv_at hl 0 rfl) ?_
    refine pw_gR C hW pc_9 (k := 0) (by decide) rfl tq_918 dX10_seed_8 hF (fun av2 hF => ?_)
    refine lv_bipush (v := 25) hx hb dX10_seed_11 (by decide) ?_
    refine pw_aI C hW dX10_seed_13 hF (fun xv3 hF => ?_)
    refine lv_istore_n (lv' := [(2, .int xv3), (0, .ref (B + a0)), (1, .int x1)]) hx hb dX10_seed_14 rfl hl (by decide) rfl (fun ls hl => ?_)
    refine lv_aload_n hx hb dX10_seed_15 rfl (lv_at hl 1 rfl) ?_
    refine pw_gR C hW pc_9 (k := 0) (by decide) rfl tq_918 dX10_seed_16 hF (fun av4 hF => ?_)
    refine lv_bipush (v := 25) hx hb dX10_seed_19 (by decide) ?_
    refine lv_iload_n hx hb dX10_seed_21 rfl (lv_at hl 2 rfl) ?_
    refine pw_xI C hW hS dX10_seed_22 hF (fun M H locs hW hS hF => ?_)
    refine lv_iload_n hx hb dX10_seed_23 rfl (lv_at hl 0 rfl) ?_
    exact pw_iret C hW hS dX10_seed_24 hF
  · replace hF := (if_neg hv1).symm.trans hF
    refine lv_ldc (v := -1000000002) hx hb hown (hts _ tq_1033) dX10_seed_4 ?_
    exact pw_iret C hW hS dX10_seed_6 hF
theorem mf_X10_seed : ps_mf yX10_seed cX10_seed 3 ((some .int)) 1 := ⟨tq_1308, tq_71, by decide +kernel, by decide +kernel, by decide +kernel⟩
theorem c_X10_seed {l : Launch} {D : va_G} {Y : ps_A} {B : Nat} {M : ps_M} {a0 : Nat} {x1 : Int32} {r : Int32} {M' : ps_M} (hF : f_X10_seed M a0 x1 = some (r, M')) : Met l yX10_seed (Cond.code yX10_seed cX10_seed 3 ((some .int)) :: tb_G) rm_X10_seed (ps_PB D Y B M [.ref (B + a0), .int x1]) (va_Qi (fun x (_ : Unit) => x = r) (fun _ t => ps_St D Y B M' t) (fun q => B ≤ q)) 0 0 (fun q => B ≤ q) :=
  pm_of (by decide +kernel) (Nat.le_of_ble_eq_true rfl) (fun p e s m args below meth c C hW hS ls hl => kb_X10_seed C hF hW hS hl)

abbrev rm_X10_keep : Room := { frames := 1, cells := 0, slots := 0, locals := 25 }
def f_X10_keep (M : ps_M) (a0 : Nat) (x1 : Int32) : Option (Int32 × ps_M) := ps_b2 (f_X10_in M (x1.toInt64) (0 : Int64) (1 : Int64)) (fun xv1 M => if xv1 = 0 then (some ((-1000000001 : Int32), M)) else (ps_ck M a0 9 (ps_b1 (f_X10_copy M a0 (0 : Int32) ((56 : Int32) + ((28 : Int32) * x1))) (fun M => ps_gR M a0 9 1 (fun av3 => ps_xZ M av3 x1 (1 : Int32) (fun M => ps_pI M a0 9 26 (0 : Int32) (fun M => some ((1 : Int32), M))))))))
set_option maxRecDepth 100000 in
set_option maxHeartbeats 4000000 in
theorem kb_X10_keep (C : ps_C p s m args meth c cX10_keep 2 RX10 ((some .int)) "keep" D Y B) {q : Int32 × ps_M}  {M : ps_M} {a0 : Nat} {x1 : Int32} (hF : f_X10_keep M a0 x1 = some q) (hW : ps_W D Y B M H) (hS : va_S (fun q => B ≤ q) s.heap H locs) (hl : lv_has ls 2 [(0, .ref (B + a0)), (1, .int x1)]) : W p l e rm_X10_keep s m args below meth c H locs 0 0 (ps_Qi D Y B below args s 0 0 q) (F0 m 0 ls []) := by
  have hx := C.1
  have hb := C.2.1
  have hml := C.2.2.1
  have hown := C.2.2.2.1
  have hts := C.2.2.2.2.1
  unfold f_X10_keep at hF
  refine lv_iload_n hx hb dX10_keep_0 rfl (lv_at hl 1 rfl) ?_
  refine lv_i2l hx hb dX10_keep_1 rfl ?_
  refine lv_lconst (v := 0) hx hb dX10_keep_2 (by decide) ?_
  refine lv_lconst (v := 1) hx hb dX10_keep_3 (by decide) ?_
  obtain ⟨xv1, M9, hc, hF⟩ := ps_b2_some hF
  refine ps_backI (x0 := xv1) (M' := M9) hS (ps_callS C hW mf_X10_in tq_1031 tq_1030 ⟨Nat.le_of_ble_eq_true rfl, Nat.le_of_ble_eq_true rfl⟩ rfl rfl (As := [.long (x1.toInt64), .long (0 : Int64), .long (1 : Int64)]) (rest := []) (c_X10_in hc) rfl hl.1 rfl (Nat.le_of_ble_eq_true rfl) dX10_keep_4 ⟨Nat.le_of_ble_eq_true rfl, Nat.le_of_ble_eq_true rfl⟩) (fun H locs hW hS => ?_)
  clear hc
  generalize M9 = M at hW hF
  refine lv_if_ne (tgt := 13) hx hb dX10_keep_7 (by decide) (fun hv2 => ?_) (fun hv2 => ?_)
  · replace hF := (if_neg hv2).symm.trans hF
    refine lv_aload_n hx hb dX10_keep_13 rfl (lv_at hl 0 rfl) ?_
    refine lv_iconst (v := 0) hx hb dX10_keep_14 (by decide) ?_
    refine lv_bipush (v := 56) hx hb dX10_keep_15 (by decide) ?_
    refine lv_bipush (v := 28) hx hb dX10_keep_17 (by decide) ?_
    refine lv_iload_n hx hb dX10_keep_19 rfl (lv_at hl 1 rfl) ?_
    refine lv_imul hx hb dX10_keep_20 ?_
    refine lv_iadd hx hb dX10_keep_21 ?_
    obtain ⟨hK, hF⟩ := ps_ck_some hF
    obtain ⟨M9, hc, hF⟩ := ps_b1_some hF
    refine ps_backV (M' := M9) hS (ps_callV C hW pc_9 mf_X10_copy tq_1128 tq_43 tq_1126 ⟨Nat.le_of_ble_eq_true rfl, Nat.le_of_ble_eq_true rfl⟩ rfl rfl (As := [.int (0 : Int32), .int ((56 : Int32) + ((28 : Int32) * x1))]) (rest := []) (c_X10_copy hc) hK rfl hl.1 rfl (Nat.le_of_ble_eq_true rfl) dX10_keep_22 ⟨Nat.le_of_ble_eq_true rfl, Nat.le_of_ble_eq_true rfl⟩) (fun H locs hW hS => ?_)
    clear hc
    generalize M9 = M at hW hF
    refine lv_aload_n hx hb dX10_keep_25 rfl (lv_at hl 0 rfl) ?_
    refine pw_gR C hW pc_9 (k := 1) (by decide) rfl tq_919 dX10_keep_26 hF (fun av3 hF => ?_)
    refine lv_iload_n hx hb dX10_keep_29 rfl (lv_at hl 1 rfl) ?_
    refine lv_iconst (v := 1) hx hb dX10_keep_30 (by decide) ?_
    refine pw_xZ C hW hS dX10_keep_31 hF (fun M H locs hW hS hF => ?_)
    refine lv_aload_n hx hb dX10_keep_32 rfl (lv_at hl 0 rfl) ?_
    refine lv_iconst (v := 0) hx hb dX10_keep_33 (by decide) ?_
    refine pw_pI C hW hS pc_9 (k := 26) (by decide) rfl rfl tq_944 rfl dX10_keep_34 hF (fun M H locs hW hS hF => ?_)
    refine lv_iconst (v := 1) hx hb dX10_keep_37 (by decide) ?_
    exact pw_iret C hW hS dX10_keep_38 hF
  · replace hF := (if_pos hv2).symm.trans hF
    refine lv_ldc (v := -1000000001) hx hb hown (hts _ tq_1099) dX10_keep_10 ?_
    exact pw_iret C hW hS dX10_keep_12 hF
theorem mf_X10_keep : ps_mf yX10_keep cX10_keep 2 ((some .int)) 1 := ⟨tq_1312, tq_71, by decide +kernel, by decide +kernel, by decide +kernel⟩
theorem c_X10_keep {l : Launch} {D : va_G} {Y : ps_A} {B : Nat} {M : ps_M} {a0 : Nat} {x1 : Int32} {r : Int32} {M' : ps_M} (hF : f_X10_keep M a0 x1 = some (r, M')) : Met l yX10_keep (Cond.code yX10_keep cX10_keep 2 ((some .int)) :: tb_G) rm_X10_keep (ps_PB D Y B M [.ref (B + a0), .int x1]) (va_Qi (fun x (_ : Unit) => x = r) (fun _ t => ps_St D Y B M' t) (fun q => B ≤ q)) 0 0 (fun q => B ≤ q) :=
  pm_of (by decide +kernel) (Nat.le_of_ble_eq_true rfl) (fun p e s m args below meth c C hW hS ls hl => kb_X10_keep C hF hW hS hl)

abbrev rm_X10_goBack : Room := { frames := 1, cells := 0, slots := 0, locals := 25 }
def f_X10_goBack (M : ps_M) (a0 : Nat) (x1 : Int32) : Option (Int32 × ps_M) := ps_b2 (f_X10_in M (x1.toInt64) (0 : Int64) (1 : Int64)) (fun xv1 M => if xv1 = 0 then (some ((-1000000001 : Int32), M)) else (ps_gR M a0 9 1 (fun av3 => ps_aZ M av3 x1 (fun xv4 => if xv4 = 0 then (some ((-1000000003 : Int32), M)) else (ps_ck M a0 9 (ps_b1 (f_X10_copy M a0 ((56 : Int32) + ((28 : Int32) * x1)) (0 : Int32)) (fun M => ps_pI M a0 9 26 (0 : Int32) (fun M => some ((1 : Int32), M)))))))))
set_option maxRecDepth 100000 in
set_option maxHeartbeats 4000000 in
theorem kb_X10_goBack (C : ps_C p s m args meth c cX10_goBack 2 RX10 ((some .int)) "goBack" D Y B) {q : Int32 × ps_M}  {M : ps_M} {a0 : Nat} {x1 : Int32} (hF : f_X10_goBack M a0 x1 = some q) (hW : ps_W D Y B M H) (hS : va_S (fun q => B ≤ q) s.heap H locs) (hl : lv_has ls 2 [(0, .ref (B + a0)), (1, .int x1)]) : W p l e rm_X10_goBack s m args below meth c H locs 0 0 (ps_Qi D Y B below args s 0 0 q) (F0 m 0 ls []) := by
  have hx := C.1
  have hb := C.2.1
  have hml := C.2.2.1
  have hown := C.2.2.2.1
  have hts := C.2.2.2.2.1
  unfold f_X10_goBack at hF
  refine lv_iload_n hx hb dX10_goBack_0 rfl (lv_at hl 1 rfl) ?_
  refine lv_i2l hx hb dX10_goBack_1 rfl ?_
  refine lv_lconst (v := 0) hx hb dX10_goBack_2 (by decide) ?_
  refine lv_lconst (v := 1) hx hb dX10_goBack_3 (by decide) ?_
  obtain ⟨xv1, M9, hc, hF⟩ := ps_b2_some hF
  refine ps_backI (x0 := xv1) (M' := M9) hS (ps_callS C hW mf_X10_in tq_1031 tq_1030 ⟨Nat.le_of_ble_eq_true rfl, Nat.le_of_ble_eq_true rfl⟩ rfl rfl (As := [.long (x1.toInt64), .long (0 : Int64), .long (1 : Int64)]) (rest := []) (c_X10_in hc) rfl hl.1 rfl (Nat.le_of_ble_eq_true rfl) dX10_goBack_4 ⟨Nat.le_of_ble_eq_true rfl, Nat.le_of_ble_eq_true rfl⟩) (fun H locs hW hS => ?_)
  clear hc
  generalize M9 = M at hW hF
  refine lv_if_ne (tgt := 13) hx hb dX10_goBack_7 (by decide) (fun hv2 => ?_) (fun hv2 => ?_)
  · replace hF := (if_neg hv2).symm.trans hF
    refine lv_aload_n hx hb dX10_goBack_13 rfl (lv_at hl 0 rfl) ?_
    refine pw_gR C hW pc_9 (k := 1) (by decide) rfl tq_919 dX10_goBack_14 hF (fun av3 hF => ?_)
    refine lv_iload_n hx hb dX10_goBack_17 rfl (lv_at hl 1 rfl) ?_
    refine pw_aZ C hW dX10_goBack_18 hF (fun xv4 hF => ?_)
    refine lv_if_ne (tgt := 25) hx hb dX10_goBack_19 (by decide) (fun hv5 => ?_) (fun hv5 => ?_)
    · replace hF := (if_neg hv5).symm.trans hF
      refine lv_aload_n hx hb dX10_goBack_25 rfl (lv_at hl 0 rfl) ?_
      refine lv_bipush (v := 56) hx hb dX10_goBack_26 (by decide) ?_
      refine lv_bipush (v := 28) hx hb dX10_goBack_28 (by decide) ?_
      refine lv_iload_n hx hb dX10_goBack_30 rfl (lv_at hl 1 rfl) ?_
      refine lv_imul hx hb dX10_goBack_31 ?_
      refine lv_iadd hx hb dX10_goBack_32 ?_
      refine lv_iconst (v := 0) hx hb dX10_goBack_33 (by decide) ?_
      obtain ⟨hK, hF⟩ := ps_ck_some hF
      obtain ⟨M9, hc, hF⟩ := ps_b1_some hF
      refine ps_backV (M' := M9) hS (ps_callV C hW pc_9 mf_X10_copy tq_1128 tq_43 tq_1126 ⟨Nat.le_of_ble_eq_true rfl, Nat.le_of_ble_eq_true rfl⟩ rfl rfl (As := [.int ((56 : Int32) + ((28 : Int32) * x1)), .int (0 : Int32)]) (rest := []) (c_X10_copy hc) hK rfl hl.1 rfl (Nat.le_of_ble_eq_true rfl) dX10_goBack_34 ⟨Nat.le_of_ble_eq_true rfl, Nat.le_of_ble_eq_true rfl⟩) (fun H locs hW hS => ?_)
      clear hc
      generalize M9 = M at hW hF
      refine lv_aload_n hx hb dX10_goBack_37 rfl (lv_at hl 0 rfl) ?_
      refine lv_iconst (v := 0) hx hb dX10_goBack_38 (by decide) ?_
      refine pw_pI C hW hS pc_9 (k := 26) (by decide) rfl rfl tq_944 rfl dX10_goBack_39 hF (fun M H locs hW hS hF => ?_)
      refine lv_iconst (v := 1) hx hb dX10_goBack_42 (by decide) ?_
      exact pw_iret C hW hS dX10_goBack_43 hF
    · replace hF := (if_pos hv5).symm.trans hF
      refine lv_ldc (v := -1000000003) hx hb hown (hts _ tq_1112) dX10_goBack_22 ?_
      exact pw_iret C hW hS dX10_goBack_24 hF
  · replace hF := (if_pos hv2).symm.trans hF
    refine lv_ldc (v := -1000000001) hx hb hown (hts _ tq_1099) dX10_goBack_10 ?_
    exact pw_iret C hW hS dX10_goBack_12 hF
theorem mf_X10_goBack : ps_mf yX10_goBack cX10_goBack 2 ((some .int)) 1 := ⟨tq_1316, tq_71, by decide +kernel, by decide +kernel, by decide +kernel⟩
theorem c_X10_goBack {l : Launch} {D : va_G} {Y : ps_A} {B : Nat} {M : ps_M} {a0 : Nat} {x1 : Int32} {r : Int32} {M' : ps_M} (hF : f_X10_goBack M a0 x1 = some (r, M')) : Met l yX10_goBack (Cond.code yX10_goBack cX10_goBack 2 ((some .int)) :: tb_G) rm_X10_goBack (ps_PB D Y B M [.ref (B + a0), .int x1]) (va_Qi (fun x (_ : Unit) => x = r) (fun _ t => ps_St D Y B M' t) (fun q => B ≤ q)) 0 0 (fun q => B ≤ q) :=
  pm_of (by decide +kernel) (Nat.le_of_ble_eq_true rfl) (fun p e s m args below meth c C hW hS ls hl => kb_X10_goBack C hF hW hS hl)

end
