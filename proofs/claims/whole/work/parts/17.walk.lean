section
variable {p : Program} {l : Launch} {e : Env} {s : State} {m : MethodId} {args : Array Value} {below : List Frame} {meth : Method} {c : Code} {H : Heap} {locs : List Loc} {ls : Array Slot} {D : va_G} {Y : ps_A} {B : Nat}
abbrev rm_X10_quarrels : Room := { frames := 0, cells := 0, slots := 0, locals := 0 }
def f_X10_quarrels_b33 (M : ps_M) (t0 : Int32) : Option (Int32 × ps_M) := ps_z t0 M
def f_X10_quarrels_b28 (M : ps_M)  : Option (Int32 × ps_M) := f_X10_quarrels_b33 M (1 : Int32)
def f_X10_quarrels (M : ps_M) (a0 : Nat) (x1 : Int32) : Option (Int32 × ps_M) := ps_gR M a0 9 0 (fun av1 => ps_aI M av1 ((36 : Int32) + x1) (fun xv2 => if xv2 = (9 : Int32) then (f_X10_quarrels_b28 M ) else (ps_gR M a0 9 0 (fun av4 => ps_aI M av4 ((36 : Int32) + x1) (fun xv5 => if xv5 = (-9 : Int32) then (f_X10_quarrels_b28 M ) else (f_X10_quarrels_b33 M (0 : Int32)))))))
set_option maxRecDepth 100000 in
set_option maxHeartbeats 4000000 in
theorem kb_X10_quarrels_b33 (C : ps_C p s m args meth c cX10_quarrels 2 RX10 ((some .boolean)) "quarrels" D Y B) {q : Int32 × ps_M}  {M : ps_M} {t0 : Int32} (hF : f_X10_quarrels_b33 M t0 = some q) (hW : ps_W D Y B M H) (hS : va_S (fun q => B ≤ q) s.heap H locs) (hl : lv_has ls 2 []) : W p l e rm_X10_quarrels s m args below meth c H locs 0 0 (ps_Qi D Y B below args s 0 0 q) (F0 m 33 ls [.int t0]) := by
  have hx := C.1
  have hb := C.2.1
  have hml := C.2.2.1
  have hown := C.2.2.2.1
  have hts := C.2.2.2.2.1
  unfold f_X10_quarrels_b33 at hF
  exact pw_zret C hW hS dX10_quarrels_33 hF
set_option maxRecDepth 100000 in
set_option maxHeartbeats 4000000 in
theorem kb_X10_quarrels_b28 (C : ps_C p s m args meth c cX10_quarrels 2 RX10 ((some .boolean)) "quarrels" D Y B) {q : Int32 × ps_M}  {M : ps_M}  (hF : f_X10_quarrels_b28 M  = some q) (hW : ps_W D Y B M H) (hS : va_S (fun q => B ≤ q) s.heap H locs) (hl : lv_has ls 2 []) : W p l e rm_X10_quarrels s m args below meth c H locs 0 0 (ps_Qi D Y B below args s 0 0 q) (F0 m 28 ls []) := by
  have hx := C.1
  have hb := C.2.1
  have hml := C.2.2.1
  have hown := C.2.2.2.1
  have hts := C.2.2.2.2.1
  unfold f_X10_quarrels_b28 at hF
  refine lv_iconst (v := 1) hx hb dX10_quarrels_28 (by decide) ?_
  refine lv_goto (tgt := 33) hx hb dX10_quarrels_29 (by decide) ?_
  exact kb_X10_quarrels_b33 C hF hW hS (lv_sub hl [] rfl)
set_option maxRecDepth 100000 in
set_option maxHeartbeats 4000000 in
theorem kb_X10_quarrels (C : ps_C p s m args meth c cX10_quarrels 2 RX10 ((some .boolean)) "quarrels" D Y B) {q : Int32 × ps_M}  {M : ps_M} {a0 : Nat} {x1 : Int32} (hF : f_X10_quarrels M a0 x1 = some q) (hW : ps_W D Y B M H) (hS : va_S (fun q => B ≤ q) s.heap H locs) (hl : lv_has ls 2 [(0, .ref (B + a0)), (1, .int x1)]) : W p l e rm_X10_quarrels s m args below meth c H locs 0 0 (ps_Qi D Y B below args s 0 0 q) (F0 m 0 ls []) := by
  have hx := C.1
  have hb := C.2.1
  have hml := C.2.2.1
  have hown := C.2.2.2.1
  have hts := C.2.2.2.2.1
  unfold f_X10_quarrels at hF
  refine lv_aload_n hx hb dX10_quarrels_0 rfl (lv_at hl 0 rfl) ?_
  refine pw_gR C hW pc_9 (k := 0) (by decide) rfl tq_918 dX10_quarrels_1 hF (fun av1 hF => ?_)
  refine lv_bipush (v := 36) hx hb dX10_quarrels_4 (by decide) ?_
  refine lv_iload_n hx hb dX10_quarrels_6 rfl (lv_at hl 1 rfl) ?_
  refine lv_iadd hx hb dX10_quarrels_7 ?_
  refine pw_aI C hW dX10_quarrels_8 hF (fun xv2 hF => ?_)
  refine lv_bipush (v := 9) hx hb dX10_quarrels_9 (by decide) ?_
  refine lv_icmp_eq (tgt := 28) hx hb dX10_quarrels_11 (by decide) (fun hv3 => ?_) (fun hv3 => ?_)
  · replace hF := (if_pos hv3).symm.trans hF
    exact kb_X10_quarrels_b28 C hF hW hS (lv_sub hl [] rfl)
  · replace hF := (if_neg hv3).symm.trans hF
    refine lv_aload_n hx hb dX10_quarrels_14 rfl (lv_at hl 0 rfl) ?_
    refine pw_gR C hW pc_9 (k := 0) (by decide) rfl tq_918 dX10_quarrels_15 hF (fun av4 hF => ?_)
    refine lv_bipush (v := 36) hx hb dX10_quarrels_18 (by decide) ?_
    refine lv_iload_n hx hb dX10_quarrels_20 rfl (lv_at hl 1 rfl) ?_
    refine lv_iadd hx hb dX10_quarrels_21 ?_
    refine pw_aI C hW dX10_quarrels_22 hF (fun xv5 hF => ?_)
    refine lv_bipush (v := -9) hx hb dX10_quarrels_23 (by decide) ?_
    refine lv_icmp_ne (tgt := 32) hx hb dX10_quarrels_25 (by decide) (fun hv6 => ?_) (fun hv6 => ?_)
    · replace hF := (if_neg hv6).symm.trans hF
      refine lv_iconst (v := 0) hx hb dX10_quarrels_32 (by decide) ?_
      exact kb_X10_quarrels_b33 C hF hW hS (lv_sub hl [] rfl)
    · replace hF := (if_pos hv6).symm.trans hF
      exact kb_X10_quarrels_b28 C hF hW hS (lv_sub hl [] rfl)
theorem mf_X10_quarrels : ps_mf yX10_quarrels cX10_quarrels 2 ((some .boolean)) 1 := ⟨tq_1243, tq_71, by decide +kernel, by decide +kernel, by decide +kernel⟩
theorem c_X10_quarrels {l : Launch} {D : va_G} {Y : ps_A} {B : Nat} {M : ps_M} {a0 : Nat} {x1 : Int32} {r : Int32} {M' : ps_M} (hF : f_X10_quarrels M a0 x1 = some (r, M')) : Met l yX10_quarrels (Cond.code yX10_quarrels cX10_quarrels 2 ((some .boolean)) :: tb_G) rm_X10_quarrels (ps_PB D Y B M [.ref (B + a0), .int x1]) (va_Qi (fun x (_ : Unit) => x = r) (fun _ t => ps_St D Y B M' t) (fun q => B ≤ q)) 0 0 (fun q => B ≤ q) :=
  pm_of (by decide +kernel) (Nat.le_of_ble_eq_true rfl) (fun p e s m args below meth c C hW hS ls hl => kb_X10_quarrels C hF hW hS hl)

abbrev rm_X10_quarrel : Room := { frames := 3, cells := 0, slots := 0, locals := 75 }
def f_X10_quarrel_b63 (M : ps_M) (x3 : Int32) : Option (Int32 × ps_M) := some (x3, M)
def f_X10_quarrel_b71 (M : ps_M)  : Option (Int32 × ps_M) := some ((-1 : Int32), M)
def f_X10_quarrel_w24 (k24 : ps_M → Nat → Int32 → Int32 → Int32 → Option (Int32 × ps_M)) (M : ps_M) (a0 : Nat) (x1 : Int32) (x2 : Int32) (x3 : Int32) : Option (Int32 × ps_M) := if (100 : Int32) ≤ x3 then (f_X10_quarrel_b71 M ) else (ps_ck M a0 9 (ps_b2 (f_X10_isThrough M a0 (28 : Int32)) (fun xv2 M => if xv2 = 0 then (ps_ck M a0 9 (ps_b2 (f_X10_pull M a0 (28 : Int32)) (fun xv4 M => ps_ck M a0 9 (ps_b2 (f_X10_quarrels M a0 x1) (fun xv5 M => if xv5 = 0 then (ps_ck M a0 9 (ps_b2 (f_X10_quarrels M a0 x2) (fun xv7 M => if xv7 = 0 then (ps_v (x3 + 1) (fun xv9 => k24 M a0 x1 x2 xv9)) else (f_X10_quarrel_b63 M x3)))) else (f_X10_quarrel_b63 M x3)))))) else (f_X10_quarrel_b71 M ))))
def f_X10_quarrel_l24 : Nat → ps_M → Nat → Int32 → Int32 → Int32 → Option (Int32 × ps_M)
  | 0, _, _, _, _, _ => none
  | n + 1, M, a0, x1, x2, x3 => f_X10_quarrel_w24 (f_X10_quarrel_l24 n) M a0 x1 x2 x3
def f_X10_quarrel (M : ps_M) (a0 : Nat) (x1 : Int32) (x2 : Int32) : Option (Int32 × ps_M) := ps_ck M a0 9 (ps_b2 (f_X10_refusedTwo M a0 x1 x2) (fun xv10 M => if 0 ≤ xv10 then (ps_ck M a0 9 (ps_b1 (f_X10_beginFresh M a0 x1 x2) (fun M => f_X10_quarrel_l24 ps_fu M a0 x1 x2 (1 : Int32)))) else (ps_ck M a0 9 (ps_b2 (f_X10_refusedTwo M a0 x1 x2) (fun xv12 M => some (xv12, M))))))
set_option maxRecDepth 100000 in
set_option maxHeartbeats 4000000 in
theorem kb_X10_quarrel_b63 (C : ps_C p s m args meth c cX10_quarrel 5 RX10 ((some .int)) "quarrel" D Y B) {q : Int32 × ps_M}  {M : ps_M} {x3 : Int32} (hF : f_X10_quarrel_b63 M x3 = some q) (hW : ps_W D Y B M H) (hS : va_S (fun q => B ≤ q) s.heap H locs) (hl : lv_has ls 5 [(3, .int x3)]) : W p l e rm_X10_quarrel s m args below meth c H locs 0 0 (ps_Qi D Y B below args s 0 0 q) (F0 m 63 ls []) := by
  have hx := C.1
  have hb := C.2.1
  have hml := C.2.2.1
  have hown := C.2.2.2.1
  have hts := C.2.2.2.2.1
  unfold f_X10_quarrel_b63 at hF
  refine lv_iload_n hx hb dX10_quarrel_63 rfl (lv_at hl 0 rfl) ?_
  exact pw_iret C hW hS dX10_quarrel_64 hF
set_option maxRecDepth 100000 in
set_option maxHeartbeats 4000000 in
theorem kb_X10_quarrel_b71 (C : ps_C p s m args meth c cX10_quarrel 5 RX10 ((some .int)) "quarrel" D Y B) {q : Int32 × ps_M}  {M : ps_M}  (hF : f_X10_quarrel_b71 M  = some q) (hW : ps_W D Y B M H) (hS : va_S (fun q => B ≤ q) s.heap H locs) (hl : lv_has ls 5 []) : W p l e rm_X10_quarrel s m args below meth c H locs 0 0 (ps_Qi D Y B below args s 0 0 q) (F0 m 71 ls []) := by
  have hx := C.1
  have hb := C.2.1
  have hml := C.2.2.1
  have hown := C.2.2.2.1
  have hts := C.2.2.2.2.1
  unfold f_X10_quarrel_b71 at hF
  refine lv_iconst (v := -1) hx hb dX10_quarrel_71 (by decide) ?_
  exact pw_iret C hW hS dX10_quarrel_72 hF
set_option maxRecDepth 100000 in
set_option maxHeartbeats 4000000 in
theorem kb_X10_quarrel_w24 (C : ps_C p s m args meth c cX10_quarrel 5 RX10 ((some .int)) "quarrel" D Y B) {q : Int32 × ps_M} (k24 : ps_M → Nat → Int32 → Int32 → Int32 → Option (Int32 × ps_M)) (hk24 : ∀ (M : ps_M) (H : Heap) (locs : List Loc) (ls : Array Slot) (a0 : Nat) (x1 : Int32) (x2 : Int32) (x3 : Int32), k24 M a0 x1 x2 x3 = some q → ps_W D Y B M H → va_S (fun q => B ≤ q) s.heap H locs → lv_has ls 5 [(0, .ref (B + a0)), (1, .int x1), (2, .int x2), (3, .int x3)] → W p l e rm_X10_quarrel s m args below meth c H locs 0 0 (ps_Qi D Y B below args s 0 0 q) (F0 m 24 ls [])) {M : ps_M} {a0 : Nat} {x1 : Int32} {x2 : Int32} {x3 : Int32} (hF : f_X10_quarrel_w24 k24 M a0 x1 x2 x3 = some q) (hW : ps_W D Y B M H) (hS : va_S (fun q => B ≤ q) s.heap H locs) (hl : lv_has ls 5 [(0, .ref (B + a0)), (1, .int x1), (2, .int x2), (3, .int x3)]) : W p l e rm_X10_quarrel s m args below meth c H locs 0 0 (ps_Qi D Y B below args s 0 0 q) (F0 m 24 ls []) := by
  have hx := C.1
  have hb := C.2.1
  have hml := C.2.2.1
  have hown := C.2.2.2.1
  have hts := C.2.2.2.2.1
  unfold f_X10_quarrel_w24 at hF
  refine lv_iload_n hx hb dX10_quarrel_24 rfl (lv_at hl 3 rfl) ?_
  refine lv_bipush (v := 100) hx hb dX10_quarrel_25 (by decide) ?_
  refine lv_icmp_ge (tgt := 71) hx hb dX10_quarrel_27 (by decide) (fun hv1 => ?_) (fun hv1 => ?_)
  · replace hF := (if_pos hv1).symm.trans hF
    exact kb_X10_quarrel_b71 C hF hW hS (lv_sub hl [] rfl)
  · replace hF := (if_neg hv1).symm.trans hF
    refine lv_aload_n hx hb dX10_quarrel_30 rfl (lv_at hl 0 rfl) ?_
    refine lv_bipush (v := 28) hx hb dX10_quarrel_31 (by decide) ?_
    obtain ⟨hK, hF⟩ := ps_ck_some hF
    obtain ⟨xv2, M9, hc, hF⟩ := ps_b2_some hF
    refine ps_backI (x0 := xv2) (M' := M9) hS (ps_callV C hW pc_9 mf_X10_isThrough tq_1090 tq_39 tq_1088 ⟨Nat.le_of_ble_eq_true rfl, Nat.le_of_ble_eq_true rfl⟩ rfl rfl (As := [.int (28 : Int32)]) (rest := []) (c_X10_isThrough hc) hK rfl hl.1 rfl (Nat.le_of_ble_eq_true rfl) dX10_quarrel_33 ⟨Nat.le_of_ble_eq_true rfl, Nat.le_of_ble_eq_true rfl⟩) (fun H locs hW hS => ?_)
    clear hc
    generalize M9 = M at hW hF
    refine lv_if_ne (tgt := 71) hx hb dX10_quarrel_36 (by decide) (fun hv3 => ?_) (fun hv3 => ?_)
    · replace hF := (if_neg hv3).symm.trans hF
      exact kb_X10_quarrel_b71 C hF hW hS (lv_sub hl [] rfl)
    · replace hF := (if_pos hv3).symm.trans hF
      refine lv_aload_n hx hb dX10_quarrel_39 rfl (lv_at hl 0 rfl) ?_
      refine lv_bipush (v := 28) hx hb dX10_quarrel_40 (by decide) ?_
      obtain ⟨hK, hF⟩ := ps_ck_some hF
      obtain ⟨xv4, M9, hc, hF⟩ := ps_b2_some hF
      refine ps_backI (x0 := xv4) (M' := M9) hS (ps_callV C hW pc_9 mf_X10_pull tq_1132 tq_44 tq_1130 ⟨Nat.le_of_ble_eq_true rfl, Nat.le_of_ble_eq_true rfl⟩ rfl rfl (As := [.int (28 : Int32)]) (rest := []) (c_X10_pull hc) hK rfl hl.1 rfl (Nat.le_of_ble_eq_true rfl) dX10_quarrel_42 ⟨Nat.le_of_ble_eq_true rfl, Nat.le_of_ble_eq_true rfl⟩) (fun H locs hW hS => ?_)
      clear hc
      generalize M9 = M at hW hF
      refine lv_istore (lv' := [(4, .int xv4), (0, .ref (B + a0)), (1, .int x1), (2, .int x2), (3, .int x3)]) hx hb dX10_quarrel_45 hl (by decide) rfl (fun ls hl => ?_)
      refine lv_aload_n hx hb dX10_quarrel_47 rfl (lv_at hl 1 rfl) ?_
      refine lv_iload_n hx hb dX10_quarrel_48 rfl (lv_at hl 2 rfl) ?_
      obtain ⟨hK, hF⟩ := ps_ck_some hF
      obtain ⟨xv5, M9, hc, hF⟩ := ps_b2_some hF
      refine ps_backI (x0 := xv5) (M' := M9) hS (ps_callV C hW pc_9 mf_X10_quarrels tq_1242 tq_56 tq_1240 ⟨Nat.le_of_ble_eq_true rfl, Nat.le_of_ble_eq_true rfl⟩ rfl rfl (As := [.int x1]) (rest := []) (c_X10_quarrels hc) hK rfl hl.1 rfl (Nat.le_of_ble_eq_true rfl) dX10_quarrel_49 ⟨Nat.le_of_ble_eq_true rfl, Nat.le_of_ble_eq_true rfl⟩) (fun H locs hW hS => ?_)
      clear hc
      generalize M9 = M at hW hF
      refine lv_if_ne (tgt := 63) hx hb dX10_quarrel_52 (by decide) (fun hv6 => ?_) (fun hv6 => ?_)
      · replace hF := (if_neg hv6).symm.trans hF
        exact kb_X10_quarrel_b63 C hF hW hS (lv_sub hl [4] rfl)
      · replace hF := (if_pos hv6).symm.trans hF
        refine lv_aload_n hx hb dX10_quarrel_55 rfl (lv_at hl 1 rfl) ?_
        refine lv_iload_n hx hb dX10_quarrel_56 rfl (lv_at hl 3 rfl) ?_
        obtain ⟨hK, hF⟩ := ps_ck_some hF
        obtain ⟨xv7, M9, hc, hF⟩ := ps_b2_some hF
        refine ps_backI (x0 := xv7) (M' := M9) hS (ps_callV C hW pc_9 mf_X10_quarrels tq_1242 tq_56 tq_1240 ⟨Nat.le_of_ble_eq_true rfl, Nat.le_of_ble_eq_true rfl⟩ rfl rfl (As := [.int x2]) (rest := []) (c_X10_quarrels hc) hK rfl hl.1 rfl (Nat.le_of_ble_eq_true rfl) dX10_quarrel_57 ⟨Nat.le_of_ble_eq_true rfl, Nat.le_of_ble_eq_true rfl⟩) (fun H locs hW hS => ?_)
        clear hc
        generalize M9 = M at hW hF
        refine lv_if_eq (tgt := 65) hx hb dX10_quarrel_60 (by decide) (fun hv8 => ?_) (fun hv8 => ?_)
        · replace hF := (if_pos hv8).symm.trans hF
          obtain ⟨xv9, exv9, hF⟩ := ps_ve hF
          refine lv_iinc (v := xv9) (lv' := [(3, .int xv9), (4, .int xv4), (0, .ref (B + a0)), (1, .int x1), (2, .int x2)]) hx hb dX10_quarrel_65 hl (k := 4) rfl (by rw [exv9]; rfl) (by decide) rfl (fun ls hl => ?_)
          clear exv9
          refine lv_goto (tgt := 24) hx hb dX10_quarrel_68 (by decide) ?_
          exact hk24 M _ _ _ a0 x1 x2 xv9 hF hW hS (lv_sub hl [2, 3, 4, 0] rfl)
        · replace hF := (if_neg hv8).symm.trans hF
          exact kb_X10_quarrel_b63 C hF hW hS (lv_sub hl [4] rfl)
theorem kb_X10_quarrel_l24 (C : ps_C p s m args meth c cX10_quarrel 5 RX10 ((some .int)) "quarrel" D Y B) {q : Int32 × ps_M}  : ∀ (n : Nat) (M : ps_M) (H : Heap) (locs : List Loc) (ls : Array Slot) (a0 : Nat) (x1 : Int32) (x2 : Int32) (x3 : Int32), f_X10_quarrel_l24 n M a0 x1 x2 x3 = some q → ps_W D Y B M H → va_S (fun q => B ≤ q) s.heap H locs → lv_has ls 5 [(0, .ref (B + a0)), (1, .int x1), (2, .int x2), (3, .int x3)] → W p l e rm_X10_quarrel s m args below meth c H locs 0 0 (ps_Qi D Y B below args s 0 0 q) (F0 m 24 ls []) := by
  intro n
  induction n with
  | zero => intro M H locs ls a0 x1 x2 x3 hF; cases hF
  | succ n ih => intro M H locs ls a0 x1 x2 x3 hF hW hS hl; exact kb_X10_quarrel_w24 C  (f_X10_quarrel_l24 n) ih hF hW hS hl
set_option maxRecDepth 100000 in
set_option maxHeartbeats 4000000 in
theorem kb_X10_quarrel (C : ps_C p s m args meth c cX10_quarrel 5 RX10 ((some .int)) "quarrel" D Y B) {q : Int32 × ps_M}  {M : ps_M} {a0 : Nat} {x1 : Int32} {x2 : Int32} (hF : f_X10_quarrel M a0 x1 x2 = some q) (hW : ps_W D Y B M H) (hS : va_S (fun q => B ≤ q) s.heap H locs) (hl : lv_has ls 5 [(0, .ref (B + a0)), (1, .int x1), (2, .int x2)]) : W p l e rm_X10_quarrel s m args below meth c H locs 0 0 (ps_Qi D Y B below args s 0 0 q) (F0 m 0 ls []) := by
  have hx := C.1
  have hb := C.2.1
  have hml := C.2.2.1
  have hown := C.2.2.2.1
  have hts := C.2.2.2.2.1
  unfold f_X10_quarrel at hF
  refine lv_aload_n hx hb dX10_quarrel_0 rfl (lv_at hl 0 rfl) ?_
  refine lv_iload_n hx hb dX10_quarrel_1 rfl (lv_at hl 1 rfl) ?_
  refine lv_iload_n hx hb dX10_quarrel_2 rfl (lv_at hl 2 rfl) ?_
  obtain ⟨hK, hF⟩ := ps_ck_some hF
  obtain ⟨xv10, M9, hc, hF⟩ := ps_b2_some hF
  refine ps_backI (x0 := xv10) (M' := M9) hS (ps_callV C hW pc_9 mf_X10_refusedTwo tq_1221 tq_53 tq_1219 ⟨Nat.le_of_ble_eq_true rfl, Nat.le_of_ble_eq_true rfl⟩ rfl rfl (As := [.int x1, .int x2]) (rest := []) (c_X10_refusedTwo hc) hK rfl hl.1 rfl (Nat.le_of_ble_eq_true rfl) dX10_quarrel_3 ⟨Nat.le_of_ble_eq_true rfl, Nat.le_of_ble_eq_true rfl⟩) (fun H locs hW hS => ?_)
  clear hc
  generalize M9 = M at hW hF
  refine lv_if_ge (tgt := 16) hx hb dX10_quarrel_6 (by decide) (fun hv11 => ?_) (fun hv11 => ?_)
  · replace hF := (if_pos hv11).symm.trans hF
    refine lv_aload_n hx hb dX10_quarrel_16 rfl (lv_at hl 0 rfl) ?_
    refine lv_iload_n hx hb dX10_quarrel_17 rfl (lv_at hl 1 rfl) ?_
    refine lv_iload_n hx hb dX10_quarrel_18 rfl (lv_at hl 2 rfl) ?_
    obtain ⟨hK, hF⟩ := ps_ck_some hF
    obtain ⟨M9, hc, hF⟩ := ps_b1_some hF
    refine ps_backV (M' := M9) hS (ps_callV C hW pc_9 mf_X10_beginFresh tq_1229 tq_55 tq_1227 ⟨Nat.le_of_ble_eq_true rfl, Nat.le_of_ble_eq_true rfl⟩ rfl rfl (As := [.int x1, .int x2]) (rest := []) (c_X10_beginFresh hc) hK rfl hl.1 rfl (Nat.le_of_ble_eq_true rfl) dX10_quarrel_19 ⟨Nat.le_of_ble_eq_true rfl, Nat.le_of_ble_eq_true rfl⟩) (fun H locs hW hS => ?_)
    clear hc
    generalize M9 = M at hW hF
    refine lv_iconst (v := 1) hx hb dX10_quarrel_22 (by decide) ?_
    refine lv_istore_n (lv' := [(3, .int (1 : Int32)), (0, .ref (B + a0)), (1, .int x1), (2, .int x2)]) hx hb dX10_quarrel_23 rfl hl (by decide) rfl (fun ls hl => ?_)
    exact kb_X10_quarrel_l24 C ps_fu M _ _ _ a0 x1 x2 (1 : Int32) hF hW hS (lv_sub hl [1, 2, 3, 0] rfl)
  · replace hF := (if_neg hv11).symm.trans hF
    refine lv_aload_n hx hb dX10_quarrel_9 rfl (lv_at hl 0 rfl) ?_
    refine lv_iload_n hx hb dX10_quarrel_10 rfl (lv_at hl 1 rfl) ?_
    refine lv_iload_n hx hb dX10_quarrel_11 rfl (lv_at hl 2 rfl) ?_
    obtain ⟨hK, hF⟩ := ps_ck_some hF
    obtain ⟨xv12, M9, hc, hF⟩ := ps_b2_some hF
    refine ps_backI (x0 := xv12) (M' := M9) hS (ps_callV C hW pc_9 mf_X10_refusedTwo tq_1221 tq_53 tq_1219 ⟨Nat.le_of_ble_eq_true rfl, Nat.le_of_ble_eq_true rfl⟩ rfl rfl (As := [.int x1, .int x2]) (rest := []) (c_X10_refusedTwo hc) hK rfl hl.1 rfl (Nat.le_of_ble_eq_true rfl) dX10_quarrel_12 ⟨Nat.le_of_ble_eq_true rfl, Nat.le_of_ble_eq_true rfl⟩) (fun H locs hW hS => ?_)
    clear hc
    generalize M9 = M at hW hF
    exact pw_iret C hW hS dX10_quarrel_15 hF
theorem mf_X10_quarrel : ps_mf yX10_quarrel cX10_quarrel 5 ((some .int)) 2 := ⟨tq_1239, tq_71, by decide +kernel, by decide +kernel, by decide +kernel⟩
theorem c_X10_quarrel {l : Launch} {D : va_G} {Y : ps_A} {B : Nat} {M : ps_M} {a0 : Nat} {x1 : Int32} {x2 : Int32} {r : Int32} {M' : ps_M} (hF : f_X10_quarrel M a0 x1 x2 = some (r, M')) : Met l yX10_quarrel (Cond.code yX10_quarrel cX10_quarrel 5 ((some .int)) :: tb_G) rm_X10_quarrel (ps_PB D Y B M [.ref (B + a0), .int x1, .int x2]) (va_Qi (fun x (_ : Unit) => x = r) (fun _ t => ps_St D Y B M' t) (fun q => B ≤ q)) 0 0 (fun q => B ≤ q) :=
  pm_of (by decide +kernel) (Nat.le_of_ble_eq_true rfl) (fun p e s m args below meth c C hW hS ls hl => kb_X10_quarrel C hF hW hS hl)

abbrev rm_X10_withWhom : Room := { frames := 5, cells := 0, slots := 0, locals := 120 }
def f_X10_withWhom_b154 (k35 : ps_M → Nat → Int32 → Int32 → Int32 → Int32 → Int32 → Option (Int32 × ps_M)) (M : ps_M) (a0 : Nat) (x1 : Int32) (x2 : Int32) (x3 : Int32) (x4 : Int32) (x5 : Int32) : Option (Int32 × ps_M) := ps_v (x5 + 1) (fun xv1 => k35 M a0 x1 x2 x3 x4 xv1)
def f_X10_withWhom_b141 (k35 : ps_M → Nat → Int32 → Int32 → Int32 → Int32 → Int32 → Option (Int32 × ps_M)) (M : ps_M) (a0 : Nat) (x1 : Int32) (x5 : Int32) (x6 : Int32) (x7 : Int32) (x8 : Int32) : Option (Int32 × ps_M) := ps_v ((x6 + x7)) (fun xv2 => f_X10_withWhom_b154 k35 M a0 x1 x5 x8 xv2 x5)
def f_X10_withWhom_b110 (k35 : ps_M → Nat → Int32 → Int32 → Int32 → Int32 → Int32 → Option (Int32 × ps_M)) (M : ps_M) (a0 : Nat) (x1 : Int32) (x2 : Int32) (x3 : Int32) (x4 : Int32) (x5 : Int32) (x6 : Int32) (x7 : Int32) (t0 : Int32) : Option (Int32 × ps_M) := if t0 < x3 then (f_X10_withWhom_b141 k35 M a0 x1 x5 x6 x7 t0) else (if t0 = x3 then (if (99999999 : Int32) ≤ t0 then (f_X10_withWhom_b154 k35 M a0 x1 x2 x3 x4 x5) else (if x4 ≤ (x6 + x7) then (f_X10_withWhom_b154 k35 M a0 x1 x2 x3 x4 x5) else (f_X10_withWhom_b141 k35 M a0 x1 x5 x6 x7 t0))) else (f_X10_withWhom_b154 k35 M a0 x1 x2 x3 x4 x5))
def f_X10_withWhom_b94 (k35 : ps_M → Nat → Int32 → Int32 → Int32 → Int32 → Int32 → Option (Int32 × ps_M)) (M : ps_M) (a0 : Nat) (x1 : Int32) (x2 : Int32) (x3 : Int32) (x4 : Int32) (x5 : Int32) (x6 : Int32) (t0 : Int32) : Option (Int32 × ps_M) := if x6 ≤ t0 then (f_X10_withWhom_b110 k35 M a0 x1 x2 x3 x4 x5 x6 t0 t0) else (f_X10_withWhom_b110 k35 M a0 x1 x2 x3 x4 x5 x6 t0 x6)
def f_X10_withWhom_b174 (M : ps_M) (t0 : Int32) : Option (Int32 × ps_M) := some (t0, M)
def f_X10_withWhom_b169 (M : ps_M) (x2 : Int32) : Option (Int32 × ps_M) := f_X10_withWhom_b174 M x2
def f_X10_withWhom_b160 (M : ps_M) (x1 : Int32) (x2 : Int32) (x3 : Int32) : Option (Int32 × ps_M) := if x2 < 0 then (f_X10_withWhom_b169 M x2) else (if x1 = (1 : Int32) then (f_X10_withWhom_b169 M x2) else (f_X10_withWhom_b174 M x3))
def f_X10_withWhom_w35 (k35 : ps_M → Nat → Int32 → Int32 → Int32 → Int32 → Int32 → Option (Int32 × ps_M)) (M : ps_M) (a0 : Nat) (x1 : Int32) (x2 : Int32) (x3 : Int32) (x4 : Int32) (x5 : Int32) : Option (Int32 × ps_M) := if (4 : Int32) ≤ x5 then (f_X10_withWhom_b160 M x1 x2 x3) else (ps_gI M a0 9 3 (fun xv11 => if xv11 = (4 : Int32) then (ps_ck M a0 9 (ps_b2 (f_X10_freshOf M a0 (0 : Int32) x5) (fun xv13 M => if x5 = (1 : Int32) then (ps_ck M a0 9 (ps_b2 (f_X10_freshOf M a0 (2 : Int32) (3 : Int32)) (fun xv18 M => f_X10_withWhom_b94 k35 M a0 x1 x2 x3 x4 x5 xv13 xv18))) else (if x5 = (2 : Int32) then (ps_ck M a0 9 (ps_b2 (f_X10_freshOf M a0 (1 : Int32) (3 : Int32)) (fun xv17 M => f_X10_withWhom_b94 k35 M a0 x1 x2 x3 x4 x5 xv13 xv17))) else (ps_ck M a0 9 (ps_b2 (f_X10_freshOf M a0 (1 : Int32) (2 : Int32)) (fun xv16 M => f_X10_withWhom_b94 k35 M a0 x1 x2 x3 x4 x5 xv13 xv16))))))) else (f_X10_withWhom_b160 M x1 x2 x3)))
def f_X10_withWhom_l35 : Nat → ps_M → Nat → Int32 → Int32 → Int32 → Int32 → Int32 → Option (Int32 × ps_M)
  | 0, _, _, _, _, _, _, _ => none
  | n + 1, M, a0, x1, x2, x3, x4, x5 => f_X10_withWhom_w35 (f_X10_withWhom_l35 n) M a0 x1 x2 x3 x4 x5
def f_X10_withWhom (M : ps_M) (a0 : Nat) (x1 : Int32) : Option (Int32 × ps_M) := ps_b2 (f_X10_in M (x1.toInt64) (0 : Int64) (1 : Int64)) (fun xv19 M => if xv19 = 0 then (some ((-1000000002 : Int32), M)) else (ps_gI M a0 9 2 (fun xv21 => if xv21 = 0 then (some ((-1000000003 : Int32), M)) else (f_X10_withWhom_l35 ps_fu M a0 x1 (-1 : Int32) (99999999 : Int32) (99999999 : Int32) (1 : Int32)))))
set_option maxRecDepth 100000 in
set_option maxHeartbeats 4000000 in
theorem kb_X10_withWhom_b154 (C : ps_C p s m args meth c cX10_withWhom 9 RX10 ((some .int)) "withWhom" D Y B) {q : Int32 × ps_M} (k35 : ps_M → Nat → Int32 → Int32 → Int32 → Int32 → Int32 → Option (Int32 × ps_M)) (hk35 : ∀ (M : ps_M) (H : Heap) (locs : List Loc) (ls : Array Slot) (a0 : Nat) (x1 : Int32) (x2 : Int32) (x3 : Int32) (x4 : Int32) (x5 : Int32), k35 M a0 x1 x2 x3 x4 x5 = some q → ps_W D Y B M H → va_S (fun q => B ≤ q) s.heap H locs → lv_has ls 9 [(0, .ref (B + a0)), (1, .int x1), (2, .int x2), (3, .int x3), (4, .int x4), (5, .int x5)] → W p l e rm_X10_withWhom s m args below meth c H locs 0 0 (ps_Qi D Y B below args s 0 0 q) (F0 m 35 ls [])) {M : ps_M} {a0 : Nat} {x1 : Int32} {x2 : Int32} {x3 : Int32} {x4 : Int32} {x5 : Int32} (hF : f_X10_withWhom_b154 k35 M a0 x1 x2 x3 x4 x5 = some q) (hW : ps_W D Y B M H) (hS : va_S (fun q => B ≤ q) s.heap H locs) (hl : lv_has ls 9 [(0, .ref (B + a0)), (1, .int x1), (2, .int x2), (3, .int x3), (4, .int x4), (5, .int x5)]) : W p l e rm_X10_withWhom s m args below meth c H locs 0 0 (ps_Qi D Y B below args s 0 0 q) (F0 m 154 ls []) := by
  have hx := C.1
  have hb := C.2.1
  have hml := C.2.2.1
  have hown := C.2.2.2.1
  have hts := C.2.2.2.2.1
  unfold f_X10_withWhom_b154 at hF
  obtain ⟨xv1, exv1, hF⟩ := ps_ve hF
  refine lv_iinc (v := xv1) (lv' := [(5, .int xv1), (0, .ref (B + a0)), (1, .int x1), (2, .int x2), (3, .int x3), (4, .int x4)]) hx hb dX10_withWhom_154 hl (k := 5) rfl (by rw [exv1]; rfl) (by decide) rfl (fun ls hl => ?_)
  clear exv1
  refine lv_goto (tgt := 35) hx hb dX10_withWhom_157 (by decide) ?_
  exact hk35 M _ _ _ a0 x1 x2 x3 x4 xv1 hF hW hS (lv_sub hl [1, 2, 3, 4, 5, 0] rfl)
set_option maxRecDepth 100000 in
set_option maxHeartbeats 4000000 in
theorem kb_X10_withWhom_b141 (C : ps_C p s m args meth c cX10_withWhom 9 RX10 ((some .int)) "withWhom" D Y B) {q : Int32 × ps_M} (k35 : ps_M → Nat → Int32 → Int32 → Int32 → Int32 → Int32 → Option (Int32 × ps_M)) (hk35 : ∀ (M : ps_M) (H : Heap) (locs : List Loc) (ls : Array Slot) (a0 : Nat) (x1 : Int32) (x2 : Int32) (x3 : Int32) (x4 : Int32) (x5 : Int32), k35 M a0 x1 x2 x3 x4 x5 = some q → ps_W D Y B M H → va_S (fun q => B ≤ q) s.heap H locs → lv_has ls 9 [(0, .ref (B + a0)), (1, .int x1), (2, .int x2), (3, .int x3), (4, .int x4), (5, .int x5)] → W p l e rm_X10_withWhom s m args below meth c H locs 0 0 (ps_Qi D Y B below args s 0 0 q) (F0 m 35 ls [])) {M : ps_M} {a0 : Nat} {x1 : Int32} {x5 : Int32} {x6 : Int32} {x7 : Int32} {x8 : Int32} (hF : f_X10_withWhom_b141 k35 M a0 x1 x5 x6 x7 x8 = some q) (hW : ps_W D Y B M H) (hS : va_S (fun q => B ≤ q) s.heap H locs) (hl : lv_has ls 9 [(0, .ref (B + a0)), (1, .int x1), (5, .int x5), (6, .int x6), (7, .int x7), (8, .int x8)]) : W p l e rm_X10_withWhom s m args below meth c H locs 0 0 (ps_Qi D Y B below args s 0 0 q) (F0 m 141 ls []) := by
  have hx := C.1
  have hb := C.2.1
  have hml := C.2.2.1
  have hown := C.2.2.2.1
  have hts := C.2.2.2.2.1
  unfold f_X10_withWhom_b141 at hF
  refine lv_iload hx hb dX10_withWhom_141 (lv_at hl 2 rfl) ?_
  refine lv_istore_n (lv' := [(2, .int x5), (0, .ref (B + a0)), (1, .int x1), (5, .int x5), (6, .int x6), (7, .int x7), (8, .int x8)]) hx hb dX10_withWhom_143 rfl hl (by decide) rfl (fun ls hl => ?_)
  refine lv_iload hx hb dX10_withWhom_144 (lv_at hl 6 rfl) ?_
  refine lv_istore_n (lv' := [(3, .int x8), (2, .int x5), (0, .ref (B + a0)), (1, .int x1), (5, .int x5), (6, .int x6), (7, .int x7), (8, .int x8)]) hx hb dX10_withWhom_146 rfl hl (by decide) rfl (fun ls hl => ?_)
  refine lv_iload hx hb dX10_withWhom_147 (lv_at hl 5 rfl) ?_
  refine lv_iload hx hb dX10_withWhom_149 (lv_at hl 6 rfl) ?_
  refine lv_iadd hx hb dX10_withWhom_151 ?_
  refine pw_v hF (fun xv2 hF => ?_)
  refine lv_istore (lv' := [(4, .int xv2), (3, .int x8), (2, .int x5), (0, .ref (B + a0)), (1, .int x1), (5, .int x5), (6, .int x6), (7, .int x7), (8, .int x8)]) hx hb dX10_withWhom_152 hl (by decide) rfl (fun ls hl => ?_)
  exact kb_X10_withWhom_b154 C k35 hk35 hF hW hS (lv_sub hl [3, 4, 2, 1, 0, 5] rfl)
set_option maxRecDepth 100000 in
set_option maxHeartbeats 4000000 in
theorem kb_X10_withWhom_b110 (C : ps_C p s m args meth c cX10_withWhom 9 RX10 ((some .int)) "withWhom" D Y B) {q : Int32 × ps_M} (k35 : ps_M → Nat → Int32 → Int32 → Int32 → Int32 → Int32 → Option (Int32 × ps_M)) (hk35 : ∀ (M : ps_M) (H : Heap) (locs : List Loc) (ls : Array Slot) (a0 : Nat) (x1 : Int32) (x2 : Int32) (x3 : Int32) (x4 : Int32) (x5 : Int32), k35 M a0 x1 x2 x3 x4 x5 = some q → ps_W D Y B M H → va_S (fun q => B ≤ q) s.heap H locs → lv_has ls 9 [(0, .ref (B + a0)), (1, .int x1), (2, .int x2), (3, .int x3), (4, .int x4), (5, .int x5)] → W p l e rm_X10_withWhom s m args below meth c H locs 0 0 (ps_Qi D Y B below args s 0 0 q) (F0 m 35 ls [])) {M : ps_M} {a0 : Nat} {x1 : Int32} {x2 : Int32} {x3 : Int32} {x4 : Int32} {x5 : Int32} {x6 : Int32} {x7 : Int32} {t0 : Int32} (hF : f_X10_withWhom_b110 k35 M a0 x1 x2 x3 x4 x5 x6 x7 t0 = some q) (hW : ps_W D Y B M H) (hS : va_S (fun q => B ≤ q) s.heap H locs) (hl : lv_has ls 9 [(0, .ref (B + a0)), (1, .int x1), (2, .int x2), (3, .int x3), (4, .int x4), (5, .int x5), (6, .int x6), (7, .int x7)]) : W p l e rm_X10_withWhom s m args below meth c H locs 0 0 (ps_Qi D Y B below args s 0 0 q) (F0 m 110 ls [.int t0]) := by
  have hx := C.1
  have hb := C.2.1
  have hml := C.2.2.1
  have hown := C.2.2.2.1
  have hts := C.2.2.2.2.1
  unfold f_X10_withWhom_b110 at hF
  refine lv_istore (lv' := [(8, .int t0), (0, .ref (B + a0)), (1, .int x1), (2, .int x2), (3, .int x3), (4, .int x4), (5, .int x5), (6, .int x6), (7, .int x7)]) hx hb dX10_withWhom_110 hl (by decide) rfl (fun ls hl => ?_)
  refine lv_iload hx hb dX10_withWhom_112 (lv_at hl 0 rfl) ?_
  refine lv_iload_n hx hb dX10_withWhom_114 rfl (lv_at hl 4 rfl) ?_
  refine lv_icmp_lt (tgt := 141) hx hb dX10_withWhom_115 (by decide) (fun hv3 => ?_) (fun hv3 => ?_)
  · replace hF := (if_pos hv3).symm.trans hF
    exact kb_X10_withWhom_b141 C k35 hk35 hF hW hS (lv_sub hl [1, 2, 6, 7, 8, 0] rfl)
  · replace hF := (if_neg hv3).symm.trans hF
    refine lv_iload hx hb dX10_withWhom_118 (lv_at hl 0 rfl) ?_
    refine lv_iload_n hx hb dX10_withWhom_120 rfl (lv_at hl 4 rfl) ?_
    refine lv_icmp_ne (tgt := 154) hx hb dX10_withWhom_121 (by decide) (fun hv4 => ?_) (fun hv4 => ?_)
    · replace hF := (if_neg hv4).symm.trans hF
      exact kb_X10_withWhom_b154 C k35 hk35 hF hW hS (lv_sub hl [1, 2, 3, 4, 5, 6] rfl)
    · replace hF := (if_pos hv4).symm.trans hF
      refine lv_iload hx hb dX10_withWhom_124 (lv_at hl 0 rfl) ?_
      refine lv_ldc (v := 99999999) hx hb hown (hts _ tq_1214) dX10_withWhom_126 ?_
      refine lv_icmp_ge (tgt := 154) hx hb dX10_withWhom_128 (by decide) (fun hv5 => ?_) (fun hv5 => ?_)
      · replace hF := (if_pos hv5).symm.trans hF
        exact kb_X10_withWhom_b154 C k35 hk35 hF hW hS (lv_sub hl [1, 2, 3, 4, 5, 6] rfl)
      · replace hF := (if_neg hv5).symm.trans hF
        refine lv_iload hx hb dX10_withWhom_131 (lv_at hl 7 rfl) ?_
        refine lv_iload hx hb dX10_withWhom_133 (lv_at hl 8 rfl) ?_
        refine lv_iadd hx hb dX10_withWhom_135 ?_
        refine lv_iload hx hb dX10_withWhom_136 (lv_at hl 5 rfl) ?_
        refine lv_icmp_ge (tgt := 154) hx hb dX10_withWhom_138 (by decide) (fun hv6 => ?_) (fun hv6 => ?_)
        · replace hF := (if_pos hv6).symm.trans hF
          exact kb_X10_withWhom_b154 C k35 hk35 hF hW hS (lv_sub hl [1, 2, 3, 4, 5, 6] rfl)
        · replace hF := (if_neg hv6).symm.trans hF
          exact kb_X10_withWhom_b141 C k35 hk35 hF hW hS (lv_sub hl [1, 2, 6, 7, 8, 0] rfl)
set_option maxRecDepth 100000 in
set_option maxHeartbeats 4000000 in
theorem kb_X10_withWhom_b94 (C : ps_C p s m args meth c cX10_withWhom 9 RX10 ((some .int)) "withWhom" D Y B) {q : Int32 × ps_M} (k35 : ps_M → Nat → Int32 → Int32 → Int32 → Int32 → Int32 → Option (Int32 × ps_M)) (hk35 : ∀ (M : ps_M) (H : Heap) (locs : List Loc) (ls : Array Slot) (a0 : Nat) (x1 : Int32) (x2 : Int32) (x3 : Int32) (x4 : Int32) (x5 : Int32), k35 M a0 x1 x2 x3 x4 x5 = some q → ps_W D Y B M H → va_S (fun q => B ≤ q) s.heap H locs → lv_has ls 9 [(0, .ref (B + a0)), (1, .int x1), (2, .int x2), (3, .int x3), (4, .int x4), (5, .int x5)] → W p l e rm_X10_withWhom s m args below meth c H locs 0 0 (ps_Qi D Y B below args s 0 0 q) (F0 m 35 ls [])) {M : ps_M} {a0 : Nat} {x1 : Int32} {x2 : Int32} {x3 : Int32} {x4 : Int32} {x5 : Int32} {x6 : Int32} {t0 : Int32} (hF : f_X10_withWhom_b94 k35 M a0 x1 x2 x3 x4 x5 x6 t0 = some q) (hW : ps_W D Y B M H) (hS : va_S (fun q => B ≤ q) s.heap H locs) (hl : lv_has ls 9 [(0, .ref (B + a0)), (1, .int x1), (2, .int x2), (3, .int x3), (4, .int x4), (5, .int x5), (6, .int x6)]) : W p l e rm_X10_withWhom s m args below meth c H locs 0 0 (ps_Qi D Y B below args s 0 0 q) (F0 m 94 ls [.int t0]) := by
  have hx := C.1
  have hb := C.2.1
  have hml := C.2.2.1
  have hown := C.2.2.2.1
  have hts := C.2.2.2.2.1
  unfold f_X10_withWhom_b94 at hF
  refine lv_istore (lv' := [(7, .int t0), (0, .ref (B + a0)), (1, .int x1), (2, .int x2), (3, .int x3), (4, .int x4), (5, .int x5), (6, .int x6)]) hx hb dX10_withWhom_94 hl (by decide) rfl (fun ls hl => ?_)
  refine lv_iload hx hb dX10_withWhom_96 (lv_at hl 7 rfl) ?_
  refine lv_iload hx hb dX10_withWhom_98 (lv_at hl 0 rfl) ?_
  refine lv_icmp_le (tgt := 108) hx hb dX10_withWhom_100 (by decide) (fun hv7 => ?_) (fun hv7 => ?_)
  · replace hF := (if_pos hv7).symm.trans hF
    refine lv_iload hx hb dX10_withWhom_108 (lv_at hl 0 rfl) ?_
    exact kb_X10_withWhom_b110 C k35 hk35 hF hW hS (lv_sub hl [1, 2, 3, 4, 5, 6, 7, 0] rfl)
  · replace hF := (if_neg hv7).symm.trans hF
    refine lv_iload hx hb dX10_withWhom_103 (lv_at hl 7 rfl) ?_
    refine lv_goto (tgt := 110) hx hb dX10_withWhom_105 (by decide) ?_
    exact kb_X10_withWhom_b110 C k35 hk35 hF hW hS (lv_sub hl [1, 2, 3, 4, 5, 6, 7, 0] rfl)
set_option maxRecDepth 100000 in
set_option maxHeartbeats 4000000 in
theorem kb_X10_withWhom_b174 (C : ps_C p s m args meth c cX10_withWhom 9 RX10 ((some .int)) "withWhom" D Y B) {q : Int32 × ps_M}  {M : ps_M} {t0 : Int32} (hF : f_X10_withWhom_b174 M t0 = some q) (hW : ps_W D Y B M H) (hS : va_S (fun q => B ≤ q) s.heap H locs) (hl : lv_has ls 9 []) : W p l e rm_X10_withWhom s m args below meth c H locs 0 0 (ps_Qi D Y B below args s 0 0 q) (F0 m 174 ls [.int t0]) := by
  have hx := C.1
  have hb := C.2.1
  have hml := C.2.2.1
  have hown := C.2.2.2.1
  have hts := C.2.2.2.2.1
  unfold f_X10_withWhom_b174 at hF
  exact pw_iret C hW hS dX10_withWhom_174 hF
set_option maxRecDepth 100000 in
set_option maxHeartbeats 4000000 in
theorem kb_X10_withWhom_b169 (C : ps_C p s m args meth c cX10_withWhom 9 RX10 ((some .int)) "withWhom" D Y B) {q : Int32 × ps_M}  {M : ps_M} {x2 : Int32} (hF : f_X10_withWhom_b169 M x2 = some q) (hW : ps_W D Y B M H) (hS : va_S (fun q => B ≤ q) s.heap H locs) (hl : lv_has ls 9 [(2, .int x2)]) : W p l e rm_X10_withWhom s m args below meth c H locs 0 0 (ps_Qi D Y B below args s 0 0 q) (F0 m 169 ls []) := by
  have hx := C.1
  have hb := C.2.1
  have hml := C.2.2.1
  have hown := C.2.2.2.1
  have hts := C.2.2.2.2.1
  unfold f_X10_withWhom_b169 at hF
  refine lv_iload_n hx hb dX10_withWhom_169 rfl (lv_at hl 0 rfl) ?_
  refine lv_goto (tgt := 174) hx hb dX10_withWhom_170 (by decide) ?_
  exact kb_X10_withWhom_b174 C hF hW hS (lv_sub hl [] rfl)
set_option maxRecDepth 100000 in
set_option maxHeartbeats 4000000 in
theorem kb_X10_withWhom_b160 (C : ps_C p s m args meth c cX10_withWhom 9 RX10 ((some .int)) "withWhom" D Y B) {q : Int32 × ps_M}  {M : ps_M} {x1 : Int32} {x2 : Int32} {x3 : Int32} (hF : f_X10_withWhom_b160 M x1 x2 x3 = some q) (hW : ps_W D Y B M H) (hS : va_S (fun q => B ≤ q) s.heap H locs) (hl : lv_has ls 9 [(1, .int x1), (2, .int x2), (3, .int x3)]) : W p l e rm_X10_withWhom s m args below meth c H locs 0 0 (ps_Qi D Y B below args s 0 0 q) (F0 m 160 ls []) := by
  have hx := C.1
  have hb := C.2.1
  have hml := C.2.2.1
  have hown := C.2.2.2.1
  have hts := C.2.2.2.2.1
  unfold f_X10_withWhom_b160 at hF
  refine lv_iload_n hx hb dX10_withWhom_160 rfl (lv_at hl 1 rfl) ?_
  refine lv_if_lt (tgt := 169) hx hb dX10_withWhom_161 (by decide) (fun hv8 => ?_) (fun hv8 => ?_)
  · replace hF := (if_pos hv8).symm.trans hF
    exact kb_X10_withWhom_b169 C hF hW hS (lv_sub hl [1] rfl)
  · replace hF := (if_neg hv8).symm.trans hF
    refine lv_iload_n hx hb dX10_withWhom_164 rfl (lv_at hl 0 rfl) ?_
    refine lv_iconst (v := 1) hx hb dX10_withWhom_165 (by decide) ?_
    refine lv_icmp_ne (tgt := 173) hx hb dX10_withWhom_166 (by decide) (fun hv9 => ?_) (fun hv9 => ?_)
    · replace hF := (if_neg hv9).symm.trans hF
      refine lv_iload_n hx hb dX10_withWhom_173 rfl (lv_at hl 2 rfl) ?_
      exact kb_X10_withWhom_b174 C hF hW hS (lv_sub hl [] rfl)
    · replace hF := (if_pos hv9).symm.trans hF
      exact kb_X10_withWhom_b169 C hF hW hS (lv_sub hl [1] rfl)
set_option maxRecDepth 100000 in
set_option maxHeartbeats 4000000 in
theorem kb_X10_withWhom_w35 (C : ps_C p s m args meth c cX10_withWhom 9 RX10 ((some .int)) "withWhom" D Y B) {q : Int32 × ps_M} (k35 : ps_M → Nat → Int32 → Int32 → Int32 → Int32 → Int32 → Option (Int32 × ps_M)) (hk35 : ∀ (M : ps_M) (H : Heap) (locs : List Loc) (ls : Array Slot) (a0 : Nat) (x1 : Int32) (x2 : Int32) (x3 : Int32) (x4 : Int32) (x5 : Int32), k35 M a0 x1 x2 x3 x4 x5 = some q → ps_W D Y B M H → va_S (fun q => B ≤ q) s.heap H locs → lv_has ls 9 [(0, .ref (B + a0)), (1, .int x1), (2, .int x2), (3, .int x3), (4, .int x4), (5, .int x5)] → W p l e rm_X10_withWhom s m args below meth c H locs 0 0 (ps_Qi D Y B below args s 0 0 q) (F0 m 35 ls [])) {M : ps_M} {a0 : Nat} {x1 : Int32} {x2 : Int32} {x3 : Int32} {x4 : Int32} {x5 : Int32} (hF : f_X10_withWhom_w35 k35 M a0 x1 x2 x3 x4 x5 = some q) (hW : ps_W D Y B M H) (hS : va_S (fun q => B ≤ q) s.heap H locs) (hl : lv_has ls 9 [(0, .ref (B + a0)), (1, .int x1), (2, .int x2), (3, .int x3), (4, .int x4), (5, .int x5)]) : W p l e rm_X10_withWhom s m args below meth c H locs 0 0 (ps_Qi D Y B below args s 0 0 q) (F0 m 35 ls []) := by
  have hx := C.1
  have hb := C.2.1
  have hml := C.2.2.1
  have hown := C.2.2.2.1
  have hts := C.2.2.2.2.1
  unfold f_X10_withWhom_w35 at hF
  refine lv_iload hx hb dX10_withWhom_35 (lv_at hl 5 rfl) ?_
  refine lv_iconst (v := 4) hx hb dX10_withWhom_37 (by decide) ?_
  refine lv_icmp_ge (tgt := 160) hx hb dX10_withWhom_38 (by decide) (fun hv10 => ?_) (fun hv10 => ?_)
  · replace hF := (if_pos hv10).symm.trans hF
    exact kb_X10_withWhom_b160 C hF hW hS (lv_sub hl [1, 2, 3] rfl)
  · replace hF := (if_neg hv10).symm.trans hF
    refine lv_aload_n hx hb dX10_withWhom_41 rfl (lv_at hl 0 rfl) ?_
    refine pw_gI C hW pc_9 (k := 3) (by decide) rfl tq_921 dX10_withWhom_42 hF (fun xv11 hF => ?_)
    refine lv_iconst (v := 4) hx hb dX10_withWhom_45 (by decide) ?_
    refine lv_icmp_ne (tgt := 160) hx hb dX10_withWhom_46 (by decide) (fun hv12 => ?_) (fun hv12 => ?_)
    · replace hF := (if_neg hv12).symm.trans hF
      exact kb_X10_withWhom_b160 C hF hW hS (lv_sub hl [1, 2, 3] rfl)
    · replace hF := (if_pos hv12).symm.trans hF
      refine lv_aload_n hx hb dX10_withWhom_49 rfl (lv_at hl 0 rfl) ?_
      refine lv_iconst (v := 0) hx hb dX10_withWhom_50 (by decide) ?_
      refine lv_iload hx hb dX10_withWhom_51 (lv_at hl 5 rfl) ?_
      obtain ⟨hK, hF⟩ := ps_ck_some hF
      obtain ⟨xv13, M9, hc, hF⟩ := ps_b2_some hF
      refine ps_backI (x0 := xv13) (M' := M9) hS (ps_callV C hW pc_9 mf_X10_freshOf tq_1225 tq_54 tq_1223 ⟨Nat.le_of_ble_eq_true rfl, Nat.le_of_ble_eq_true rfl⟩ rfl rfl (As := [.int (0 : Int32), .int x5]) (rest := []) (c_X10_freshOf hc) hK rfl hl.1 rfl (Nat.le_of_ble_eq_true rfl) dX10_withWhom_53 ⟨Nat.le_of_ble_eq_true rfl, Nat.le_of_ble_eq_true rfl⟩) (fun H locs hW hS => ?_)
      clear hc
      generalize M9 = M at hW hF
      refine lv_istore (lv' := [(6, .int xv13), (0, .ref (B + a0)), (1, .int x1), (2, .int x2), (3, .int x3), (4, .int x4), (5, .int x5)]) hx hb dX10_withWhom_56 hl (by decide) rfl (fun ls hl => ?_)
      refine lv_iload hx hb dX10_withWhom_58 (lv_at hl 6 rfl) ?_
      refine lv_iconst (v := 1) hx hb dX10_withWhom_60 (by decide) ?_
      refine lv_icmp_ne (tgt := 73) hx hb dX10_withWhom_61 (by decide) (fun hv14 => ?_) (fun hv14 => ?_)
      · replace hF := (if_neg hv14).symm.trans hF
        refine lv_iload hx hb dX10_withWhom_73 (lv_at hl 6 rfl) ?_
        refine lv_iconst (v := 2) hx hb dX10_withWhom_75 (by decide) ?_
        refine lv_icmp_ne (tgt := 88) hx hb dX10_withWhom_76 (by decide) (fun hv15 => ?_) (fun hv15 => ?_)
        · replace hF := (if_neg hv15).symm.trans hF
          refine lv_aload_n hx hb dX10_withWhom_88 rfl (lv_at hl 1 rfl) ?_
          refine lv_iconst (v := 1) hx hb dX10_withWhom_89 (by decide) ?_
          refine lv_iconst (v := 2) hx hb dX10_withWhom_90 (by decide) ?_
          obtain ⟨hK, hF⟩ := ps_ck_some hF
          obtain ⟨xv16, M9, hc, hF⟩ := ps_b2_some hF
          refine ps_backI (x0 := xv16) (M' := M9) hS (ps_callV C hW pc_9 mf_X10_freshOf tq_1225 tq_54 tq_1223 ⟨Nat.le_of_ble_eq_true rfl, Nat.le_of_ble_eq_true rfl⟩ rfl rfl (As := [.int (1 : Int32), .int (2 : Int32)]) (rest := []) (c_X10_freshOf hc) hK rfl hl.1 rfl (Nat.le_of_ble_eq_true rfl) dX10_withWhom_91 ⟨Nat.le_of_ble_eq_true rfl, Nat.le_of_ble_eq_true rfl⟩) (fun H locs hW hS => ?_)
          clear hc
          generalize M9 = M at hW hF
          exact kb_X10_withWhom_b94 C k35 hk35 hF hW hS (lv_sub hl [1, 2, 3, 4, 5, 6, 0] rfl)
        · replace hF := (if_pos hv15).symm.trans hF
          refine lv_aload_n hx hb dX10_withWhom_79 rfl (lv_at hl 1 rfl) ?_
          refine lv_iconst (v := 1) hx hb dX10_withWhom_80 (by decide) ?_
          refine lv_iconst (v := 3) hx hb dX10_withWhom_81 (by decide) ?_
          obtain ⟨hK, hF⟩ := ps_ck_some hF
          obtain ⟨xv17, M9, hc, hF⟩ := ps_b2_some hF
          refine ps_backI (x0 := xv17) (M' := M9) hS (ps_callV C hW pc_9 mf_X10_freshOf tq_1225 tq_54 tq_1223 ⟨Nat.le_of_ble_eq_true rfl, Nat.le_of_ble_eq_true rfl⟩ rfl rfl (As := [.int (1 : Int32), .int (3 : Int32)]) (rest := []) (c_X10_freshOf hc) hK rfl hl.1 rfl (Nat.le_of_ble_eq_true rfl) dX10_withWhom_82 ⟨Nat.le_of_ble_eq_true rfl, Nat.le_of_ble_eq_true rfl⟩) (fun H locs hW hS => ?_)
          clear hc
          generalize M9 = M at hW hF
          refine lv_goto (tgt := 94) hx hb dX10_withWhom_85 (by decide) ?_
          exact kb_X10_withWhom_b94 C k35 hk35 hF hW hS (lv_sub hl [1, 2, 3, 4, 5, 6, 0] rfl)
      · replace hF := (if_pos hv14).symm.trans hF
        refine lv_aload_n hx hb dX10_withWhom_64 rfl (lv_at hl 1 rfl) ?_
        refine lv_iconst (v := 2) hx hb dX10_withWhom_65 (by decide) ?_
        refine lv_iconst (v := 3) hx hb dX10_withWhom_66 (by decide) ?_
        obtain ⟨hK, hF⟩ := ps_ck_some hF
        obtain ⟨xv18, M9, hc, hF⟩ := ps_b2_some hF
        refine ps_backI (x0 := xv18) (M' := M9) hS (ps_callV C hW pc_9 mf_X10_freshOf tq_1225 tq_54 tq_1223 ⟨Nat.le_of_ble_eq_true rfl, Nat.le_of_ble_eq_true rfl⟩ rfl rfl (As := [.int (2 : Int32), .int (3 : Int32)]) (rest := []) (c_X10_freshOf hc) hK rfl hl.1 rfl (Nat.le_of_ble_eq_true rfl) dX10_withWhom_67 ⟨Nat.le_of_ble_eq_true rfl, Nat.le_of_ble_eq_true rfl⟩) (fun H locs hW hS => ?_)
        clear hc
        generalize M9 = M at hW hF
        refine lv_goto (tgt := 94) hx hb dX10_withWhom_70 (by decide) ?_
        exact kb_X10_withWhom_b94 C k35 hk35 hF hW hS (lv_sub hl [1, 2, 3, 4, 5, 6, 0] rfl)
theorem kb_X10_withWhom_l35 (C : ps_C p s m args meth c cX10_withWhom 9 RX10 ((some .int)) "withWhom" D Y B) {q : Int32 × ps_M}  : ∀ (n : Nat) (M : ps_M) (H : Heap) (locs : List Loc) (ls : Array Slot) (a0 : Nat) (x1 : Int32) (x2 : Int32) (x3 : Int32) (x4 : Int32) (x5 : Int32), f_X10_withWhom_l35 n M a0 x1 x2 x3 x4 x5 = some q → ps_W D Y B M H → va_S (fun q => B ≤ q) s.heap H locs → lv_has ls 9 [(0, .ref (B + a0)), (1, .int x1), (2, .int x2), (3, .int x3), (4, .int x4), (5, .int x5)] → W p l e rm_X10_withWhom s m args below meth c H locs 0 0 (ps_Qi D Y B below args s 0 0 q) (F0 m 35 ls []) := by
  intro n
  induction n with
  | zero => intro M H locs ls a0 x1 x2 x3 x4 x5 hF; cases hF
  | succ n ih => intro M H locs ls a0 x1 x2 x3 x4 x5 hF hW hS hl; exact kb_X10_withWhom_w35 C  (f_X10_withWhom_l35 n) ih hF hW hS hl
set_option maxRecDepth 100000 in
set_option maxHeartbeats 4000000 in
theorem kb_X10_withWhom (C : ps_C p s m args meth c cX10_withWhom 9 RX10 ((some .int)) "withWhom" D Y B) {q : Int32 × ps_M}  {M : ps_M} {a0 : Nat} {x1 : Int32} (hF : f_X10_withWhom M a0 x1 = some q) (hW : ps_W D Y B M H) (hS : va_S (fun q => B ≤ q) s.heap H locs) (hl : lv_has ls 9 [(0, .ref (B + a0)), (1, .int x1)]) : W p l e rm_X10_withWhom s m args below meth c H locs 0 0 (ps_Qi D Y B below args s 0 0 q) (F0 m 0 ls []) := by
  have hx := C.1
  have hb := C.2.1
  have hml := C.2.2.1
  have hown := C.2.2.2.1
  have hts := C.2.2.2.2.1
  unfold f_X10_withWhom at hF
  refine lv_iload_n hx hb dX10_withWhom_0 rfl (lv_at hl 1 rfl) ?_
  refine lv_i2l hx hb dX10_withWhom_1 rfl ?_
  refine lv_lconst (v := 0) hx hb dX10_withWhom_2 (by decide) ?_
  refine lv_lconst (v := 1) hx hb dX10_withWhom_3 (by decide) ?_
  obtain ⟨xv19, M9, hc, hF⟩ := ps_b2_some hF
  refine ps_backI (x0 := xv19) (M' := M9) hS (ps_callS C hW mf_X10_in tq_1031 tq_1030 ⟨Nat.le_of_ble_eq_true rfl, Nat.le_of_ble_eq_true rfl⟩ rfl rfl (As := [.long (x1.toInt64), .long (0 : Int64), .long (1 : Int64)]) (rest := []) (c_X10_in hc) rfl hl.1 rfl (Nat.le_of_ble_eq_true rfl) dX10_withWhom_4 ⟨Nat.le_of_ble_eq_true rfl, Nat.le_of_ble_eq_true rfl⟩) (fun H locs hW hS => ?_)
  clear hc
  generalize M9 = M at hW hF
  refine lv_if_ne (tgt := 13) hx hb dX10_withWhom_7 (by decide) (fun hv20 => ?_) (fun hv20 => ?_)
  · replace hF := (if_neg hv20).symm.trans hF
    refine lv_aload_n hx hb dX10_withWhom_13 rfl (lv_at hl 0 rfl) ?_
    refine pw_gI C hW pc_9 (k := 2) (by decide) rfl tq_920 dX10_withWhom_14 hF (fun xv21 hF => ?_)
    refine lv_if_ne (tgt := 23) hx hb dX10_withWhom_17 (by decide) (fun hv22 => ?_) (fun hv22 => ?_)
    · replace hF := (if_neg hv22).symm.trans hF
      refine lv_iconst (v := -1) hx hb dX10_withWhom_23 (by decide) ?_
      refine lv_istore_n (lv' := [(2, .int (-1 : Int32)), (0, .ref (B + a0)), (1, .int x1)]) hx hb dX10_withWhom_24 rfl hl (by decide) rfl (fun ls hl => ?_)
      refine lv_ldc (v := 99999999) hx hb hown (hts _ tq_1214) dX10_withWhom_25 ?_
      refine lv_istore_n (lv' := [(3, .int (99999999 : Int32)), (2, .int (-1 : Int32)), (0, .ref (B + a0)), (1, .int x1)]) hx hb dX10_withWhom_27 rfl hl (by decide) rfl (fun ls hl => ?_)
      refine lv_ldc (v := 99999999) hx hb hown (hts _ tq_1214) dX10_withWhom_28 ?_
      refine lv_istore (lv' := [(4, .int (99999999 : Int32)), (3, .int (99999999 : Int32)), (2, .int (-1 : Int32)), (0, .ref (B + a0)), (1, .int x1)]) hx hb dX10_withWhom_30 hl (by decide) rfl (fun ls hl => ?_)
      refine lv_iconst (v := 1) hx hb dX10_withWhom_32 (by decide) ?_
      refine lv_istore (lv' := [(5, .int (1 : Int32)), (4, .int (99999999 : Int32)), (3, .int (99999999 : Int32)), (2, .int (-1 : Int32)), (0, .ref (B + a0)), (1, .int x1)]) hx hb dX10_withWhom_33 hl (by decide) rfl (fun ls hl => ?_)
      exact kb_X10_withWhom_l35 C ps_fu M _ _ _ a0 x1 (-1 : Int32) (99999999 : Int32) (99999999 : Int32) (1 : Int32) hF hW hS (lv_sub hl [4, 5, 3, 2, 1, 0] rfl)
    · replace hF := (if_pos hv22).symm.trans hF
      refine lv_ldc (v := -1000000003) hx hb hown (hts _ tq_1112) dX10_withWhom_20 ?_
      exact pw_iret C hW hS dX10_withWhom_22 hF
  · replace hF := (if_pos hv20).symm.trans hF
    refine lv_ldc (v := -1000000002) hx hb hown (hts _ tq_1033) dX10_withWhom_10 ?_
    exact pw_iret C hW hS dX10_withWhom_12 hF
theorem mf_X10_withWhom : ps_mf yX10_withWhom cX10_withWhom 9 ((some .int)) 1 := ⟨tq_1247, tq_71, by decide +kernel, by decide +kernel, by decide +kernel⟩
theorem c_X10_withWhom {l : Launch} {D : va_G} {Y : ps_A} {B : Nat} {M : ps_M} {a0 : Nat} {x1 : Int32} {r : Int32} {M' : ps_M} (hF : f_X10_withWhom M a0 x1 = some (r, M')) : Met l yX10_withWhom (Cond.code yX10_withWhom cX10_withWhom 9 ((some .int)) :: tb_G) rm_X10_withWhom (ps_PB D Y B M [.ref (B + a0), .int x1]) (va_Qi (fun x (_ : Unit) => x = r) (fun _ t => ps_St D Y B M' t) (fun q => B ≤ q)) 0 0 (fun q => B ≤ q) :=
  pm_of (by decide +kernel) (Nat.le_of_ble_eq_true rfl) (fun p e s m args below meth c C hW hS ls hl => kb_X10_withWhom C hF hW hS hl)

abbrev rm_X10_lay : Room := { frames := 0, cells := 0, slots := 0, locals := 0 }
def f_X10_lay_b56 (M : ps_M)  : Option (ps_M) := some M
def f_X10_lay_b35 (M : ps_M) (a0 : Nat) (x1 : Int32) (x2 : Int32) (x3 : Int32) (t0 : Int32) : Option (ps_M) := if t0 = 0 then (f_X10_lay_b56 M ) else (ps_gR M a0 9 28 (fun av2 => ps_xI M av2 x1 x2 (fun M => ps_gR M a0 9 30 (fun av3 => ps_xI M av3 x1 x3 (fun M => f_X10_lay_b56 M )))))
def f_X10_lay_b30 (M : ps_M) (a0 : Nat) (x1 : Int32) (x2 : Int32) (x3 : Int32) : Option (ps_M) := f_X10_lay_b35 M a0 x1 x2 x3 (1 : Int32)
def f_X10_lay_b34 (M : ps_M) (a0 : Nat) (x1 : Int32) (x2 : Int32) (x3 : Int32) : Option (ps_M) := f_X10_lay_b35 M a0 x1 x2 x3 (0 : Int32)
def f_X10_lay (M : ps_M) (a0 : Nat) (x1 : Int32) (x2 : Int32) (x3 : Int32) : Option (ps_M) := ps_gR M a0 9 28 (fun av4 => ps_aI M av4 x1 (fun xv5 => if x2 < xv5 then (f_X10_lay_b30 M a0 x1 x2 x3) else (ps_gR M a0 9 28 (fun av7 => ps_aI M av7 x1 (fun xv8 => if x2 = xv8 then (ps_gR M a0 9 30 (fun av10 => ps_aI M av10 x1 (fun xv11 => if x3 ≤ xv11 then (f_X10_lay_b34 M a0 x1 x2 x3) else (f_X10_lay_b30 M a0 x1 x2 x3)))) else (f_X10_lay_b34 M a0 x1 x2 x3))))))
set_option maxRecDepth 100000 in
set_option maxHeartbeats 4000000 in
theorem kb_X10_lay_b56 (C : ps_C p s m args meth c cX10_lay 5 RX10 none "lay" D Y B) {q : ps_M}  {M : ps_M}  (hF : f_X10_lay_b56 M  = some q) (hW : ps_W D Y B M H) (hS : va_S (fun q => B ≤ q) s.heap H locs) (hl : lv_has ls 5 []) : W p l e rm_X10_lay s m args below meth c H locs 0 0 (ps_Qv D Y B below args s 0 0 q) (F0 m 56 ls []) := by
  have hx := C.1
  have hb := C.2.1
  have hml := C.2.2.1
  have hown := C.2.2.2.1
  have hts := C.2.2.2.2.1
  unfold f_X10_lay_b56 at hF
  exact pw_vret C hW hS dX10_lay_56 hF
set_option maxRecDepth 100000 in
set_option maxHeartbeats 4000000 in
theorem kb_X10_lay_b35 (C : ps_C p s m args meth c cX10_lay 5 RX10 none "lay" D Y B) {q : ps_M}  {M : ps_M} {a0 : Nat} {x1 : Int32} {x2 : Int32} {x3 : Int32} {t0 : Int32} (hF : f_X10_lay_b35 M a0 x1 x2 x3 t0 = some q) (hW : ps_W D Y B M H) (hS : va_S (fun q => B ≤ q) s.heap H locs) (hl : lv_has ls 5 [(0, .ref (B + a0)), (1, .int x1), (2, .int x2), (3, .int x3)]) : W p l e rm_X10_lay s m args below meth c H locs 0 0 (ps_Qv D Y B below args s 0 0 q) (F0 m 35 ls [.int t0]) := by
  have hx := C.1
  have hb := C.2.1
  have hml := C.2.2.1
  have hown := C.2.2.2.1
  have hts := C.2.2.2.2.1
  unfold f_X10_lay_b35 at hF
  refine lv_istore (lv' := [(4, .int t0), (0, .ref (B + a0)), (1, .int x1), (2, .int x2), (3, .int x3)]) hx hb dX10_lay_35 hl (by decide) rfl (fun ls hl => ?_)
  refine lv_iload hx hb dX10_lay_37 (lv_at hl 0 rfl) ?_
  refine lv_if_eq (tgt := 56) hx hb dX10_lay_39 (by decide) (fun hv1 => ?_) (fun hv1 => ?_)
  · replace hF := (if_pos hv1).symm.trans hF
    exact kb_X10_lay_b56 C hF hW hS (lv_sub hl [] rfl)
  · replace hF := (if_neg hv1).symm.trans hF
    refine lv_aload_n hx hb dX10_lay_42 rfl (lv_at hl 1 rfl) ?_
    refine pw_gR C hW pc_9 (k := 28) (by decide) rfl tq_946 dX10_lay_43 hF (fun av2 hF => ?_)
    refine lv_iload_n hx hb dX10_lay_46 rfl (lv_at hl 2 rfl) ?_
    refine lv_iload_n hx hb dX10_lay_47 rfl (lv_at hl 3 rfl) ?_
    refine pw_xI C hW hS dX10_lay_48 hF (fun M H locs hW hS hF => ?_)
    refine lv_aload_n hx hb dX10_lay_49 rfl (lv_at hl 1 rfl) ?_
    refine pw_gR C hW pc_9 (k := 30) (by decide) rfl tq_948 dX10_lay_50 hF (fun av3 hF => ?_)
    refine lv_iload_n hx hb dX10_lay_53 rfl (lv_at hl 2 rfl) ?_
    refine lv_iload_n hx hb dX10_lay_54 rfl (lv_at hl 4 rfl) ?_
    refine pw_xI C hW hS dX10_lay_55 hF (fun M H locs hW hS hF => ?_)
    exact kb_X10_lay_b56 C hF hW hS (lv_sub hl [] rfl)
set_option maxRecDepth 100000 in
set_option maxHeartbeats 4000000 in
theorem kb_X10_lay_b30 (C : ps_C p s m args meth c cX10_lay 5 RX10 none "lay" D Y B) {q : ps_M}  {M : ps_M} {a0 : Nat} {x1 : Int32} {x2 : Int32} {x3 : Int32} (hF : f_X10_lay_b30 M a0 x1 x2 x3 = some q) (hW : ps_W D Y B M H) (hS : va_S (fun q => B ≤ q) s.heap H locs) (hl : lv_has ls 5 [(0, .ref (B + a0)), (1, .int x1), (2, .int x2), (3, .int x3)]) : W p l e rm_X10_lay s m args below meth c H locs 0 0 (ps_Qv D Y B below args s 0 0 q) (F0 m 30 ls []) := by
  have hx := C.1
  have hb := C.2.1
  have hml := C.2.2.1
  have hown := C.2.2.2.1
  have hts := C.2.2.2.2.1
  unfold f_X10_lay_b30 at hF
  refine lv_iconst (v := 1) hx hb dX10_lay_30 (by decide) ?_
  refine lv_goto (tgt := 35) hx hb dX10_lay_31 (by decide) ?_
  exact kb_X10_lay_b35 C hF hW hS (lv_sub hl [0, 1, 2, 3] rfl)
set_option maxRecDepth 100000 in
set_option maxHeartbeats 4000000 in
theorem kb_X10_lay_b34 (C : ps_C p s m args meth c cX10_lay 5 RX10 none "lay" D Y B) {q : ps_M}  {M : ps_M} {a0 : Nat} {x1 : Int32} {x2 : Int32} {x3 : Int32} (hF : f_X10_lay_b34 M a0 x1 x2 x3 = some q) (hW : ps_W D Y B M H) (hS : va_S (fun q => B ≤ q) s.heap H locs) (hl : lv_has ls 5 [(0, .ref (B + a0)), (1, .int x1), (2, .int x2), (3, .int x3)]) : W p l e rm_X10_lay s m args below meth c H locs 0 0 (ps_Qv D Y B below args s 0 0 q) (F0 m 34 ls []) := by
  have hx := C.1
  have hb := C.2.1
  have hml := C.2.2.1
  have hown := C.2.2.2.1
  have hts := C.2.2.2.2.1
  unfold f_X10_lay_b34 at hF
  refine lv_iconst (v := 0) hx hb dX10_lay_34 (by decide) ?_
  exact kb_X10_lay_b35 C hF hW hS (lv_sub hl [0, 1, 2, 3] rfl)
set_option maxRecDepth 100000 in
set_option maxHeartbeats 4000000 in
theorem kb_X10_lay (C : ps_C p s m args meth c cX10_lay 5 RX10 none "lay" D Y B) {q : ps_M}  {M : ps_M} {a0 : Nat} {x1 : Int32} {x2 : Int32} {x3 : Int32} (hF : f_X10_lay M a0 x1 x2 x3 = some q) (hW : ps_W D Y B M H) (hS : va_S (fun q => B ≤ q) s.heap H locs) (hl : lv_has ls 5 [(0, .ref (B + a0)), (1, .int x1), (2, .int x2), (3, .int x3)]) : W p l e rm_X10_lay s m args below meth c H locs 0 0 (ps_Qv D Y B below args s 0 0 q) (F0 m 0 ls []) := by
  have hx := C.1
  have hb := C.2.1
  have hml := C.2.2.1
  have hown := C.2.2.2.1
  have hts := C.2.2.2.2.1
  unfold f_X10_lay at hF
  refine lv_iload_n hx hb dX10_lay_0 rfl (lv_at hl 2 rfl) ?_
  refine lv_aload_n hx hb dX10_lay_1 rfl (lv_at hl 0 rfl) ?_
  refine pw_gR C hW pc_9 (k := 28) (by decide) rfl tq_946 dX10_lay_2 hF (fun av4 hF => ?_)
  refine lv_iload_n hx hb dX10_lay_5 rfl (lv_at hl 1 rfl) ?_
  refine pw_aI C hW dX10_lay_6 hF (fun xv5 hF => ?_)
  refine lv_icmp_lt (tgt := 30) hx hb dX10_lay_7 (by decide) (fun hv6 => ?_) (fun hv6 => ?_)
  · replace hF := (if_pos hv6).symm.trans hF
    exact kb_X10_lay_b30 C hF hW hS (lv_sub hl [0, 1, 2, 3] rfl)
  · replace hF := (if_neg hv6).symm.trans hF
    refine lv_iload_n hx hb dX10_lay_10 rfl (lv_at hl 2 rfl) ?_
    refine lv_aload_n hx hb dX10_lay_11 rfl (lv_at hl 0 rfl) ?_
    refine pw_gR C hW pc_9 (k := 28) (by decide) rfl tq_946 dX10_lay_12 hF (fun av7 hF => ?_)
    refine lv_iload_n hx hb dX10_lay_15 rfl (lv_at hl 1 rfl) ?_
    refine pw_aI C hW dX10_lay_16 hF (fun xv8 hF => ?_)
    refine lv_icmp_ne (tgt := 34) hx hb dX10_lay_17 (by decide) (fun hv9 => ?_) (fun hv9 => ?_)
    · replace hF := (if_neg hv9).symm.trans hF
      exact kb_X10_lay_b34 C hF hW hS (lv_sub hl [0, 1, 2, 3] rfl)
    · replace hF := (if_pos hv9).symm.trans hF
      refine lv_iload_n hx hb dX10_lay_20 rfl (lv_at hl 3 rfl) ?_
      refine lv_aload_n hx hb dX10_lay_21 rfl (lv_at hl 0 rfl) ?_
      refine pw_gR C hW pc_9 (k := 30) (by decide) rfl tq_948 dX10_lay_22 hF (fun av10 hF => ?_)
      refine lv_iload_n hx hb dX10_lay_25 rfl (lv_at hl 1 rfl) ?_
      refine pw_aI C hW dX10_lay_26 hF (fun xv11 hF => ?_)
      refine lv_icmp_le (tgt := 34) hx hb dX10_lay_27 (by decide) (fun hv12 => ?_) (fun hv12 => ?_)
      · replace hF := (if_pos hv12).symm.trans hF
        exact kb_X10_lay_b34 C hF hW hS (lv_sub hl [0, 1, 2, 3] rfl)
      · replace hF := (if_neg hv12).symm.trans hF
        exact kb_X10_lay_b30 C hF hW hS (lv_sub hl [0, 1, 2, 3] rfl)
theorem mf_X10_lay : ps_mf yX10_lay cX10_lay 5 none 3 := ⟨tq_1256, tq_71, by decide +kernel, by decide +kernel, by decide +kernel⟩
theorem c_X10_lay {l : Launch} {D : va_G} {Y : ps_A} {B : Nat} {M : ps_M} {a0 : Nat} {x1 : Int32} {x2 : Int32} {x3 : Int32} {M' : ps_M} (hF : f_X10_lay M a0 x1 x2 x3 = some M') : Met l yX10_lay (Cond.code yX10_lay cX10_lay 5 none :: tb_G) rm_X10_lay (ps_PB D Y B M [.ref (B + a0), .int x1, .int x2, .int x3]) (va_Qv (fun (_ : Unit) => True) (fun _ t => ps_St D Y B M' t) (fun q => B ≤ q)) 0 0 (fun q => B ≤ q) :=
  pm_of (by decide +kernel) (Nat.le_of_ble_eq_true rfl) (fun p e s m args below meth c C hW hS ls hl => kb_X10_lay C hF hW hS hl)

abbrev rm_X10_changes : Room := { frames := 1, cells := 0, slots := 0, locals := 25 }
def f_X10_changes_b34 (M : ps_M)  : Option (Int32 × ps_M) := some ((-1000000002 : Int32), M)
def f_X10_changes_b302 (k122 : ps_M → Nat → Int32 → Int32 → Int32 → Int32 → Int32 → Option (Int32 × ps_M)) (k165 : ps_M → Nat → Int32 → Int32 → Int32 → Int32 → Int32 → Int32 → Option (Int32 × ps_M)) (k176 : ps_M → Nat → Int32 → Int32 → Int32 → Int32 → Int32 → Int32 → Int32 → Option (Int32 × ps_M)) (M : ps_M) (a0 : Nat) (x1 : Int32) (x2 : Int32) (x3 : Int32) (x4 : Int32) (x5 : Int32) (x6 : Int32) (x7 : Int32) : Option (Int32 × ps_M) := ps_v (x7 + 1) (fun xv1 => k176 M a0 x1 x2 x3 x4 x5 x6 xv1)
def f_X10_changes_b299 (k122 : ps_M → Nat → Int32 → Int32 → Int32 → Int32 → Int32 → Option (Int32 × ps_M)) (k165 : ps_M → Nat → Int32 → Int32 → Int32 → Int32 → Int32 → Int32 → Option (Int32 × ps_M)) (k176 : ps_M → Nat → Int32 → Int32 → Int32 → Int32 → Int32 → Int32 → Int32 → Option (Int32 × ps_M)) (M : ps_M) (a0 : Nat) (x1 : Int32) (x2 : Int32) (x3 : Int32) (x4 : Int32) (x5 : Int32) (x6 : Int32) (x7 : Int32) (t0 : Nat) (t1 : Int32) (t2 : Int32) (t3 : Int32) : Option (Int32 × ps_M) := ps_ck M t0 9 (ps_b1 (f_X10_lay M t0 t1 t2 t3) (fun M => f_X10_changes_b302 k122 k165 k176 M a0 x1 x2 x3 x4 x5 x6 x7))
def f_X10_changes_b292 (k122 : ps_M → Nat → Int32 → Int32 → Int32 → Int32 → Int32 → Option (Int32 × ps_M)) (k165 : ps_M → Nat → Int32 → Int32 → Int32 → Int32 → Int32 → Int32 → Option (Int32 × ps_M)) (k176 : ps_M → Nat → Int32 → Int32 → Int32 → Int32 → Int32 → Int32 → Int32 → Option (Int32 × ps_M)) (M : ps_M) (a0 : Nat) (x1 : Int32) (x2 : Int32) (x3 : Int32) (x4 : Int32) (x5 : Int32) (x6 : Int32) (x7 : Int32) (t0 : Nat) (t1 : Int32) (t2 : Int32) : Option (Int32 × ps_M) := ps_gR M a0 9 29 (fun av2 => ps_aI M av2 x6 (fun xv3 => f_X10_changes_b299 k122 k165 k176 M a0 x1 x2 x3 x4 x5 x6 x7 t0 t1 t2 xv3))
def f_X10_changes_b224 (k122 : ps_M → Nat → Int32 → Int32 → Int32 → Int32 → Int32 → Option (Int32 × ps_M)) (k165 : ps_M → Nat → Int32 → Int32 → Int32 → Int32 → Int32 → Int32 → Option (Int32 × ps_M)) (k176 : ps_M → Nat → Int32 → Int32 → Int32 → Int32 → Int32 → Int32 → Int32 → Option (Int32 × ps_M)) (M : ps_M) (a0 : Nat) (x1 : Int32) (x2 : Int32) (x3 : Int32) (x4 : Int32) (x5 : Int32) (x6 : Int32) (x7 : Int32) (x8 : Int32) (t0 : Int32) (t1 : Int32) : Option (Int32 × ps_M) := ps_v ((t0 + t1)) (fun xv4 => ps_gR M a0 9 0 (fun av5 => ps_aI M av5 (21 : Int32) (fun xv6 => ps_b2 (f_X10_in M ((xv6 + xv4).toInt64) ((-x2).toInt64) (x2.toInt64)) (fun xv7 M => if xv7 = 0 then (f_X10_changes_b302 k122 k165 k176 M a0 x1 x2 x3 x4 x5 x6 x7) else (ps_gR M a0 9 27 (fun av9 => ps_aI M av9 x6 (fun xv10 => if x7 = (1 : Int32) then (ps_gR M a0 9 27 (fun av12 => ps_aI M av12 x6 (fun xv13 => if xv13 = 0 then (f_X10_changes_b299 k122 k165 k176 M a0 x1 x2 x3 x4 x5 x6 x7 a0 (((2 : Int32) * (xv4 + (301 : Int32))) + x8) (xv10 + x7) x5) else (f_X10_changes_b292 k122 k165 k176 M a0 x1 x2 x3 x4 x5 x6 x7 a0 (((2 : Int32) * (xv4 + (301 : Int32))) + x8) (xv10 + x7))))) else (f_X10_changes_b292 k122 k165 k176 M a0 x1 x2 x3 x4 x5 x6 x7 a0 (((2 : Int32) * (xv4 + (301 : Int32))) + x8) (xv10 + x7)))))))))
def f_X10_changes_b308 (k122 : ps_M → Nat → Int32 → Int32 → Int32 → Int32 → Int32 → Option (Int32 × ps_M)) (k165 : ps_M → Nat → Int32 → Int32 → Int32 → Int32 → Int32 → Int32 → Option (Int32 × ps_M)) (M : ps_M) (a0 : Nat) (x1 : Int32) (x2 : Int32) (x3 : Int32) (x4 : Int32) (x5 : Int32) (x6 : Int32) : Option (Int32 × ps_M) := ps_v (x6 + 1) (fun xv15 => k165 M a0 x1 x2 x3 x4 x5 xv15)
def f_X10_changes_w176 (k122 : ps_M → Nat → Int32 → Int32 → Int32 → Int32 → Int32 → Option (Int32 × ps_M)) (k165 : ps_M → Nat → Int32 → Int32 → Int32 → Int32 → Int32 → Int32 → Option (Int32 × ps_M)) (k176 : ps_M → Nat → Int32 → Int32 → Int32 → Int32 → Int32 → Int32 → Int32 → Option (Int32 × ps_M)) (M : ps_M) (a0 : Nat) (x1 : Int32) (x2 : Int32) (x3 : Int32) (x4 : Int32) (x5 : Int32) (x6 : Int32) (x7 : Int32) : Option (Int32 × ps_M) := if (2 : Int32) ≤ x7 then (f_X10_changes_b308 k122 k165 M a0 x1 x2 x3 x4 x5 x6) else (ps_gR M a0 9 27 (fun av17 => ps_aI M av17 x6 (fun xv18 => if (99999999 : Int32) ≤ xv18 then (f_X10_changes_b308 k122 k165 M a0 x1 x2 x3 x4 x5 x6) else (ps_v (((x6 + x7) - (x6 + x7) / (2 : Int32) * (2 : Int32))) (fun xv20 => if xv20 = 0 then (f_X10_changes_b224 k122 k165 k176 M a0 x1 x2 x3 x4 x5 x6 x7 xv20 ((x6 / (2 : Int32)) - (301 : Int32)) x4) else (f_X10_changes_b224 k122 k165 k176 M a0 x1 x2 x3 x4 x5 x6 x7 xv20 ((x6 / (2 : Int32)) - (301 : Int32)) (-x4)))))))
def f_X10_changes_l176 (k122 : ps_M → Nat → Int32 → Int32 → Int32 → Int32 → Int32 → Option (Int32 × ps_M)) (k165 : ps_M → Nat → Int32 → Int32 → Int32 → Int32 → Int32 → Int32 → Option (Int32 × ps_M)) : Nat → ps_M → Nat → Int32 → Int32 → Int32 → Int32 → Int32 → Int32 → Int32 → Option (Int32 × ps_M)
  | 0, _, _, _, _, _, _, _, _, _ => none
  | n + 1, M, a0, x1, x2, x3, x4, x5, x6, x7 => f_X10_changes_w176 k122 k165 (f_X10_changes_l176 k122 k165 n) M a0 x1 x2 x3 x4 x5 x6 x7
def f_X10_changes_w317 (k122 : ps_M → Nat → Int32 → Int32 → Int32 → Int32 → Int32 → Option (Int32 × ps_M)) (k317 : ps_M → Nat → Int32 → Int32 → Int32 → Int32 → Int32 → Int32 → Option (Int32 × ps_M)) (M : ps_M) (a0 : Nat) (x1 : Int32) (x2 : Int32) (x3 : Int32) (x4 : Int32) (x5 : Int32) (x6 : Int32) : Option (Int32 × ps_M) := if (1204 : Int32) ≤ x6 then (ps_v (x5 + 1) (fun xv23 => k122 M a0 x1 x2 x3 x4 xv23)) else (ps_gR M a0 9 27 (fun av24 => ps_gR M a0 9 28 (fun av25 => ps_aI M av25 x6 (fun xv26 => ps_xI M av24 x6 xv26 (fun M => ps_gR M a0 9 29 (fun av27 => ps_gR M a0 9 30 (fun av28 => ps_aI M av28 x6 (fun xv29 => ps_xI M av27 x6 xv29 (fun M => ps_v (x6 + 1) (fun xv30 => k317 M a0 x1 x2 x3 x4 x5 xv30))))))))))
def f_X10_changes_l317 (k122 : ps_M → Nat → Int32 → Int32 → Int32 → Int32 → Int32 → Option (Int32 × ps_M)) : Nat → ps_M → Nat → Int32 → Int32 → Int32 → Int32 → Int32 → Int32 → Option (Int32 × ps_M)
  | 0, _, _, _, _, _, _, _, _ => none
  | n + 1, M, a0, x1, x2, x3, x4, x5, x6 => f_X10_changes_w317 k122 (f_X10_changes_l317 k122 n) M a0 x1 x2 x3 x4 x5 x6
def f_X10_changes_w165 (k122 : ps_M → Nat → Int32 → Int32 → Int32 → Int32 → Int32 → Option (Int32 × ps_M)) (k165 : ps_M → Nat → Int32 → Int32 → Int32 → Int32 → Int32 → Int32 → Option (Int32 × ps_M)) (M : ps_M) (a0 : Nat) (x1 : Int32) (x2 : Int32) (x3 : Int32) (x4 : Int32) (x5 : Int32) (x6 : Int32) : Option (Int32 × ps_M) := if (1204 : Int32) ≤ x6 then (f_X10_changes_l317 k122 ps_fu M a0 x1 x2 x3 x4 x5 (0 : Int32)) else (f_X10_changes_l176 k122 k165 ps_fu M a0 x1 x2 x3 x4 x5 x6 (0 : Int32))
def f_X10_changes_l165 (k122 : ps_M → Nat → Int32 → Int32 → Int32 → Int32 → Int32 → Option (Int32 × ps_M)) : Nat → ps_M → Nat → Int32 → Int32 → Int32 → Int32 → Int32 → Int32 → Option (Int32 × ps_M)
  | 0, _, _, _, _, _, _, _, _ => none
  | n + 1, M, a0, x1, x2, x3, x4, x5, x6 => f_X10_changes_w165 k122 (f_X10_changes_l165 k122 n) M a0 x1 x2 x3 x4 x5 x6
def f_X10_changes_w131 (k122 : ps_M → Nat → Int32 → Int32 → Int32 → Int32 → Int32 → Option (Int32 × ps_M)) (k131 : ps_M → Nat → Int32 → Int32 → Int32 → Int32 → Int32 → Int32 → Option (Int32 × ps_M)) (M : ps_M) (a0 : Nat) (x1 : Int32) (x2 : Int32) (x3 : Int32) (x4 : Int32) (x5 : Int32) (x6 : Int32) : Option (Int32 × ps_M) := if (1204 : Int32) ≤ x6 then (f_X10_changes_l165 k122 ps_fu M a0 x1 x2 x3 x4 x5 (0 : Int32)) else (ps_gR M a0 9 28 (fun av33 => ps_xI M av33 x6 (99999999 : Int32) (fun M => ps_gR M a0 9 30 (fun av34 => ps_xI M av34 x6 (-1 : Int32) (fun M => ps_v (x6 + 1) (fun xv35 => k131 M a0 x1 x2 x3 x4 x5 xv35))))))
def f_X10_changes_l131 (k122 : ps_M → Nat → Int32 → Int32 → Int32 → Int32 → Int32 → Option (Int32 × ps_M)) : Nat → ps_M → Nat → Int32 → Int32 → Int32 → Int32 → Int32 → Int32 → Option (Int32 × ps_M)
  | 0, _, _, _, _, _, _, _, _ => none
  | n + 1, M, a0, x1, x2, x3, x4, x5, x6 => f_X10_changes_w131 k122 (f_X10_changes_l131 k122 n) M a0 x1 x2 x3 x4 x5 x6
def f_X10_changes_b437 (k375 : ps_M → Nat → Int32 → Int32 → Int32 → Int32 → Option (Int32 × ps_M)) (M : ps_M) (a0 : Nat) (x3 : Int32) (x5 : Int32) (x6 : Int32) (x7 : Int32) : Option (Int32 × ps_M) := ps_v (x7 + 1) (fun xv36 => k375 M a0 x3 x5 x6 xv36)
def f_X10_changes_b419 (k375 : ps_M → Nat → Int32 → Int32 → Int32 → Int32 → Option (Int32 × ps_M)) (M : ps_M) (a0 : Nat) (x3 : Int32) (x7 : Int32) : Option (Int32 × ps_M) := ps_gR M a0 9 27 (fun av37 => ps_aI M av37 x7 (fun xv38 => ps_gR M a0 9 29 (fun av39 => ps_aI M av39 x7 (fun xv40 => f_X10_changes_b437 k375 M a0 x3 xv38 xv40 x7))))
def f_X10_changes_b474 (M : ps_M) (t0 : Int32) : Option (Int32 × ps_M) := some (t0, M)
def f_X10_changes_w375 (k375 : ps_M → Nat → Int32 → Int32 → Int32 → Int32 → Option (Int32 × ps_M)) (M : ps_M) (a0 : Nat) (x3 : Int32) (x5 : Int32) (x6 : Int32) (x7 : Int32) : Option (Int32 × ps_M) := if (1204 : Int32) ≤ x7 then (if x5 = (99999999 : Int32) then (f_X10_changes_b474 M (-1 : Int32)) else (if x3 = 0 then (f_X10_changes_b474 M x5) else (if x5 = 0 then (f_X10_changes_b474 M (-1 : Int32)) else (f_X10_changes_b474 M x6)))) else (ps_gR M a0 9 27 (fun av45 => ps_aI M av45 x7 (fun xv46 => if xv46 < x5 then (f_X10_changes_b419 k375 M a0 x3 x7) else (ps_gR M a0 9 27 (fun av48 => ps_aI M av48 x7 (fun xv49 => if xv49 = x5 then (ps_gR M a0 9 29 (fun av51 => ps_aI M av51 x7 (fun xv52 => if xv52 ≤ x6 then (f_X10_changes_b437 k375 M a0 x3 x5 x6 x7) else (f_X10_changes_b419 k375 M a0 x3 x7)))) else (f_X10_changes_b437 k375 M a0 x3 x5 x6 x7)))))))
def f_X10_changes_l375 : Nat → ps_M → Nat → Int32 → Int32 → Int32 → Int32 → Option (Int32 × ps_M)
  | 0, _, _, _, _, _, _ => none
  | n + 1, M, a0, x3, x5, x6, x7 => f_X10_changes_w375 (f_X10_changes_l375 n) M a0 x3 x5 x6 x7
def f_X10_changes_w122 (k122 : ps_M → Nat → Int32 → Int32 → Int32 → Int32 → Int32 → Option (Int32 × ps_M)) (M : ps_M) (a0 : Nat) (x1 : Int32) (x2 : Int32) (x3 : Int32) (x4 : Int32) (x5 : Int32) : Option (Int32 × ps_M) := if x1 ≤ x5 then (f_X10_changes_l375 ps_fu M a0 x3 (99999999 : Int32) (-1 : Int32) (0 : Int32)) else (f_X10_changes_l131 k122 ps_fu M a0 x1 x2 x3 x4 x5 (0 : Int32))
def f_X10_changes_l122 : Nat → ps_M → Nat → Int32 → Int32 → Int32 → Int32 → Int32 → Option (Int32 × ps_M)
  | 0, _, _, _, _, _, _, _ => none
  | n + 1, M, a0, x1, x2, x3, x4, x5 => f_X10_changes_w122 (f_X10_changes_l122 n) M a0 x1 x2 x3 x4 x5
def f_X10_changes_w77 (k77 : ps_M → Nat → Int32 → Int32 → Int32 → Int32 → Int32 → Option (Int32 × ps_M)) (M : ps_M) (a0 : Nat) (x1 : Int32) (x2 : Int32) (x3 : Int32) (x4 : Int32) (x5 : Int32) : Option (Int32 × ps_M) := if (1204 : Int32) ≤ x5 then (ps_gR M a0 9 27 (fun av56 => ps_xI M av56 (602 : Int32) (0 : Int32) (fun M => ps_gR M a0 9 29 (fun av57 => ps_xI M av57 (602 : Int32) (99 : Int32) (fun M => f_X10_changes_l122 ps_fu M a0 x1 x2 x3 x4 (0 : Int32)))))) else (ps_gR M a0 9 27 (fun av58 => ps_xI M av58 x5 (99999999 : Int32) (fun M => ps_v (x5 + 1) (fun xv59 => k77 M a0 x1 x2 x3 x4 xv59))))
def f_X10_changes_l77 : Nat → ps_M → Nat → Int32 → Int32 → Int32 → Int32 → Int32 → Option (Int32 × ps_M)
  | 0, _, _, _, _, _, _, _ => none
  | n + 1, M, a0, x1, x2, x3, x4, x5 => f_X10_changes_w77 (f_X10_changes_l77 n) M a0 x1 x2 x3 x4 x5
def f_X10_changes (M : ps_M) (a0 : Nat) (x1 : Int32) (x2 : Int32) (x3 : Int32) : Option (Int32 × ps_M) := ps_b2 (f_X10_in M (x1.toInt64) (1 : Int64) (30 : Int64)) (fun xv60 M => if xv60 = 0 then (f_X10_changes_b34 M ) else (ps_b2 (f_X10_in M (x2.toInt64) (0 : Int64) (999 : Int64)) (fun xv62 M => if xv62 = 0 then (f_X10_changes_b34 M ) else (ps_b2 (f_X10_in M (x3.toInt64) (0 : Int64) (1 : Int64)) (fun xv64 M => if xv64 = 0 then (f_X10_changes_b34 M ) else (ps_ck M a0 9 (ps_b2 (f_X10_isPair M a0 ) (fun xv66 M => if xv66 = 0 then (some ((-1000000003 : Int32), M)) else (ps_gR M a0 9 16 (fun av68 => ps_gR M a0 9 0 (fun av69 => ps_aI M av69 (16 : Int32) (fun xv70 => ps_aI M av68 xv70 (fun xv71 => ps_gR M a0 9 16 (fun av72 => ps_gR M a0 9 0 (fun av73 => ps_aI M av73 (17 : Int32) (fun xv74 => ps_aI M av72 xv74 (fun xv75 => ps_v ((xv71 - xv75)) (fun xv76 => f_X10_changes_l77 ps_fu M a0 x1 x2 x3 xv76 (0 : Int32)))))))))))))))))))
set_option maxRecDepth 100000 in
set_option maxHeartbeats 4000000 in
theorem kb_X10_changes_b34 (C : ps_C p s m args meth c cX10_changes 10 RX10 ((some .int)) "changes" D Y B) {q : Int32 × ps_M}  {M : ps_M}  (hF : f_X10_changes_b34 M  = some q) (hW : ps_W D Y B M H) (hS : va_S (fun q => B ≤ q) s.heap H locs) (hl : lv_has ls 10 []) : W p l e rm_X10_changes s m args below meth c H locs 0 0 (ps_Qi D Y B below args s 0 0 q) (F0 m 34 ls []) := by
  have hx := C.1
  have hb := C.2.1
  have hml := C.2.2.1
  have hown := C.2.2.2.1
  have hts := C.2.2.2.2.1
  unfold f_X10_changes_b34 at hF
  refine lv_ldc (v := -1000000002) hx hb hown (hts _ tq_1033) dX10_changes_34 ?_
  exact pw_iret C hW hS dX10_changes_36 hF
set_option maxRecDepth 100000 in
set_option maxHeartbeats 4000000 in
theorem kb_X10_changes_b302 (C : ps_C p s m args meth c cX10_changes 10 RX10 ((some .int)) "changes" D Y B) {q : Int32 × ps_M} (k122 : ps_M → Nat → Int32 → Int32 → Int32 → Int32 → Int32 → Option (Int32 × ps_M)) (hk122 : ∀ (M : ps_M) (H : Heap) (locs : List Loc) (ls : Array Slot) (a0 : Nat) (x1 : Int32) (x2 : Int32) (x3 : Int32) (x4 : Int32) (x5 : Int32), k122 M a0 x1 x2 x3 x4 x5 = some q → ps_W D Y B M H → va_S (fun q => B ≤ q) s.heap H locs → lv_has ls 10 [(0, .ref (B + a0)), (1, .int x1), (2, .int x2), (3, .int x3), (4, .int x4), (5, .int x5)] → W p l e rm_X10_changes s m args below meth c H locs 0 0 (ps_Qi D Y B below args s 0 0 q) (F0 m 122 ls [])) (k165 : ps_M → Nat → Int32 → Int32 → Int32 → Int32 → Int32 → Int32 → Option (Int32 × ps_M)) (hk165 : ∀ (M : ps_M) (H : Heap) (locs : List Loc) (ls : Array Slot) (a0 : Nat) (x1 : Int32) (x2 : Int32) (x3 : Int32) (x4 : Int32) (x5 : Int32) (x6 : Int32), k165 M a0 x1 x2 x3 x4 x5 x6 = some q → ps_W D Y B M H → va_S (fun q => B ≤ q) s.heap H locs → lv_has ls 10 [(0, .ref (B + a0)), (1, .int x1), (2, .int x2), (3, .int x3), (4, .int x4), (5, .int x5), (6, .int x6)] → W p l e rm_X10_changes s m args below meth c H locs 0 0 (ps_Qi D Y B below args s 0 0 q) (F0 m 165 ls [])) (k176 : ps_M → Nat → Int32 → Int32 → Int32 → Int32 → Int32 → Int32 → Int32 → Option (Int32 × ps_M)) (hk176 : ∀ (M : ps_M) (H : Heap) (locs : List Loc) (ls : Array Slot) (a0 : Nat) (x1 : Int32) (x2 : Int32) (x3 : Int32) (x4 : Int32) (x5 : Int32) (x6 : Int32) (x7 : Int32), k176 M a0 x1 x2 x3 x4 x5 x6 x7 = some q → ps_W D Y B M H → va_S (fun q => B ≤ q) s.heap H locs → lv_has ls 10 [(0, .ref (B + a0)), (1, .int x1), (2, .int x2), (3, .int x3), (4, .int x4), (5, .int x5), (6, .int x6), (7, .int x7)] → W p l e rm_X10_changes s m args below meth c H locs 0 0 (ps_Qi D Y B below args s 0 0 q) (F0 m 176 ls [])) {M : ps_M} {a0 : Nat} {x1 : Int32} {x2 : Int32} {x3 : Int32} {x4 : Int32} {x5 : Int32} {x6 : Int32} {x7 : Int32} (hF : f_X10_changes_b302 k122 k165 k176 M a0 x1 x2 x3 x4 x5 x6 x7 = some q) (hW : ps_W D Y B M H) (hS : va_S (fun q => B ≤ q) s.heap H locs) (hl : lv_has ls 10 [(0, .ref (B + a0)), (1, .int x1), (2, .int x2), (3, .int x3), (4, .int x4), (5, .int x5), (6, .int x6), (7, .int x7)]) : W p l e rm_X10_changes s m args below meth c H locs 0 0 (ps_Qi D Y B below args s 0 0 q) (F0 m 302 ls []) := by
  have hx := C.1
  have hb := C.2.1
  have hml := C.2.2.1
  have hown := C.2.2.2.1
  have hts := C.2.2.2.2.1
  unfold f_X10_changes_b302 at hF
  obtain ⟨xv1, exv1, hF⟩ := ps_ve hF
  refine lv_iinc (v := xv1) (lv' := [(7, .int xv1), (0, .ref (B + a0)), (1, .int x1), (2, .int x2), (3, .int x3), (4, .int x4), (5, .int x5), (6, .int x6)]) hx hb dX10_changes_302 hl (k := 7) rfl (by rw [exv1]; rfl) (by decide) rfl (fun ls hl => ?_)
  clear exv1
  refine lv_goto (tgt := 176) hx hb dX10_changes_305 (by decide) ?_
  exact hk176 M _ _ _ a0 x1 x2 x3 x4 x5 x6 xv1 hF hW hS (lv_sub hl [1, 2, 3, 4, 5, 6, 7, 0] rfl)
set_option maxRecDepth 100000 in
set_option maxHeartbeats 4000000 in
theorem kb_X10_changes_b299 (C : ps_C p s m args meth c cX10_changes 10 RX10 ((some .int)) "changes" D Y B) {q : Int32 × ps_M} (k122 : ps_M → Nat → Int32 → Int32 → Int32 → Int32 → Int32 → Option (Int32 × ps_M)) (hk122 : ∀ (M : ps_M) (H : Heap) (locs : List Loc) (ls : Array Slot) (a0 : Nat) (x1 : Int32) (x2 : Int32) (x3 : Int32) (x4 : Int32) (x5 : Int32), k122 M a0 x1 x2 x3 x4 x5 = some q → ps_W D Y B M H → va_S (fun q => B ≤ q) s.heap H locs → lv_has ls 10 [(0, .ref (B + a0)), (1, .int x1), (2, .int x2), (3, .int x3), (4, .int x4), (5, .int x5)] → W p l e rm_X10_changes s m args below meth c H locs 0 0 (ps_Qi D Y B below args s 0 0 q) (F0 m 122 ls [])) (k165 : ps_M → Nat → Int32 → Int32 → Int32 → Int32 → Int32 → Int32 → Option (Int32 × ps_M)) (hk165 : ∀ (M : ps_M) (H : Heap) (locs : List Loc) (ls : Array Slot) (a0 : Nat) (x1 : Int32) (x2 : Int32) (x3 : Int32) (x4 : Int32) (x5 : Int32) (x6 : Int32), k165 M a0 x1 x2 x3 x4 x5 x6 = some q → ps_W D Y B M H → va_S (fun q => B ≤ q) s.heap H locs → lv_has ls 10 [(0, .ref (B + a0)), (1, .int x1), (2, .int x2), (3, .int x3), (4, .int x4), (5, .int x5), (6, .int x6)] → W p l e rm_X10_changes s m args below meth c H locs 0 0 (ps_Qi D Y B below args s 0 0 q) (F0 m 165 ls [])) (k176 : ps_M → Nat → Int32 → Int32 → Int32 → Int32 → Int32 → Int32 → Int32 → Option (Int32 × ps_M)) (hk176 : ∀ (M : ps_M) (H : Heap) (locs : List Loc) (ls : Array Slot) (a0 : Nat) (x1 : Int32) (x2 : Int32) (x3 : Int32) (x4 : Int32) (x5 : Int32) (x6 : Int32) (x7 : Int32), k176 M a0 x1 x2 x3 x4 x5 x6 x7 = some q → ps_W D Y B M H → va_S (fun q => B ≤ q) s.heap H locs → lv_has ls 10 [(0, .ref (B + a0)), (1, .int x1), (2, .int x2), (3, .int x3), (4, .int x4), (5, .int x5), (6, .int x6), (7, .int x7)] → W p l e rm_X10_changes s m args below meth c H locs 0 0 (ps_Qi D Y B below args s 0 0 q) (F0 m 176 ls [])) {M : ps_M} {a0 : Nat} {x1 : Int32} {x2 : Int32} {x3 : Int32} {x4 : Int32} {x5 : Int32} {x6 : Int32} {x7 : Int32} {t0 : Nat} {t1 : Int32} {t2 : Int32} {t3 : Int32} (hF : f_X10_changes_b299 k122 k165 k176 M a0 x1 x2 x3 x4 x5 x6 x7 t0 t1 t2 t3 = some q) (hW : ps_W D Y B M H) (hS : va_S (fun q => B ≤ q) s.heap H locs) (hl : lv_has ls 10 [(0, .ref (B + a0)), (1, .int x1), (2, .int x2), (3, .int x3), (4, .int x4), (5, .int x5), (6, .int x6), (7, .int x7)]) : W p l e rm_X10_changes s m args below meth c H locs 0 0 (ps_Qi D Y B below args s 0 0 q) (F0 m 299 ls [.int t3, .int t2, .int t1, .ref (B + t0)]) := by
  have hx := C.1
  have hb := C.2.1
  have hml := C.2.2.1
  have hown := C.2.2.2.1
  have hts := C.2.2.2.2.1
  unfold f_X10_changes_b299 at hF
  obtain ⟨hK, hF⟩ := ps_ck_some hF
  obtain ⟨M9, hc, hF⟩ := ps_b1_some hF
  refine ps_backV (M' := M9) hS (ps_callV C hW pc_9 mf_X10_lay tq_1255 tq_57 tq_1253 ⟨Nat.le_of_ble_eq_true rfl, Nat.le_of_ble_eq_true rfl⟩ rfl rfl (As := [.int t1, .int t2, .int t3]) (rest := []) (c_X10_lay hc) hK rfl hl.1 rfl (Nat.le_of_ble_eq_true rfl) dX10_changes_299 ⟨Nat.le_of_ble_eq_true rfl, Nat.le_of_ble_eq_true rfl⟩) (fun H locs hW hS => ?_)
  clear hc
  generalize M9 = M at hW hF
  exact kb_X10_changes_b302 C k122 hk122 k165 hk165 k176 hk176 hF hW hS (lv_sub hl [0, 1, 2, 3, 4, 5, 6, 7] rfl)
set_option maxRecDepth 100000 in
set_option maxHeartbeats 4000000 in
theorem kb_X10_changes_b292 (C : ps_C p s m args meth c cX10_changes 10 RX10 ((some .int)) "changes" D Y B) {q : Int32 × ps_M} (k122 : ps_M → Nat → Int32 → Int32 → Int32 → Int32 → Int32 → Option (Int32 × ps_M)) (hk122 : ∀ (M : ps_M) (H : Heap) (locs : List Loc) (ls : Array Slot) (a0 : Nat) (x1 : Int32) (x2 : Int32) (x3 : Int32) (x4 : Int32) (x5 : Int32), k122 M a0 x1 x2 x3 x4 x5 = some q → ps_W D Y B M H → va_S (fun q => B ≤ q) s.heap H locs → lv_has ls 10 [(0, .ref (B + a0)), (1, .int x1), (2, .int x2), (3, .int x3), (4, .int x4), (5, .int x5)] → W p l e rm_X10_changes s m args below meth c H locs 0 0 (ps_Qi D Y B below args s 0 0 q) (F0 m 122 ls [])) (k165 : ps_M → Nat → Int32 → Int32 → Int32 → Int32 → Int32 → Int32 → Option (Int32 × ps_M)) (hk165 : ∀ (M : ps_M) (H : Heap) (locs : List Loc) (ls : Array Slot) (a0 : Nat) (x1 : Int32) (x2 : Int32) (x3 : Int32) (x4 : Int32) (x5 : Int32) (x6 : Int32), k165 M a0 x1 x2 x3 x4 x5 x6 = some q → ps_W D Y B M H → va_S (fun q => B ≤ q) s.heap H locs → lv_has ls 10 [(0, .ref (B + a0)), (1, .int x1), (2, .int x2), (3, .int x3), (4, .int x4), (5, .int x5), (6, .int x6)] → W p l e rm_X10_changes s m args below meth c H locs 0 0 (ps_Qi D Y B below args s 0 0 q) (F0 m 165 ls [])) (k176 : ps_M → Nat → Int32 → Int32 → Int32 → Int32 → Int32 → Int32 → Int32 → Option (Int32 × ps_M)) (hk176 : ∀ (M : ps_M) (H : Heap) (locs : List Loc) (ls : Array Slot) (a0 : Nat) (x1 : Int32) (x2 : Int32) (x3 : Int32) (x4 : Int32) (x5 : Int32) (x6 : Int32) (x7 : Int32), k176 M a0 x1 x2 x3 x4 x5 x6 x7 = some q → ps_W D Y B M H → va_S (fun q => B ≤ q) s.heap H locs → lv_has ls 10 [(0, .ref (B + a0)), (1, .int x1), (2, .int x2), (3, .int x3), (4, .int x4), (5, .int x5), (6, .int x6), (7, .int x7)] → W p l e rm_X10_changes s m args below meth c H locs 0 0 (ps_Qi D Y B below args s 0 0 q) (F0 m 176 ls [])) {M : ps_M} {a0 : Nat} {x1 : Int32} {x2 : Int32} {x3 : Int32} {x4 : Int32} {x5 : Int32} {x6 : Int32} {x7 : Int32} {t0 : Nat} {t1 : Int32} {t2 : Int32} (hF : f_X10_changes_b292 k122 k165 k176 M a0 x1 x2 x3 x4 x5 x6 x7 t0 t1 t2 = some q) (hW : ps_W D Y B M H) (hS : va_S (fun q => B ≤ q) s.heap H locs) (hl : lv_has ls 10 [(0, .ref (B + a0)), (1, .int x1), (2, .int x2), (3, .int x3), (4, .int x4), (5, .int x5), (6, .int x6), (7, .int x7)]) : W p l e rm_X10_changes s m args below meth c H locs 0 0 (ps_Qi D Y B below args s 0 0 q) (F0 m 292 ls [.int t2, .int t1, .ref (B + t0)]) := by
  have hx := C.1
  have hb := C.2.1
  have hml := C.2.2.1
  have hown := C.2.2.2.1
  have hts := C.2.2.2.2.1
  unfold f_X10_changes_b292 at hF
  refine lv_aload_n hx hb dX10_changes_292 rfl (lv_at hl 0 rfl) ?_
  refine pw_gR C hW pc_9 (k := 29) (by decide) rfl tq_947 dX10_changes_293 hF (fun av2 hF => ?_)
  refine lv_iload hx hb dX10_changes_296 (lv_at hl 6 rfl) ?_
  refine pw_aI C hW dX10_changes_298 hF (fun xv3 hF => ?_)
  exact kb_X10_changes_b299 C k122 hk122 k165 hk165 k176 hk176 hF hW hS (lv_sub hl [0, 1, 2, 3, 4, 5, 6, 7] rfl)
set_option maxRecDepth 100000 in
set_option maxHeartbeats 4000000 in
theorem kb_X10_changes_b224 (C : ps_C p s m args meth c cX10_changes 10 RX10 ((some .int)) "changes" D Y B) {q : Int32 × ps_M} (k122 : ps_M → Nat → Int32 → Int32 → Int32 → Int32 → Int32 → Option (Int32 × ps_M)) (hk122 : ∀ (M : ps_M) (H : Heap) (locs : List Loc) (ls : Array Slot) (a0 : Nat) (x1 : Int32) (x2 : Int32) (x3 : Int32) (x4 : Int32) (x5 : Int32), k122 M a0 x1 x2 x3 x4 x5 = some q → ps_W D Y B M H → va_S (fun q => B ≤ q) s.heap H locs → lv_has ls 10 [(0, .ref (B + a0)), (1, .int x1), (2, .int x2), (3, .int x3), (4, .int x4), (5, .int x5)] → W p l e rm_X10_changes s m args below meth c H locs 0 0 (ps_Qi D Y B below args s 0 0 q) (F0 m 122 ls [])) (k165 : ps_M → Nat → Int32 → Int32 → Int32 → Int32 → Int32 → Int32 → Option (Int32 × ps_M)) (hk165 : ∀ (M : ps_M) (H : Heap) (locs : List Loc) (ls : Array Slot) (a0 : Nat) (x1 : Int32) (x2 : Int32) (x3 : Int32) (x4 : Int32) (x5 : Int32) (x6 : Int32), k165 M a0 x1 x2 x3 x4 x5 x6 = some q → ps_W D Y B M H → va_S (fun q => B ≤ q) s.heap H locs → lv_has ls 10 [(0, .ref (B + a0)), (1, .int x1), (2, .int x2), (3, .int x3), (4, .int x4), (5, .int x5), (6, .int x6)] → W p l e rm_X10_changes s m args below meth c H locs 0 0 (ps_Qi D Y B below args s 0 0 q) (F0 m 165 ls [])) (k176 : ps_M → Nat → Int32 → Int32 → Int32 → Int32 → Int32 → Int32 → Int32 → Option (Int32 × ps_M)) (hk176 : ∀ (M : ps_M) (H : Heap) (locs : List Loc) (ls : Array Slot) (a0 : Nat) (x1 : Int32) (x2 : Int32) (x3 : Int32) (x4 : Int32) (x5 : Int32) (x6 : Int32) (x7 : Int32), k176 M a0 x1 x2 x3 x4 x5 x6 x7 = some q → ps_W D Y B M H → va_S (fun q => B ≤ q) s.heap H locs → lv_has ls 10 [(0, .ref (B + a0)), (1, .int x1), (2, .int x2), (3, .int x3), (4, .int x4), (5, .int x5), (6, .int x6), (7, .int x7)] → W p l e rm_X10_changes s m args below meth c H locs 0 0 (ps_Qi D Y B below args s 0 0 q) (F0 m 176 ls [])) {M : ps_M} {a0 : Nat} {x1 : Int32} {x2 : Int32} {x3 : Int32} {x4 : Int32} {x5 : Int32} {x6 : Int32} {x7 : Int32} {x8 : Int32} {t0 : Int32} {t1 : Int32} (hF : f_X10_changes_b224 k122 k165 k176 M a0 x1 x2 x3 x4 x5 x6 x7 x8 t0 t1 = some q) (hW : ps_W D Y B M H) (hS : va_S (fun q => B ≤ q) s.heap H locs) (hl : lv_has ls 10 [(0, .ref (B + a0)), (1, .int x1), (2, .int x2), (3, .int x3), (4, .int x4), (5, .int x5), (6, .int x6), (7, .int x7), (8, .int x8)]) : W p l e rm_X10_changes s m args below meth c H locs 0 0 (ps_Qi D Y B below args s 0 0 q) (F0 m 224 ls [.int t1, .int t0]) := by
  have hx := C.1
  have hb := C.2.1
  have hml := C.2.2.1
  have hown := C.2.2.2.1
  have hts := C.2.2.2.2.1
  unfold f_X10_changes_b224 at hF
  refine lv_iadd hx hb dX10_changes_224 ?_
  refine pw_v hF (fun xv4 hF => ?_)
  refine lv_istore (lv' := [(9, .int xv4), (0, .ref (B + a0)), (1, .int x1), (2, .int x2), (3, .int x3), (4, .int x4), (5, .int x5), (6, .int x6), (7, .int x7), (8, .int x8)]) hx hb dX10_changes_225 hl (by decide) rfl (fun ls hl => ?_)
  refine lv_aload_n hx hb dX10_changes_227 rfl (lv_at hl 1 rfl) ?_
  refine pw_gR C hW pc_9 (k := 0) (by decide) rfl tq_918 dX10_changes_228 hF (fun av5 hF => ?_)
  refine lv_bipush (v := 21) hx hb dX10_changes_231 (by decide) ?_
  refine pw_aI C hW dX10_changes_233 hF (fun xv6 hF => ?_)
  refine lv_iload hx hb dX10_changes_234 (lv_at hl 0 rfl) ?_
  refine lv_iadd hx hb dX10_changes_236 ?_
  refine lv_i2l hx hb dX10_changes_237 rfl ?_
  refine lv_iload_n hx hb dX10_changes_238 rfl (lv_at hl 3 rfl) ?_
  refine lv_ineg hx hb dX10_changes_239 ?_
  refine lv_i2l hx hb dX10_changes_240 rfl ?_
  refine lv_iload_n hx hb dX10_changes_241 rfl (lv_at hl 3 rfl) ?_
  refine lv_i2l hx hb dX10_changes_242 rfl ?_
  obtain ⟨xv7, M9, hc, hF⟩ := ps_b2_some hF
  refine ps_backI (x0 := xv7) (M' := M9) hS (ps_callS C hW mf_X10_in tq_1031 tq_1030 ⟨Nat.le_of_ble_eq_true rfl, Nat.le_of_ble_eq_true rfl⟩ rfl rfl (As := [.long ((xv6 + xv4).toInt64), .long ((-x2).toInt64), .long (x2.toInt64)]) (rest := []) (c_X10_in hc) rfl hl.1 rfl (Nat.le_of_ble_eq_true rfl) dX10_changes_243 ⟨Nat.le_of_ble_eq_true rfl, Nat.le_of_ble_eq_true rfl⟩) (fun H locs hW hS => ?_)
  clear hc
  generalize M9 = M at hW hF
  refine lv_if_eq (tgt := 302) hx hb dX10_changes_246 (by decide) (fun hv8 => ?_) (fun hv8 => ?_)
  · replace hF := (if_pos hv8).symm.trans hF
    exact kb_X10_changes_b302 C k122 hk122 k165 hk165 k176 hk176 hF hW hS (lv_sub hl [1, 2, 3, 4, 5, 6, 7, 8] rfl)
  · replace hF := (if_neg hv8).symm.trans hF
    refine lv_aload_n hx hb dX10_changes_249 rfl (lv_at hl 1 rfl) ?_
    refine lv_iconst (v := 2) hx hb dX10_changes_250 (by decide) ?_
    refine lv_iload hx hb dX10_changes_251 (lv_at hl 0 rfl) ?_
    refine lv_sipush (v := 301) hx hb dX10_changes_253 (by decide) ?_
    refine lv_iadd hx hb dX10_changes_256 ?_
    refine lv_imul hx hb dX10_changes_257 ?_
    refine lv_iload hx hb dX10_changes_258 (lv_at hl 9 rfl) ?_
    refine lv_iadd hx hb dX10_changes_260 ?_
    refine lv_aload_n hx hb dX10_changes_261 rfl (lv_at hl 1 rfl) ?_
    refine pw_gR C hW pc_9 (k := 27) (by decide) rfl tq_945 dX10_changes_262 hF (fun av9 hF => ?_)
    refine lv_iload hx hb dX10_changes_265 (lv_at hl 7 rfl) ?_
    refine pw_aI C hW dX10_changes_267 hF (fun xv10 hF => ?_)
    refine lv_iload hx hb dX10_changes_268 (lv_at hl 8 rfl) ?_
    refine lv_iadd hx hb dX10_changes_270 ?_
    refine lv_iload hx hb dX10_changes_271 (lv_at hl 8 rfl) ?_
    refine lv_iconst (v := 1) hx hb dX10_changes_273 (by decide) ?_
    refine lv_icmp_ne (tgt := 292) hx hb dX10_changes_274 (by decide) (fun hv11 => ?_) (fun hv11 => ?_)
    · replace hF := (if_neg hv11).symm.trans hF
      exact kb_X10_changes_b292 C k122 hk122 k165 hk165 k176 hk176 hF hW hS (lv_sub hl [1, 2, 3, 4, 5, 6, 7, 8] rfl)
    · replace hF := (if_pos hv11).symm.trans hF
      refine lv_aload_n hx hb dX10_changes_277 rfl (lv_at hl 1 rfl) ?_
      refine pw_gR C hW pc_9 (k := 27) (by decide) rfl tq_945 dX10_changes_278 hF (fun av12 hF => ?_)
      refine lv_iload hx hb dX10_changes_281 (lv_at hl 7 rfl) ?_
      refine pw_aI C hW dX10_changes_283 hF (fun xv13 hF => ?_)
      refine lv_if_ne (tgt := 292) hx hb dX10_changes_284 (by decide) (fun hv14 => ?_) (fun hv14 => ?_)
      · replace hF := (if_neg hv14).symm.trans hF
        exact kb_X10_changes_b292 C k122 hk122 k165 hk165 k176 hk176 hF hW hS (lv_sub hl [1, 2, 3, 4, 5, 6, 7, 8] rfl)
      · replace hF := (if_pos hv14).symm.trans hF
        refine lv_iload hx hb dX10_changes_287 (lv_at hl 6 rfl) ?_
        refine lv_goto (tgt := 299) hx hb dX10_changes_289 (by decide) ?_
        exact kb_X10_changes_b299 C k122 hk122 k165 hk165 k176 hk176 hF hW hS (lv_sub hl [1, 2, 3, 4, 5, 6, 7, 8] rfl)
set_option maxRecDepth 100000 in
set_option maxHeartbeats 4000000 in
theorem kb_X10_changes_b308 (C : ps_C p s m args meth c cX10_changes 10 RX10 ((some .int)) "changes" D Y B) {q : Int32 × ps_M} (k122 : ps_M → Nat → Int32 → Int32 → Int32 → Int32 → Int32 → Option (Int32 × ps_M)) (hk122 : ∀ (M : ps_M) (H : Heap) (locs : List Loc) (ls : Array Slot) (a0 : Nat) (x1 : Int32) (x2 : Int32) (x3 : Int32) (x4 : Int32) (x5 : Int32), k122 M a0 x1 x2 x3 x4 x5 = some q → ps_W D Y B M H → va_S (fun q => B ≤ q) s.heap H locs → lv_has ls 10 [(0, .ref (B + a0)), (1, .int x1), (2, .int x2), (3, .int x3), (4, .int x4), (5, .int x5)] → W p l e rm_X10_changes s m args below meth c H locs 0 0 (ps_Qi D Y B below args s 0 0 q) (F0 m 122 ls [])) (k165 : ps_M → Nat → Int32 → Int32 → Int32 → Int32 → Int32 → Int32 → Option (Int32 × ps_M)) (hk165 : ∀ (M : ps_M) (H : Heap) (locs : List Loc) (ls : Array Slot) (a0 : Nat) (x1 : Int32) (x2 : Int32) (x3 : Int32) (x4 : Int32) (x5 : Int32) (x6 : Int32), k165 M a0 x1 x2 x3 x4 x5 x6 = some q → ps_W D Y B M H → va_S (fun q => B ≤ q) s.heap H locs → lv_has ls 10 [(0, .ref (B + a0)), (1, .int x1), (2, .int x2), (3, .int x3), (4, .int x4), (5, .int x5), (6, .int x6)] → W p l e rm_X10_changes s m args below meth c H locs 0 0 (ps_Qi D Y B below args s 0 0 q) (F0 m 165 ls [])) {M : ps_M} {a0 : Nat} {x1 : Int32} {x2 : Int32} {x3 : Int32} {x4 : Int32} {x5 : Int32} {x6 : Int32} (hF : f_X10_changes_b308 k122 k165 M a0 x1 x2 x3 x4 x5 x6 = some q) (hW : ps_W D Y B M H) (hS : va_S (fun q => B ≤ q) s.heap H locs) (hl : lv_has ls 10 [(0, .ref (B + a0)), (1, .int x1), (2, .int x2), (3, .int x3), (4, .int x4), (5, .int x5), (6, .int x6)]) : W p l e rm_X10_changes s m args below meth c H locs 0 0 (ps_Qi D Y B below args s 0 0 q) (F0 m 308 ls []) := by
  have hx := C.1
  have hb := C.2.1
  have hml := C.2.2.1
  have hown := C.2.2.2.1
  have hts := C.2.2.2.2.1
  unfold f_X10_changes_b308 at hF
  obtain ⟨xv15, exv15, hF⟩ := ps_ve hF
  refine lv_iinc (v := xv15) (lv' := [(6, .int xv15), (0, .ref (B + a0)), (1, .int x1), (2, .int x2), (3, .int x3), (4, .int x4), (5, .int x5)]) hx hb dX10_changes_308 hl (k := 6) rfl (by rw [exv15]; rfl) (by decide) rfl (fun ls hl => ?_)
  clear exv15
  refine lv_goto (tgt := 165) hx hb dX10_changes_311 (by decide) ?_
  exact hk165 M _ _ _ a0 x1 x2 x3 x4 x5 xv15 hF hW hS (lv_sub hl [1, 2, 3, 4, 5, 6, 0] rfl)
set_option maxRecDepth 100000 in
set_option maxHeartbeats 4000000 in
theorem kb_X10_changes_w176 (C : ps_C p s m args meth c cX10_changes 10 RX10 ((some .int)) "changes" D Y B) {q : Int32 × ps_M} (k122 : ps_M → Nat → Int32 → Int32 → Int32 → Int32 → Int32 → Option (Int32 × ps_M)) (hk122 : ∀ (M : ps_M) (H : Heap) (locs : List Loc) (ls : Array Slot) (a0 : Nat) (x1 : Int32) (x2 : Int32) (x3 : Int32) (x4 : Int32) (x5 : Int32), k122 M a0 x1 x2 x3 x4 x5 = some q → ps_W D Y B M H → va_S (fun q => B ≤ q) s.heap H locs → lv_has ls 10 [(0, .ref (B + a0)), (1, .int x1), (2, .int x2), (3, .int x3), (4, .int x4), (5, .int x5)] → W p l e rm_X10_changes s m args below meth c H locs 0 0 (ps_Qi D Y B below args s 0 0 q) (F0 m 122 ls [])) (k165 : ps_M → Nat → Int32 → Int32 → Int32 → Int32 → Int32 → Int32 → Option (Int32 × ps_M)) (hk165 : ∀ (M : ps_M) (H : Heap) (locs : List Loc) (ls : Array Slot) (a0 : Nat) (x1 : Int32) (x2 : Int32) (x3 : Int32) (x4 : Int32) (x5 : Int32) (x6 : Int32), k165 M a0 x1 x2 x3 x4 x5 x6 = some q → ps_W D Y B M H → va_S (fun q => B ≤ q) s.heap H locs → lv_has ls 10 [(0, .ref (B + a0)), (1, .int x1), (2, .int x2), (3, .int x3), (4, .int x4), (5, .int x5), (6, .int x6)] → W p l e rm_X10_changes s m args below meth c H locs 0 0 (ps_Qi D Y B below args s 0 0 q) (F0 m 165 ls [])) (k176 : ps_M → Nat → Int32 → Int32 → Int32 → Int32 → Int32 → Int32 → Int32 → Option (Int32 × ps_M)) (hk176 : ∀ (M : ps_M) (H : Heap) (locs : List Loc) (ls : Array Slot) (a0 : Nat) (x1 : Int32) (x2 : Int32) (x3 : Int32) (x4 : Int32) (x5 : Int32) (x6 : Int32) (x7 : Int32), k176 M a0 x1 x2 x3 x4 x5 x6 x7 = some q → ps_W D Y B M H → va_S (fun q => B ≤ q) s.heap H locs → lv_has ls 10 [(0, .ref (B + a0)), (1, .int x1), (2, .int x2), (3, .int x3), (4, .int x4), (5, .int x5), (6, .int x6), (7, .int x7)] → W p l e rm_X10_changes s m args below meth c H locs 0 0 (ps_Qi D Y B below args s 0 0 q) (F0 m 176 ls [])) {M : ps_M} {a0 : Nat} {x1 : Int32} {x2 : Int32} {x3 : Int32} {x4 : Int32} {x5 : Int32} {x6 : Int32} {x7 : Int32} (hF : f_X10_changes_w176 k122 k165 k176 M a0 x1 x2 x3 x4 x5 x6 x7 = some q) (hW : ps_W D Y B M H) (hS : va_S (fun q => B ≤ q) s.heap H locs) (hl : lv_has ls 10 [(0, .ref (B + a0)), (1, .int x1), (2, .int x2), (3, .int x3), (4, .int x4), (5, .int x5), (6, .int x6), (7, .int x7)]) : W p l e rm_X10_changes s m args below meth c H locs 0 0 (ps_Qi D Y B below args s 0 0 q) (F0 m 176 ls []) := by
  have hx := C.1
  have hb := C.2.1
  have hml := C.2.2.1
  have hown := C.2.2.2.1
  have hts := C.2.2.2.2.1
  unfold f_X10_changes_w176 at hF
  refine lv_iload hx hb dX10_changes_176 (lv_at hl 7 rfl) ?_
  refine lv_iconst (v := 2) hx hb dX10_changes_178 (by decide) ?_
  refine lv_icmp_ge (tgt := 308) hx hb dX10_changes_179 (by decide) (fun hv16 => ?_) (fun hv16 => ?_)
  · replace hF := (if_pos hv16).symm.trans hF
    exact kb_X10_changes_b308 C k122 hk122 k165 hk165 hF hW hS (lv_sub hl [0, 1, 2, 3, 4, 5, 6] rfl)
  · replace hF := (if_neg hv16).symm.trans hF
    refine lv_aload_n hx hb dX10_changes_182 rfl (lv_at hl 0 rfl) ?_
    refine pw_gR C hW pc_9 (k := 27) (by decide) rfl tq_945 dX10_changes_183 hF (fun av17 hF => ?_)
    refine lv_iload hx hb dX10_changes_186 (lv_at hl 6 rfl) ?_
    refine pw_aI C hW dX10_changes_188 hF (fun xv18 hF => ?_)
    refine lv_ldc (v := 99999999) hx hb hown (hts _ tq_1214) dX10_changes_189 ?_
    refine lv_icmp_ge (tgt := 308) hx hb dX10_changes_191 (by decide) (fun hv19 => ?_) (fun hv19 => ?_)
    · replace hF := (if_pos hv19).symm.trans hF
      exact kb_X10_changes_b308 C k122 hk122 k165 hk165 hF hW hS (lv_sub hl [0, 1, 2, 3, 4, 5, 6] rfl)
    · replace hF := (if_neg hv19).symm.trans hF
      refine lv_iload hx hb dX10_changes_194 (lv_at hl 6 rfl) ?_
      refine lv_iload hx hb dX10_changes_196 (lv_at hl 7 rfl) ?_
      refine lv_iadd hx hb dX10_changes_198 ?_
      refine lv_iconst (v := 2) hx hb dX10_changes_199 (by decide) ?_
      refine lv_irem hx hb dX10_changes_200 (by decide) ?_
      refine pw_v hF (fun xv20 hF => ?_)
      refine lv_istore (lv' := [(8, .int xv20), (0, .ref (B + a0)), (1, .int x1), (2, .int x2), (3, .int x3), (4, .int x4), (5, .int x5), (6, .int x6), (7, .int x7)]) hx hb dX10_changes_201 hl (by decide) rfl (fun ls hl => ?_)
      refine lv_iload hx hb dX10_changes_203 (lv_at hl 7 rfl) ?_
      refine lv_iconst (v := 2) hx hb dX10_changes_205 (by decide) ?_
      refine lv_idiv hx hb dX10_changes_206 (by decide) ?_
      refine lv_sipush (v := 301) hx hb dX10_changes_207 (by decide) ?_
      refine lv_isub hx hb dX10_changes_210 ?_
      refine lv_iload hx hb dX10_changes_211 (lv_at hl 0 rfl) ?_
      refine lv_if_ne (tgt := 221) hx hb dX10_changes_213 (by decide) (fun hv21 => ?_) (fun hv21 => ?_)
      · replace hF := (if_neg hv21).symm.trans hF
        refine lv_iload hx hb dX10_changes_221 (lv_at hl 5 rfl) ?_
        refine lv_ineg hx hb dX10_changes_223 ?_
        exact kb_X10_changes_b224 C k122 hk122 k165 hk165 k176 hk176 hF hW hS (lv_sub hl [1, 2, 3, 4, 5, 6, 7, 8, 0] rfl)
      · replace hF := (if_pos hv21).symm.trans hF
        refine lv_iload hx hb dX10_changes_216 (lv_at hl 5 rfl) ?_
        refine lv_goto (tgt := 224) hx hb dX10_changes_218 (by decide) ?_
        exact kb_X10_changes_b224 C k122 hk122 k165 hk165 k176 hk176 hF hW hS (lv_sub hl [1, 2, 3, 4, 5, 6, 7, 8, 0] rfl)
theorem kb_X10_changes_l176 (C : ps_C p s m args meth c cX10_changes 10 RX10 ((some .int)) "changes" D Y B) {q : Int32 × ps_M} (k122 : ps_M → Nat → Int32 → Int32 → Int32 → Int32 → Int32 → Option (Int32 × ps_M)) (hk122 : ∀ (M : ps_M) (H : Heap) (locs : List Loc) (ls : Array Slot) (a0 : Nat) (x1 : Int32) (x2 : Int32) (x3 : Int32) (x4 : Int32) (x5 : Int32), k122 M a0 x1 x2 x3 x4 x5 = some q → ps_W D Y B M H → va_S (fun q => B ≤ q) s.heap H locs → lv_has ls 10 [(0, .ref (B + a0)), (1, .int x1), (2, .int x2), (3, .int x3), (4, .int x4), (5, .int x5)] → W p l e rm_X10_changes s m args below meth c H locs 0 0 (ps_Qi D Y B below args s 0 0 q) (F0 m 122 ls [])) (k165 : ps_M → Nat → Int32 → Int32 → Int32 → Int32 → Int32 → Int32 → Option (Int32 × ps_M)) (hk165 : ∀ (M : ps_M) (H : Heap) (locs : List Loc) (ls : Array Slot) (a0 : Nat) (x1 : Int32) (x2 : Int32) (x3 : Int32) (x4 : Int32) (x5 : Int32) (x6 : Int32), k165 M a0 x1 x2 x3 x4 x5 x6 = some q → ps_W D Y B M H → va_S (fun q => B ≤ q) s.heap H locs → lv_has ls 10 [(0, .ref (B + a0)), (1, .int x1), (2, .int x2), (3, .int x3), (4, .int x4), (5, .int x5), (6, .int x6)] → W p l e rm_X10_changes s m args below meth c H locs 0 0 (ps_Qi D Y B below args s 0 0 q) (F0 m 165 ls [])) : ∀ (n : Nat) (M : ps_M) (H : Heap) (locs : List Loc) (ls : Array Slot) (a0 : Nat) (x1 : Int32) (x2 : Int32) (x3 : Int32) (x4 : Int32) (x5 : Int32) (x6 : Int32) (x7 : Int32), f_X10_changes_l176 k122 k165 n M a0 x1 x2 x3 x4 x5 x6 x7 = some q → ps_W D Y B M H → va_S (fun q => B ≤ q) s.heap H locs → lv_has ls 10 [(0, .ref (B + a0)), (1, .int x1), (2, .int x2), (3, .int x3), (4, .int x4), (5, .int x5), (6, .int x6), (7, .int x7)] → W p l e rm_X10_changes s m args below meth c H locs 0 0 (ps_Qi D Y B below args s 0 0 q) (F0 m 176 ls []) := by
  intro n
  induction n with
  | zero => intro M H locs ls a0 x1 x2 x3 x4 x5 x6 x7 hF; cases hF
  | succ n ih => intro M H locs ls a0 x1 x2 x3 x4 x5 x6 x7 hF hW hS hl; exact kb_X10_changes_w176 C k122 hk122 k165 hk165 (f_X10_changes_l176 k122 k165 n) ih hF hW hS hl
set_option maxRecDepth 100000 in
set_option maxHeartbeats 4000000 in
theorem kb_X10_changes_w317 (C : ps_C p s m args meth c cX10_changes 10 RX10 ((some .int)) "changes" D Y B) {q : Int32 × ps_M} (k122 : ps_M → Nat → Int32 → Int32 → Int32 → Int32 → Int32 → Option (Int32 × ps_M)) (hk122 : ∀ (M : ps_M) (H : Heap) (locs : List Loc) (ls : Array Slot) (a0 : Nat) (x1 : Int32) (x2 : Int32) (x3 : Int32) (x4 : Int32) (x5 : Int32), k122 M a0 x1 x2 x3 x4 x5 = some q → ps_W D Y B M H → va_S (fun q => B ≤ q) s.heap H locs → lv_has ls 10 [(0, .ref (B + a0)), (1, .int x1), (2, .int x2), (3, .int x3), (4, .int x4), (5, .int x5)] → W p l e rm_X10_changes s m args below meth c H locs 0 0 (ps_Qi D Y B below args s 0 0 q) (F0 m 122 ls [])) (k317 : ps_M → Nat → Int32 → Int32 → Int32 → Int32 → Int32 → Int32 → Option (Int32 × ps_M)) (hk317 : ∀ (M : ps_M) (H : Heap) (locs : List Loc) (ls : Array Slot) (a0 : Nat) (x1 : Int32) (x2 : Int32) (x3 : Int32) (x4 : Int32) (x5 : Int32) (x6 : Int32), k317 M a0 x1 x2 x3 x4 x5 x6 = some q → ps_W D Y B M H → va_S (fun q => B ≤ q) s.heap H locs → lv_has ls 10 [(0, .ref (B + a0)), (1, .int x1), (2, .int x2), (3, .int x3), (4, .int x4), (5, .int x5), (6, .int x6)] → W p l e rm_X10_changes s m args below meth c H locs 0 0 (ps_Qi D Y B below args s 0 0 q) (F0 m 317 ls [])) {M : ps_M} {a0 : Nat} {x1 : Int32} {x2 : Int32} {x3 : Int32} {x4 : Int32} {x5 : Int32} {x6 : Int32} (hF : f_X10_changes_w317 k122 k317 M a0 x1 x2 x3 x4 x5 x6 = some q) (hW : ps_W D Y B M H) (hS : va_S (fun q => B ≤ q) s.heap H locs) (hl : lv_has ls 10 [(0, .ref (B + a0)), (1, .int x1), (2, .int x2), (3, .int x3), (4, .int x4), (5, .int x5), (6, .int x6)]) : W p l e rm_X10_changes s m args below meth c H locs 0 0 (ps_Qi D Y B below args s 0 0 q) (F0 m 317 ls []) := by
  have hx := C.1
  have hb := C.2.1
  have hml := C.2.2.1
  have hown := C.2.2.2.1
  have hts := C.2.2.2.2.1
  unfold f_X10_changes_w317 at hF
  refine lv_iload hx hb dX10_changes_317 (lv_at hl 6 rfl) ?_
  refine lv_sipush (v := 1204) hx hb dX10_changes_319 (by decide) ?_
  refine lv_icmp_ge (tgt := 359) hx hb dX10_changes_322 (by decide) (fun hv22 => ?_) (fun hv22 => ?_)
  · replace hF := (if_pos hv22).symm.trans hF
    obtain ⟨xv23, exv23, hF⟩ := ps_ve hF
    refine lv_iinc (v := xv23) (lv' := [(5, .int xv23), (0, .ref (B + a0)), (1, .int x1), (2, .int x2), (3, .int x3), (4, .int x4), (6, .int x6)]) hx hb dX10_changes_359 hl (k := 5) rfl (by rw [exv23]; rfl) (by decide) rfl (fun ls hl => ?_)
    clear exv23
    refine lv_goto (tgt := 122) hx hb dX10_changes_362 (by decide) ?_
    exact hk122 M _ _ _ a0 x1 x2 x3 x4 xv23 hF hW hS (lv_sub hl [1, 2, 3, 4, 5, 0] rfl)
  · replace hF := (if_neg hv22).symm.trans hF
    refine lv_aload_n hx hb dX10_changes_325 rfl (lv_at hl 0 rfl) ?_
    refine pw_gR C hW pc_9 (k := 27) (by decide) rfl tq_945 dX10_changes_326 hF (fun av24 hF => ?_)
    refine lv_iload hx hb dX10_changes_329 (lv_at hl 6 rfl) ?_
    refine lv_aload_n hx hb dX10_changes_331 rfl (lv_at hl 0 rfl) ?_
    refine pw_gR C hW pc_9 (k := 28) (by decide) rfl tq_946 dX10_changes_332 hF (fun av25 hF => ?_)
    refine lv_iload hx hb dX10_changes_335 (lv_at hl 6 rfl) ?_
    refine pw_aI C hW dX10_changes_337 hF (fun xv26 hF => ?_)
    refine pw_xI C hW hS dX10_changes_338 hF (fun M H locs hW hS hF => ?_)
    refine lv_aload_n hx hb dX10_changes_339 rfl (lv_at hl 0 rfl) ?_
    refine pw_gR C hW pc_9 (k := 29) (by decide) rfl tq_947 dX10_changes_340 hF (fun av27 hF => ?_)
    refine lv_iload hx hb dX10_changes_343 (lv_at hl 6 rfl) ?_
    refine lv_aload_n hx hb dX10_changes_345 rfl (lv_at hl 0 rfl) ?_
    refine pw_gR C hW pc_9 (k := 30) (by decide) rfl tq_948 dX10_changes_346 hF (fun av28 hF => ?_)
    refine lv_iload hx hb dX10_changes_349 (lv_at hl 6 rfl) ?_
    refine pw_aI C hW dX10_changes_351 hF (fun xv29 hF => ?_)
    refine pw_xI C hW hS dX10_changes_352 hF (fun M H locs hW hS hF => ?_)
    obtain ⟨xv30, exv30, hF⟩ := ps_ve hF
    refine lv_iinc (v := xv30) (lv' := [(6, .int xv30), (0, .ref (B + a0)), (1, .int x1), (2, .int x2), (3, .int x3), (4, .int x4), (5, .int x5)]) hx hb dX10_changes_353 hl (k := 6) rfl (by rw [exv30]; rfl) (by decide) rfl (fun ls hl => ?_)
    clear exv30
    refine lv_goto (tgt := 317) hx hb dX10_changes_356 (by decide) ?_
    exact hk317 M _ _ _ a0 x1 x2 x3 x4 x5 xv30 hF hW hS (lv_sub hl [1, 2, 3, 4, 5, 6, 0] rfl)
theorem kb_X10_changes_l317 (C : ps_C p s m args meth c cX10_changes 10 RX10 ((some .int)) "changes" D Y B) {q : Int32 × ps_M} (k122 : ps_M → Nat → Int32 → Int32 → Int32 → Int32 → Int32 → Option (Int32 × ps_M)) (hk122 : ∀ (M : ps_M) (H : Heap) (locs : List Loc) (ls : Array Slot) (a0 : Nat) (x1 : Int32) (x2 : Int32) (x3 : Int32) (x4 : Int32) (x5 : Int32), k122 M a0 x1 x2 x3 x4 x5 = some q → ps_W D Y B M H → va_S (fun q => B ≤ q) s.heap H locs → lv_has ls 10 [(0, .ref (B + a0)), (1, .int x1), (2, .int x2), (3, .int x3), (4, .int x4), (5, .int x5)] → W p l e rm_X10_changes s m args below meth c H locs 0 0 (ps_Qi D Y B below args s 0 0 q) (F0 m 122 ls [])) : ∀ (n : Nat) (M : ps_M) (H : Heap) (locs : List Loc) (ls : Array Slot) (a0 : Nat) (x1 : Int32) (x2 : Int32) (x3 : Int32) (x4 : Int32) (x5 : Int32) (x6 : Int32), f_X10_changes_l317 k122 n M a0 x1 x2 x3 x4 x5 x6 = some q → ps_W D Y B M H → va_S (fun q => B ≤ q) s.heap H locs → lv_has ls 10 [(0, .ref (B + a0)), (1, .int x1), (2, .int x2), (3, .int x3), (4, .int x4), (5, .int x5), (6, .int x6)] → W p l e rm_X10_changes s m args below meth c H locs 0 0 (ps_Qi D Y B below args s 0 0 q) (F0 m 317 ls []) := by
  intro n
  induction n with
  | zero => intro M H locs ls a0 x1 x2 x3 x4 x5 x6 hF; cases hF
  | succ n ih => intro M H locs ls a0 x1 x2 x3 x4 x5 x6 hF hW hS hl; exact kb_X10_changes_w317 C k122 hk122 (f_X10_changes_l317 k122 n) ih hF hW hS hl
set_option maxRecDepth 100000 in
set_option maxHeartbeats 4000000 in
theorem kb_X10_changes_w165 (C : ps_C p s m args meth c cX10_changes 10 RX10 ((some .int)) "changes" D Y B) {q : Int32 × ps_M} (k122 : ps_M → Nat → Int32 → Int32 → Int32 → Int32 → Int32 → Option (Int32 × ps_M)) (hk122 : ∀ (M : ps_M) (H : Heap) (locs : List Loc) (ls : Array Slot) (a0 : Nat) (x1 : Int32) (x2 : Int32) (x3 : Int32) (x4 : Int32) (x5 : Int32), k122 M a0 x1 x2 x3 x4 x5 = some q → ps_W D Y B M H → va_S (fun q => B ≤ q) s.heap H locs → lv_has ls 10 [(0, .ref (B + a0)), (1, .int x1), (2, .int x2), (3, .int x3), (4, .int x4), (5, .int x5)] → W p l e rm_X10_changes s m args below meth c H locs 0 0 (ps_Qi D Y B below args s 0 0 q) (F0 m 122 ls [])) (k165 : ps_M → Nat → Int32 → Int32 → Int32 → Int32 → Int32 → Int32 → Option (Int32 × ps_M)) (hk165 : ∀ (M : ps_M) (H : Heap) (locs : List Loc) (ls : Array Slot) (a0 : Nat) (x1 : Int32) (x2 : Int32) (x3 : Int32) (x4 : Int32) (x5 : Int32) (x6 : Int32), k165 M a0 x1 x2 x3 x4 x5 x6 = some q → ps_W D Y B M H → va_S (fun q => B ≤ q) s.heap H locs → lv_has ls 10 [(0, .ref (B + a0)), (1, .int x1), (2, .int x2), (3, .int x3), (4, .int x4), (5, .int x5), (6, .int x6)] → W p l e rm_X10_changes s m args below meth c H locs 0 0 (ps_Qi D Y B below args s 0 0 q) (F0 m 165 ls [])) {M : ps_M} {a0 : Nat} {x1 : Int32} {x2 : Int32} {x3 : Int32} {x4 : Int32} {x5 : Int32} {x6 : Int32} (hF : f_X10_changes_w165 k122 k165 M a0 x1 x2 x3 x4 x5 x6 = some q) (hW : ps_W D Y B M H) (hS : va_S (fun q => B ≤ q) s.heap H locs) (hl : lv_has ls 10 [(0, .ref (B + a0)), (1, .int x1), (2, .int x2), (3, .int x3), (4, .int x4), (5, .int x5), (6, .int x6)]) : W p l e rm_X10_changes s m args below meth c H locs 0 0 (ps_Qi D Y B below args s 0 0 q) (F0 m 165 ls []) := by
  have hx := C.1
  have hb := C.2.1
  have hml := C.2.2.1
  have hown := C.2.2.2.1
  have hts := C.2.2.2.2.1
  unfold f_X10_changes_w165 at hF
  refine lv_iload hx hb dX10_changes_165 (lv_at hl 6 rfl) ?_
  refine lv_sipush (v := 1204) hx hb dX10_changes_167 (by decide) ?_
  refine lv_icmp_ge (tgt := 314) hx hb dX10_changes_170 (by decide) (fun hv31 => ?_) (fun hv31 => ?_)
  · replace hF := (if_pos hv31).symm.trans hF
    refine lv_iconst (v := 0) hx hb dX10_changes_314 (by decide) ?_
    refine lv_istore (lv' := [(6, .int (0 : Int32)), (0, .ref (B + a0)), (1, .int x1), (2, .int x2), (3, .int x3), (4, .int x4), (5, .int x5)]) hx hb dX10_changes_315 hl (by decide) rfl (fun ls hl => ?_)
    exact kb_X10_changes_l317 C k122 hk122 ps_fu M _ _ _ a0 x1 x2 x3 x4 x5 (0 : Int32) hF hW hS (lv_sub hl [1, 2, 3, 4, 5, 6, 0] rfl)
  · replace hF := (if_neg hv31).symm.trans hF
    refine lv_iconst (v := 0) hx hb dX10_changes_173 (by decide) ?_
    refine lv_istore (lv' := [(7, .int (0 : Int32)), (0, .ref (B + a0)), (1, .int x1), (2, .int x2), (3, .int x3), (4, .int x4), (5, .int x5), (6, .int x6)]) hx hb dX10_changes_174 hl (by decide) rfl (fun ls hl => ?_)
    exact kb_X10_changes_l176 C k122 hk122 k165 hk165 ps_fu M _ _ _ a0 x1 x2 x3 x4 x5 x6 (0 : Int32) hF hW hS (lv_sub hl [1, 2, 3, 4, 5, 6, 7, 0] rfl)
theorem kb_X10_changes_l165 (C : ps_C p s m args meth c cX10_changes 10 RX10 ((some .int)) "changes" D Y B) {q : Int32 × ps_M} (k122 : ps_M → Nat → Int32 → Int32 → Int32 → Int32 → Int32 → Option (Int32 × ps_M)) (hk122 : ∀ (M : ps_M) (H : Heap) (locs : List Loc) (ls : Array Slot) (a0 : Nat) (x1 : Int32) (x2 : Int32) (x3 : Int32) (x4 : Int32) (x5 : Int32), k122 M a0 x1 x2 x3 x4 x5 = some q → ps_W D Y B M H → va_S (fun q => B ≤ q) s.heap H locs → lv_has ls 10 [(0, .ref (B + a0)), (1, .int x1), (2, .int x2), (3, .int x3), (4, .int x4), (5, .int x5)] → W p l e rm_X10_changes s m args below meth c H locs 0 0 (ps_Qi D Y B below args s 0 0 q) (F0 m 122 ls [])) : ∀ (n : Nat) (M : ps_M) (H : Heap) (locs : List Loc) (ls : Array Slot) (a0 : Nat) (x1 : Int32) (x2 : Int32) (x3 : Int32) (x4 : Int32) (x5 : Int32) (x6 : Int32), f_X10_changes_l165 k122 n M a0 x1 x2 x3 x4 x5 x6 = some q → ps_W D Y B M H → va_S (fun q => B ≤ q) s.heap H locs → lv_has ls 10 [(0, .ref (B + a0)), (1, .int x1), (2, .int x2), (3, .int x3), (4, .int x4), (5, .int x5), (6, .int x6)] → W p l e rm_X10_changes s m args below meth c H locs 0 0 (ps_Qi D Y B below args s 0 0 q) (F0 m 165 ls []) := by
  intro n
  induction n with
  | zero => intro M H locs ls a0 x1 x2 x3 x4 x5 x6 hF; cases hF
  | succ n ih => intro M H locs ls a0 x1 x2 x3 x4 x5 x6 hF hW hS hl; exact kb_X10_changes_w165 C k122 hk122 (f_X10_changes_l165 k122 n) ih hF hW hS hl
set_option maxRecDepth 100000 in
set_option maxHeartbeats 4000000 in
theorem kb_X10_changes_w131 (C : ps_C p s m args meth c cX10_changes 10 RX10 ((some .int)) "changes" D Y B) {q : Int32 × ps_M} (k122 : ps_M → Nat → Int32 → Int32 → Int32 → Int32 → Int32 → Option (Int32 × ps_M)) (hk122 : ∀ (M : ps_M) (H : Heap) (locs : List Loc) (ls : Array Slot) (a0 : Nat) (x1 : Int32) (x2 : Int32) (x3 : Int32) (x4 : Int32) (x5 : Int32), k122 M a0 x1 x2 x3 x4 x5 = some q → ps_W D Y B M H → va_S (fun q => B ≤ q) s.heap H locs → lv_has ls 10 [(0, .ref (B + a0)), (1, .int x1), (2, .int x2), (3, .int x3), (4, .int x4), (5, .int x5)] → W p l e rm_X10_changes s m args below meth c H locs 0 0 (ps_Qi D Y B below args s 0 0 q) (F0 m 122 ls [])) (k131 : ps_M → Nat → Int32 → Int32 → Int32 → Int32 → Int32 → Int32 → Option (Int32 × ps_M)) (hk131 : ∀ (M : ps_M) (H : Heap) (locs : List Loc) (ls : Array Slot) (a0 : Nat) (x1 : Int32) (x2 : Int32) (x3 : Int32) (x4 : Int32) (x5 : Int32) (x6 : Int32), k131 M a0 x1 x2 x3 x4 x5 x6 = some q → ps_W D Y B M H → va_S (fun q => B ≤ q) s.heap H locs → lv_has ls 10 [(0, .ref (B + a0)), (1, .int x1), (2, .int x2), (3, .int x3), (4, .int x4), (5, .int x5), (6, .int x6)] → W p l e rm_X10_changes s m args below meth c H locs 0 0 (ps_Qi D Y B below args s 0 0 q) (F0 m 131 ls [])) {M : ps_M} {a0 : Nat} {x1 : Int32} {x2 : Int32} {x3 : Int32} {x4 : Int32} {x5 : Int32} {x6 : Int32} (hF : f_X10_changes_w131 k122 k131 M a0 x1 x2 x3 x4 x5 x6 = some q) (hW : ps_W D Y B M H) (hS : va_S (fun q => B ≤ q) s.heap H locs) (hl : lv_has ls 10 [(0, .ref (B + a0)), (1, .int x1), (2, .int x2), (3, .int x3), (4, .int x4), (5, .int x5), (6, .int x6)]) : W p l e rm_X10_changes s m args below meth c H locs 0 0 (ps_Qi D Y B below args s 0 0 q) (F0 m 131 ls []) := by
  have hx := C.1
  have hb := C.2.1
  have hml := C.2.2.1
  have hown := C.2.2.2.1
  have hts := C.2.2.2.2.1
  unfold f_X10_changes_w131 at hF
  refine lv_iload hx hb dX10_changes_131 (lv_at hl 6 rfl) ?_
  refine lv_sipush (v := 1204) hx hb dX10_changes_133 (by decide) ?_
  refine lv_icmp_ge (tgt := 162) hx hb dX10_changes_136 (by decide) (fun hv32 => ?_) (fun hv32 => ?_)
  · replace hF := (if_pos hv32).symm.trans hF
    refine lv_iconst (v := 0) hx hb dX10_changes_162 (by decide) ?_
    refine lv_istore (lv' := [(6, .int (0 : Int32)), (0, .ref (B + a0)), (1, .int x1), (2, .int x2), (3, .int x3), (4, .int x4), (5, .int x5)]) hx hb dX10_changes_163 hl (by decide) rfl (fun ls hl => ?_)
    exact kb_X10_changes_l165 C k122 hk122 ps_fu M _ _ _ a0 x1 x2 x3 x4 x5 (0 : Int32) hF hW hS (lv_sub hl [1, 2, 3, 4, 5, 6, 0] rfl)
  · replace hF := (if_neg hv32).symm.trans hF
    refine lv_aload_n hx hb dX10_changes_139 rfl (lv_at hl 0 rfl) ?_
    refine pw_gR C hW pc_9 (k := 28) (by decide) rfl tq_946 dX10_changes_140 hF (fun av33 hF => ?_)
    refine lv_iload hx hb dX10_changes_143 (lv_at hl 6 rfl) ?_
    refine lv_ldc (v := 99999999) hx hb hown (hts _ tq_1214) dX10_changes_145 ?_
    refine pw_xI C hW hS dX10_changes_147 hF (fun M H locs hW hS hF => ?_)
    refine lv_aload_n hx hb dX10_changes_148 rfl (lv_at hl 0 rfl) ?_
    refine pw_gR C hW pc_9 (k := 30) (by decide) rfl tq_948 dX10_changes_149 hF (fun av34 hF => ?_)
    refine lv_iload hx hb dX10_changes_152 (lv_at hl 6 rfl) ?_
    refine lv_iconst (v := -1) hx hb dX10_changes_154 (by decide) ?_
    refine pw_xI C hW hS dX10_changes_155 hF (fun M H locs hW hS hF => ?_)
    obtain ⟨xv35, exv35, hF⟩ := ps_ve hF
    refine lv_iinc (v := xv35) (lv' := [(6, .int xv35), (0, .ref (B + a0)), (1, .int x1), (2, .int x2), (3, .int x3), (4, .int x4), (5, .int x5)]) hx hb dX10_changes_156 hl (k := 6) rfl (by rw [exv35]; rfl) (by decide) rfl (fun ls hl => ?_)
    clear exv35
    refine lv_goto (tgt := 131) hx hb dX10_changes_159 (by decide) ?_
    exact hk131 M _ _ _ a0 x1 x2 x3 x4 x5 xv35 hF hW hS (lv_sub hl [1, 2, 3, 4, 5, 6, 0] rfl)
theorem kb_X10_changes_l131 (C : ps_C p s m args meth c cX10_changes 10 RX10 ((some .int)) "changes" D Y B) {q : Int32 × ps_M} (k122 : ps_M → Nat → Int32 → Int32 → Int32 → Int32 → Int32 → Option (Int32 × ps_M)) (hk122 : ∀ (M : ps_M) (H : Heap) (locs : List Loc) (ls : Array Slot) (a0 : Nat) (x1 : Int32) (x2 : Int32) (x3 : Int32) (x4 : Int32) (x5 : Int32), k122 M a0 x1 x2 x3 x4 x5 = some q → ps_W D Y B M H → va_S (fun q => B ≤ q) s.heap H locs → lv_has ls 10 [(0, .ref (B + a0)), (1, .int x1), (2, .int x2), (3, .int x3), (4, .int x4), (5, .int x5)] → W p l e rm_X10_changes s m args below meth c H locs 0 0 (ps_Qi D Y B below args s 0 0 q) (F0 m 122 ls [])) : ∀ (n : Nat) (M : ps_M) (H : Heap) (locs : List Loc) (ls : Array Slot) (a0 : Nat) (x1 : Int32) (x2 : Int32) (x3 : Int32) (x4 : Int32) (x5 : Int32) (x6 : Int32), f_X10_changes_l131 k122 n M a0 x1 x2 x3 x4 x5 x6 = some q → ps_W D Y B M H → va_S (fun q => B ≤ q) s.heap H locs → lv_has ls 10 [(0, .ref (B + a0)), (1, .int x1), (2, .int x2), (3, .int x3), (4, .int x4), (5, .int x5), (6, .int x6)] → W p l e rm_X10_changes s m args below meth c H locs 0 0 (ps_Qi D Y B below args s 0 0 q) (F0 m 131 ls []) := by
  intro n
  induction n with
  | zero => intro M H locs ls a0 x1 x2 x3 x4 x5 x6 hF; cases hF
  | succ n ih => intro M H locs ls a0 x1 x2 x3 x4 x5 x6 hF hW hS hl; exact kb_X10_changes_w131 C k122 hk122 (f_X10_changes_l131 k122 n) ih hF hW hS hl
set_option maxRecDepth 100000 in
set_option maxHeartbeats 4000000 in
theorem kb_X10_changes_b437 (C : ps_C p s m args meth c cX10_changes 10 RX10 ((some .int)) "changes" D Y B) {q : Int32 × ps_M} (k375 : ps_M → Nat → Int32 → Int32 → Int32 → Int32 → Option (Int32 × ps_M)) (hk375 : ∀ (M : ps_M) (H : Heap) (locs : List Loc) (ls : Array Slot) (a0 : Nat) (x3 : Int32) (x5 : Int32) (x6 : Int32) (x7 : Int32), k375 M a0 x3 x5 x6 x7 = some q → ps_W D Y B M H → va_S (fun q => B ≤ q) s.heap H locs → lv_has ls 10 [(0, .ref (B + a0)), (3, .int x3), (5, .int x5), (6, .int x6), (7, .int x7)] → W p l e rm_X10_changes s m args below meth c H locs 0 0 (ps_Qi D Y B below args s 0 0 q) (F0 m 375 ls [])) {M : ps_M} {a0 : Nat} {x3 : Int32} {x5 : Int32} {x6 : Int32} {x7 : Int32} (hF : f_X10_changes_b437 k375 M a0 x3 x5 x6 x7 = some q) (hW : ps_W D Y B M H) (hS : va_S (fun q => B ≤ q) s.heap H locs) (hl : lv_has ls 10 [(0, .ref (B + a0)), (3, .int x3), (5, .int x5), (6, .int x6), (7, .int x7)]) : W p l e rm_X10_changes s m args below meth c H locs 0 0 (ps_Qi D Y B below args s 0 0 q) (F0 m 437 ls []) := by
  have hx := C.1
  have hb := C.2.1
  have hml := C.2.2.1
  have hown := C.2.2.2.1
  have hts := C.2.2.2.2.1
  unfold f_X10_changes_b437 at hF
  obtain ⟨xv36, exv36, hF⟩ := ps_ve hF
  refine lv_iinc (v := xv36) (lv' := [(7, .int xv36), (0, .ref (B + a0)), (3, .int x3), (5, .int x5), (6, .int x6)]) hx hb dX10_changes_437 hl (k := 4) rfl (by rw [exv36]; rfl) (by decide) rfl (fun ls hl => ?_)
  clear exv36
  refine lv_goto (tgt := 375) hx hb dX10_changes_440 (by decide) ?_
  exact hk375 M _ _ _ a0 x3 x5 x6 xv36 hF hW hS (lv_sub hl [1, 2, 3, 4, 0] rfl)
set_option maxRecDepth 100000 in
set_option maxHeartbeats 4000000 in
theorem kb_X10_changes_b419 (C : ps_C p s m args meth c cX10_changes 10 RX10 ((some .int)) "changes" D Y B) {q : Int32 × ps_M} (k375 : ps_M → Nat → Int32 → Int32 → Int32 → Int32 → Option (Int32 × ps_M)) (hk375 : ∀ (M : ps_M) (H : Heap) (locs : List Loc) (ls : Array Slot) (a0 : Nat) (x3 : Int32) (x5 : Int32) (x6 : Int32) (x7 : Int32), k375 M a0 x3 x5 x6 x7 = some q → ps_W D Y B M H → va_S (fun q => B ≤ q) s.heap H locs → lv_has ls 10 [(0, .ref (B + a0)), (3, .int x3), (5, .int x5), (6, .int x6), (7, .int x7)] → W p l e rm_X10_changes s m args below meth c H locs 0 0 (ps_Qi D Y B below args s 0 0 q) (F0 m 375 ls [])) {M : ps_M} {a0 : Nat} {x3 : Int32} {x7 : Int32} (hF : f_X10_changes_b419 k375 M a0 x3 x7 = some q) (hW : ps_W D Y B M H) (hS : va_S (fun q => B ≤ q) s.heap H locs) (hl : lv_has ls 10 [(0, .ref (B + a0)), (3, .int x3), (7, .int x7)]) : W p l e rm_X10_changes s m args below meth c H locs 0 0 (ps_Qi D Y B below args s 0 0 q) (F0 m 419 ls []) := by
  have hx := C.1
  have hb := C.2.1
  have hml := C.2.2.1
  have hown := C.2.2.2.1
  have hts := C.2.2.2.2.1
  unfold f_X10_changes_b419 at hF
  refine lv_aload_n hx hb dX10_changes_419 rfl (lv_at hl 0 rfl) ?_
  refine pw_gR C hW pc_9 (k := 27) (by decide) rfl tq_945 dX10_changes_420 hF (fun av37 hF => ?_)
  refine lv_iload hx hb dX10_changes_423 (lv_at hl 2 rfl) ?_
  refine pw_aI C hW dX10_changes_425 hF (fun xv38 hF => ?_)
  refine lv_istore (lv' := [(5, .int xv38), (0, .ref (B + a0)), (3, .int x3), (7, .int x7)]) hx hb dX10_changes_426 hl (by decide) rfl (fun ls hl => ?_)
  refine lv_aload_n hx hb dX10_changes_428 rfl (lv_at hl 1 rfl) ?_
  refine pw_gR C hW pc_9 (k := 29) (by decide) rfl tq_947 dX10_changes_429 hF (fun av39 hF => ?_)
  refine lv_iload hx hb dX10_changes_432 (lv_at hl 3 rfl) ?_
  refine pw_aI C hW dX10_changes_434 hF (fun xv40 hF => ?_)
  refine lv_istore (lv' := [(6, .int xv40), (5, .int xv38), (0, .ref (B + a0)), (3, .int x3), (7, .int x7)]) hx hb dX10_changes_435 hl (by decide) rfl (fun ls hl => ?_)
  exact kb_X10_changes_b437 C k375 hk375 hF hW hS (lv_sub hl [2, 3, 1, 0, 4] rfl)
set_option maxRecDepth 100000 in
set_option maxHeartbeats 4000000 in
theorem kb_X10_changes_b474 (C : ps_C p s m args meth c cX10_changes 10 RX10 ((some .int)) "changes" D Y B) {q : Int32 × ps_M}  {M : ps_M} {t0 : Int32} (hF : f_X10_changes_b474 M t0 = some q) (hW : ps_W D Y B M H) (hS : va_S (fun q => B ≤ q) s.heap H locs) (hl : lv_has ls 10 []) : W p l e rm_X10_changes s m args below meth c H locs 0 0 (ps_Qi D Y B below args s 0 0 q) (F0 m 474 ls [.int t0]) := by
  have hx := C.1
  have hb := C.2.1
  have hml := C.2.2.1
  have hown := C.2.2.2.1
  have hts := C.2.2.2.2.1
  unfold f_X10_changes_b474 at hF
  exact pw_iret C hW hS dX10_changes_474 hF
set_option maxRecDepth 100000 in
set_option maxHeartbeats 4000000 in
theorem kb_X10_changes_w375 (C : ps_C p s m args meth c cX10_changes 10 RX10 ((some .int)) "changes" D Y B) {q : Int32 × ps_M} (k375 : ps_M → Nat → Int32 → Int32 → Int32 → Int32 → Option (Int32 × ps_M)) (hk375 : ∀ (M : ps_M) (H : Heap) (locs : List Loc) (ls : Array Slot) (a0 : Nat) (x3 : Int32) (x5 : Int32) (x6 : Int32) (x7 : Int32), k375 M a0 x3 x5 x6 x7 = some q → ps_W D Y B M H → va_S (fun q => B ≤ q) s.heap H locs → lv_has ls 10 [(0, .ref (B + a0)), (3, .int x3), (5, .int x5), (6, .int x6), (7, .int x7)] → W p l e rm_X10_changes s m args below meth c H locs 0 0 (ps_Qi D Y B below args s 0 0 q) (F0 m 375 ls [])) {M : ps_M} {a0 : Nat} {x3 : Int32} {x5 : Int32} {x6 : Int32} {x7 : Int32} (hF : f_X10_changes_w375 k375 M a0 x3 x5 x6 x7 = some q) (hW : ps_W D Y B M H) (hS : va_S (fun q => B ≤ q) s.heap H locs) (hl : lv_has ls 10 [(0, .ref (B + a0)), (3, .int x3), (5, .int x5), (6, .int x6), (7, .int x7)]) : W p l e rm_X10_changes s m args below meth c H locs 0 0 (ps_Qi D Y B below args s 0 0 q) (F0 m 375 ls []) := by
  have hx := C.1
  have hb := C.2.1
  have hml := C.2.2.1
  have hown := C.2.2.2.1
  have hts := C.2.2.2.2.1
  unfold f_X10_changes_w375 at hF
  refine lv_iload hx hb dX10_changes_375 (lv_at hl 4 rfl) ?_
  refine lv_sipush (v := 1204) hx hb dX10_changes_377 (by decide) ?_
  refine lv_icmp_ge (tgt := 443) hx hb dX10_changes_380 (by decide) (fun hv41 => ?_) (fun hv41 => ?_)
  · replace hF := (if_pos hv41).symm.trans hF
    refine lv_iload hx hb dX10_changes_443 (lv_at hl 2 rfl) ?_
    refine lv_ldc (v := 99999999) hx hb hown (hts _ tq_1214) dX10_changes_445 ?_
    refine lv_icmp_ne (tgt := 454) hx hb dX10_changes_447 (by decide) (fun hv42 => ?_) (fun hv42 => ?_)
    · replace hF := (if_neg hv42).symm.trans hF
      refine lv_iload_n hx hb dX10_changes_454 rfl (lv_at hl 1 rfl) ?_
      refine lv_if_ne (tgt := 463) hx hb dX10_changes_455 (by decide) (fun hv43 => ?_) (fun hv43 => ?_)
      · replace hF := (if_neg hv43).symm.trans hF
        refine lv_iload hx hb dX10_changes_463 (lv_at hl 2 rfl) ?_
        refine lv_if_ne (tgt := 472) hx hb dX10_changes_465 (by decide) (fun hv44 => ?_) (fun hv44 => ?_)
        · replace hF := (if_neg hv44).symm.trans hF
          refine lv_iload hx hb dX10_changes_472 (lv_at hl 3 rfl) ?_
          exact kb_X10_changes_b474 C hF hW hS (lv_sub hl [] rfl)
        · replace hF := (if_pos hv44).symm.trans hF
          refine lv_iconst (v := -1) hx hb dX10_changes_468 (by decide) ?_
          refine lv_goto (tgt := 474) hx hb dX10_changes_469 (by decide) ?_
          exact kb_X10_changes_b474 C hF hW hS (lv_sub hl [] rfl)
      · replace hF := (if_pos hv43).symm.trans hF
        refine lv_iload hx hb dX10_changes_458 (lv_at hl 2 rfl) ?_
        refine lv_goto (tgt := 474) hx hb dX10_changes_460 (by decide) ?_
        exact kb_X10_changes_b474 C hF hW hS (lv_sub hl [] rfl)
    · replace hF := (if_pos hv42).symm.trans hF
      refine lv_iconst (v := -1) hx hb dX10_changes_450 (by decide) ?_
      refine lv_goto (tgt := 474) hx hb dX10_changes_451 (by decide) ?_
      exact kb_X10_changes_b474 C hF hW hS (lv_sub hl [] rfl)
  · replace hF := (if_neg hv41).symm.trans hF
    refine lv_aload_n hx hb dX10_changes_383 rfl (lv_at hl 0 rfl) ?_
    refine pw_gR C hW pc_9 (k := 27) (by decide) rfl tq_945 dX10_changes_384 hF (fun av45 hF => ?_)
    refine lv_iload hx hb dX10_changes_387 (lv_at hl 4 rfl) ?_
    refine pw_aI C hW dX10_changes_389 hF (fun xv46 hF => ?_)
    refine lv_iload hx hb dX10_changes_390 (lv_at hl 2 rfl) ?_
    refine lv_icmp_lt (tgt := 419) hx hb dX10_changes_392 (by decide) (fun hv47 => ?_) (fun hv47 => ?_)
    · replace hF := (if_pos hv47).symm.trans hF
      exact kb_X10_changes_b419 C k375 hk375 hF hW hS (lv_sub hl [0, 1, 4] rfl)
    · replace hF := (if_neg hv47).symm.trans hF
      refine lv_aload_n hx hb dX10_changes_395 rfl (lv_at hl 0 rfl) ?_
      refine pw_gR C hW pc_9 (k := 27) (by decide) rfl tq_945 dX10_changes_396 hF (fun av48 hF => ?_)
      refine lv_iload hx hb dX10_changes_399 (lv_at hl 4 rfl) ?_
      refine pw_aI C hW dX10_changes_401 hF (fun xv49 hF => ?_)
      refine lv_iload hx hb dX10_changes_402 (lv_at hl 2 rfl) ?_
      refine lv_icmp_ne (tgt := 437) hx hb dX10_changes_404 (by decide) (fun hv50 => ?_) (fun hv50 => ?_)
      · replace hF := (if_neg hv50).symm.trans hF
        exact kb_X10_changes_b437 C k375 hk375 hF hW hS (lv_sub hl [0, 1, 2, 3, 4] rfl)
      · replace hF := (if_pos hv50).symm.trans hF
        refine lv_aload_n hx hb dX10_changes_407 rfl (lv_at hl 0 rfl) ?_
        refine pw_gR C hW pc_9 (k := 29) (by decide) rfl tq_947 dX10_changes_408 hF (fun av51 hF => ?_)
        refine lv_iload hx hb dX10_changes_411 (lv_at hl 4 rfl) ?_
        refine pw_aI C hW dX10_changes_413 hF (fun xv52 hF => ?_)
        refine lv_iload hx hb dX10_changes_414 (lv_at hl 3 rfl) ?_
        refine lv_icmp_le (tgt := 437) hx hb dX10_changes_416 (by decide) (fun hv53 => ?_) (fun hv53 => ?_)
        · replace hF := (if_pos hv53).symm.trans hF
          exact kb_X10_changes_b437 C k375 hk375 hF hW hS (lv_sub hl [0, 1, 2, 3, 4] rfl)
        · replace hF := (if_neg hv53).symm.trans hF
          exact kb_X10_changes_b419 C k375 hk375 hF hW hS (lv_sub hl [0, 1, 4] rfl)
theorem kb_X10_changes_l375 (C : ps_C p s m args meth c cX10_changes 10 RX10 ((some .int)) "changes" D Y B) {q : Int32 × ps_M}  : ∀ (n : Nat) (M : ps_M) (H : Heap) (locs : List Loc) (ls : Array Slot) (a0 : Nat) (x3 : Int32) (x5 : Int32) (x6 : Int32) (x7 : Int32), f_X10_changes_l375 n M a0 x3 x5 x6 x7 = some q → ps_W D Y B M H → va_S (fun q => B ≤ q) s.heap H locs → lv_has ls 10 [(0, .ref (B + a0)), (3, .int x3), (5, .int x5), (6, .int x6), (7, .int x7)] → W p l e rm_X10_changes s m args below meth c H locs 0 0 (ps_Qi D Y B below args s 0 0 q) (F0 m 375 ls []) := by
  intro n
  induction n with
  | zero => intro M H locs ls a0 x3 x5 x6 x7 hF; cases hF
  | succ n ih => intro M H locs ls a0 x3 x5 x6 x7 hF hW hS hl; exact kb_X10_changes_w375 C  (f_X10_changes_l375 n) ih hF hW hS hl
set_option maxRecDepth 100000 in
set_option maxHeartbeats 4000000 in
theorem kb_X10_changes_w122 (C : ps_C p s m args meth c cX10_changes 10 RX10 ((some .int)) "changes" D Y B) {q : Int32 × ps_M} (k122 : ps_M → Nat → Int32 → Int32 → Int32 → Int32 → Int32 → Option (Int32 × ps_M)) (hk122 : ∀ (M : ps_M) (H : Heap) (locs : List Loc) (ls : Array Slot) (a0 : Nat) (x1 : Int32) (x2 : Int32) (x3 : Int32) (x4 : Int32) (x5 : Int32), k122 M a0 x1 x2 x3 x4 x5 = some q → ps_W D Y B M H → va_S (fun q => B ≤ q) s.heap H locs → lv_has ls 10 [(0, .ref (B + a0)), (1, .int x1), (2, .int x2), (3, .int x3), (4, .int x4), (5, .int x5)] → W p l e rm_X10_changes s m args below meth c H locs 0 0 (ps_Qi D Y B below args s 0 0 q) (F0 m 122 ls [])) {M : ps_M} {a0 : Nat} {x1 : Int32} {x2 : Int32} {x3 : Int32} {x4 : Int32} {x5 : Int32} (hF : f_X10_changes_w122 k122 M a0 x1 x2 x3 x4 x5 = some q) (hW : ps_W D Y B M H) (hS : va_S (fun q => B ≤ q) s.heap H locs) (hl : lv_has ls 10 [(0, .ref (B + a0)), (1, .int x1), (2, .int x2), (3, .int x3), (4, .int x4), (5, .int x5)]) : W p l e rm_X10_changes s m args below meth c H locs 0 0 (ps_Qi D Y B below args s 0 0 q) (F0 m 122 ls []) := by
  have hx := C.1
  have hb := C.2.1
  have hml := C.2.2.1
  have hown := C.2.2.2.1
  have hts := C.2.2.2.2.1
  unfold f_X10_changes_w122 at hF
  refine lv_iload hx hb dX10_changes_122 (lv_at hl 5 rfl) ?_
  refine lv_iload_n hx hb dX10_changes_124 rfl (lv_at hl 1 rfl) ?_
  refine lv_icmp_ge (tgt := 365) hx hb dX10_changes_125 (by decide) (fun hv54 => ?_) (fun hv54 => ?_)
  · replace hF := (if_pos hv54).symm.trans hF
    refine lv_ldc (v := 99999999) hx hb hown (hts _ tq_1214) dX10_changes_365 ?_
    refine lv_istore (lv' := [(5, .int (99999999 : Int32)), (0, .ref (B + a0)), (1, .int x1), (2, .int x2), (3, .int x3), (4, .int x4)]) hx hb dX10_changes_367 hl (by decide) rfl (fun ls hl => ?_)
    refine lv_iconst (v := -1) hx hb dX10_changes_369 (by decide) ?_
    refine lv_istore (lv' := [(6, .int (-1 : Int32)), (5, .int (99999999 : Int32)), (0, .ref (B + a0)), (1, .int x1), (2, .int x2), (3, .int x3), (4, .int x4)]) hx hb dX10_changes_370 hl (by decide) rfl (fun ls hl => ?_)
    refine lv_iconst (v := 0) hx hb dX10_changes_372 (by decide) ?_
    refine lv_istore (lv' := [(7, .int (0 : Int32)), (6, .int (-1 : Int32)), (5, .int (99999999 : Int32)), (0, .ref (B + a0)), (1, .int x1), (2, .int x2), (3, .int x3), (4, .int x4)]) hx hb dX10_changes_373 hl (by decide) rfl (fun ls hl => ?_)
    exact kb_X10_changes_l375 C ps_fu M _ _ _ a0 x3 (99999999 : Int32) (-1 : Int32) (0 : Int32) hF hW hS (lv_sub hl [3, 6, 2, 1, 0] rfl)
  · replace hF := (if_neg hv54).symm.trans hF
    refine lv_iconst (v := 0) hx hb dX10_changes_128 (by decide) ?_
    refine lv_istore (lv' := [(6, .int (0 : Int32)), (0, .ref (B + a0)), (1, .int x1), (2, .int x2), (3, .int x3), (4, .int x4), (5, .int x5)]) hx hb dX10_changes_129 hl (by decide) rfl (fun ls hl => ?_)
    exact kb_X10_changes_l131 C k122 hk122 ps_fu M _ _ _ a0 x1 x2 x3 x4 x5 (0 : Int32) hF hW hS (lv_sub hl [1, 2, 3, 4, 5, 6, 0] rfl)
theorem kb_X10_changes_l122 (C : ps_C p s m args meth c cX10_changes 10 RX10 ((some .int)) "changes" D Y B) {q : Int32 × ps_M}  : ∀ (n : Nat) (M : ps_M) (H : Heap) (locs : List Loc) (ls : Array Slot) (a0 : Nat) (x1 : Int32) (x2 : Int32) (x3 : Int32) (x4 : Int32) (x5 : Int32), f_X10_changes_l122 n M a0 x1 x2 x3 x4 x5 = some q → ps_W D Y B M H → va_S (fun q => B ≤ q) s.heap H locs → lv_has ls 10 [(0, .ref (B + a0)), (1, .int x1), (2, .int x2), (3, .int x3), (4, .int x4), (5, .int x5)] → W p l e rm_X10_changes s m args below meth c H locs 0 0 (ps_Qi D Y B below args s 0 0 q) (F0 m 122 ls []) := by
  intro n
  induction n with
  | zero => intro M H locs ls a0 x1 x2 x3 x4 x5 hF; cases hF
  | succ n ih => intro M H locs ls a0 x1 x2 x3 x4 x5 hF hW hS hl; exact kb_X10_changes_w122 C  (f_X10_changes_l122 n) ih hF hW hS hl
set_option maxRecDepth 100000 in
set_option maxHeartbeats 4000000 in
theorem kb_X10_changes_w77 (C : ps_C p s m args meth c cX10_changes 10 RX10 ((some .int)) "changes" D Y B) {q : Int32 × ps_M} (k77 : ps_M → Nat → Int32 → Int32 → Int32 → Int32 → Int32 → Option (Int32 × ps_M)) (hk77 : ∀ (M : ps_M) (H : Heap) (locs : List Loc) (ls : Array Slot) (a0 : Nat) (x1 : Int32) (x2 : Int32) (x3 : Int32) (x4 : Int32) (x5 : Int32), k77 M a0 x1 x2 x3 x4 x5 = some q → ps_W D Y B M H → va_S (fun q => B ≤ q) s.heap H locs → lv_has ls 10 [(0, .ref (B + a0)), (1, .int x1), (2, .int x2), (3, .int x3), (4, .int x4), (5, .int x5)] → W p l e rm_X10_changes s m args below meth c H locs 0 0 (ps_Qi D Y B below args s 0 0 q) (F0 m 77 ls [])) {M : ps_M} {a0 : Nat} {x1 : Int32} {x2 : Int32} {x3 : Int32} {x4 : Int32} {x5 : Int32} (hF : f_X10_changes_w77 k77 M a0 x1 x2 x3 x4 x5 = some q) (hW : ps_W D Y B M H) (hS : va_S (fun q => B ≤ q) s.heap H locs) (hl : lv_has ls 10 [(0, .ref (B + a0)), (1, .int x1), (2, .int x2), (3, .int x3), (4, .int x4), (5, .int x5)]) : W p l e rm_X10_changes s m args below meth c H locs 0 0 (ps_Qi D Y B below args s 0 0 q) (F0 m 77 ls []) := by
  have hx := C.1
  have hb := C.2.1
  have hml := C.2.2.1
  have hown := C.2.2.2.1
  have hts := C.2.2.2.2.1
  unfold f_X10_changes_w77 at hF
  refine lv_iload hx hb dX10_changes_77 (lv_at hl 5 rfl) ?_
  refine lv_sipush (v := 1204) hx hb dX10_changes_79 (by decide) ?_
  refine lv_icmp_ge (tgt := 100) hx hb dX10_changes_82 (by decide) (fun hv55 => ?_) (fun hv55 => ?_)
  · replace hF := (if_pos hv55).symm.trans hF
    refine lv_aload_n hx hb dX10_changes_100 rfl (lv_at hl 0 rfl) ?_
    refine pw_gR C hW pc_9 (k := 27) (by decide) rfl tq_945 dX10_changes_101 hF (fun av56 hF => ?_)
    refine lv_sipush (v := 602) hx hb dX10_changes_104 (by decide) ?_
    refine lv_iconst (v := 0) hx hb dX10_changes_107 (by decide) ?_
    refine pw_xI C hW hS dX10_changes_108 hF (fun M H locs hW hS hF => ?_)
    refine lv_aload_n hx hb dX10_changes_109 rfl (lv_at hl 0 rfl) ?_
    refine pw_gR C hW pc_9 (k := 29) (by decide) rfl tq_947 dX10_changes_110 hF (fun av57 hF => ?_)
    refine lv_sipush (v := 602) hx hb dX10_changes_113 (by decide) ?_
    refine lv_bipush (v := 99) hx hb dX10_changes_116 (by decide) ?_
    refine pw_xI C hW hS dX10_changes_118 hF (fun M H locs hW hS hF => ?_)
    refine lv_iconst (v := 0) hx hb dX10_changes_119 (by decide) ?_
    refine lv_istore (lv' := [(5, .int (0 : Int32)), (0, .ref (B + a0)), (1, .int x1), (2, .int x2), (3, .int x3), (4, .int x4)]) hx hb dX10_changes_120 hl (by decide) rfl (fun ls hl => ?_)
    exact kb_X10_changes_l122 C ps_fu M _ _ _ a0 x1 x2 x3 x4 (0 : Int32) hF hW hS (lv_sub hl [1, 2, 3, 4, 5, 0] rfl)
  · replace hF := (if_neg hv55).symm.trans hF
    refine lv_aload_n hx hb dX10_changes_85 rfl (lv_at hl 0 rfl) ?_
    refine pw_gR C hW pc_9 (k := 27) (by decide) rfl tq_945 dX10_changes_86 hF (fun av58 hF => ?_)
    refine lv_iload hx hb dX10_changes_89 (lv_at hl 5 rfl) ?_
    refine lv_ldc (v := 99999999) hx hb hown (hts _ tq_1214) dX10_changes_91 ?_
    refine pw_xI C hW hS dX10_changes_93 hF (fun M H locs hW hS hF => ?_)
    obtain ⟨xv59, exv59, hF⟩ := ps_ve hF
    refine lv_iinc (v := xv59) (lv' := [(5, .int xv59), (0, .ref (B + a0)), (1, .int x1), (2, .int x2), (3, .int x3), (4, .int x4)]) hx hb dX10_changes_94 hl (k := 5) rfl (by rw [exv59]; rfl) (by decide) rfl (fun ls hl => ?_)
    clear exv59
    refine lv_goto (tgt := 77) hx hb dX10_changes_97 (by decide) ?_
    exact hk77 M _ _ _ a0 x1 x2 x3 x4 xv59 hF hW hS (lv_sub hl [1, 2, 3, 4, 5, 0] rfl)
theorem kb_X10_changes_l77 (C : ps_C p s m args meth c cX10_changes 10 RX10 ((some .int)) "changes" D Y B) {q : Int32 × ps_M}  : ∀ (n : Nat) (M : ps_M) (H : Heap) (locs : List Loc) (ls : Array Slot) (a0 : Nat) (x1 : Int32) (x2 : Int32) (x3 : Int32) (x4 : Int32) (x5 : Int32), f_X10_changes_l77 n M a0 x1 x2 x3 x4 x5 = some q → ps_W D Y B M H → va_S (fun q => B ≤ q) s.heap H locs → lv_has ls 10 [(0, .ref (B + a0)), (1, .int x1), (2, .int x2), (3, .int x3), (4, .int x4), (5, .int x5)] → W p l e rm_X10_changes s m args below meth c H locs 0 0 (ps_Qi D Y B below args s 0 0 q) (F0 m 77 ls []) := by
  intro n
  induction n with
  | zero => intro M H locs ls a0 x1 x2 x3 x4 x5 hF; cases hF
  | succ n ih => intro M H locs ls a0 x1 x2 x3 x4 x5 hF hW hS hl; exact kb_X10_changes_w77 C  (f_X10_changes_l77 n) ih hF hW hS hl
set_option maxRecDepth 100000 in
set_option maxHeartbeats 4000000 in
theorem kb_X10_changes (C : ps_C p s m args meth c cX10_changes 10 RX10 ((some .int)) "changes" D Y B) {q : Int32 × ps_M}  {M : ps_M} {a0 : Nat} {x1 : Int32} {x2 : Int32} {x3 : Int32} (hF : f_X10_changes M a0 x1 x2 x3 = some q) (hW : ps_W D Y B M H) (hS : va_S (fun q => B ≤ q) s.heap H locs) (hl : lv_has ls 10 [(0, .ref (B + a0)), (1, .int x1), (2, .int x2), (3, .int x3)]) : W p l e rm_X10_changes s m args below meth c H locs 0 0 (ps_Qi D Y B below args s 0 0 q) (F0 m 0 ls []) := by
  have hx := C.1
  have hb := C.2.1
  have hml := C.2.2.1
  have hown := C.2.2.2.1
  have hts := C.2.2.2.2.1
  unfold f_X10_changes at hF
  refine lv_iload_n hx hb dX10_changes_0 rfl (lv_at hl 1 rfl) ?_
  refine lv_i2l hx hb dX10_changes_1 rfl ?_
  refine lv_lconst (v := 1) hx hb dX10_changes_2 (by decide) ?_
  refine lv_ldc2 (v := 30) hx hb hown (hts _ tq_1201) dX10_changes_3 ?_
  obtain ⟨xv60, M9, hc, hF⟩ := ps_b2_some hF
  refine ps_backI (x0 := xv60) (M' := M9) hS (ps_callS C hW mf_X10_in tq_1031 tq_1030 ⟨Nat.le_of_ble_eq_true rfl, Nat.le_of_ble_eq_true rfl⟩ rfl rfl (As := [.long (x1.toInt64), .long (1 : Int64), .long (30 : Int64)]) (rest := []) (c_X10_in hc) rfl hl.1 rfl (Nat.le_of_ble_eq_true rfl) dX10_changes_6 ⟨Nat.le_of_ble_eq_true rfl, Nat.le_of_ble_eq_true rfl⟩) (fun H locs hW hS => ?_)
  clear hc
  generalize M9 = M at hW hF
  refine lv_if_eq (tgt := 34) hx hb dX10_changes_9 (by decide) (fun hv61 => ?_) (fun hv61 => ?_)
  · replace hF := (if_pos hv61).symm.trans hF
    exact kb_X10_changes_b34 C hF hW hS (lv_sub hl [] rfl)
  · replace hF := (if_neg hv61).symm.trans hF
    refine lv_iload_n hx hb dX10_changes_12 rfl (lv_at hl 2 rfl) ?_
    refine lv_i2l hx hb dX10_changes_13 rfl ?_
    refine lv_lconst (v := 0) hx hb dX10_changes_14 (by decide) ?_
    refine lv_ldc2 (v := 999) hx hb hown (hts _ tq_1252) dX10_changes_15 ?_
    obtain ⟨xv62, M9, hc, hF⟩ := ps_b2_some hF
    refine ps_backI (x0 := xv62) (M' := M9) hS (ps_callS C hW mf_X10_in tq_1031 tq_1030 ⟨Nat.le_of_ble_eq_true rfl, Nat.le_of_ble_eq_true rfl⟩ rfl rfl (As := [.long (x2.toInt64), .long (0 : Int64), .long (999 : Int64)]) (rest := []) (c_X10_in hc) rfl hl.1 rfl (Nat.le_of_ble_eq_true rfl) dX10_changes_18 ⟨Nat.le_of_ble_eq_true rfl, Nat.le_of_ble_eq_true rfl⟩) (fun H locs hW hS => ?_)
    clear hc
    generalize M9 = M at hW hF
    refine lv_if_eq (tgt := 34) hx hb dX10_changes_21 (by decide) (fun hv63 => ?_) (fun hv63 => ?_)
    · replace hF := (if_pos hv63).symm.trans hF
      exact kb_X10_changes_b34 C hF hW hS (lv_sub hl [] rfl)
    · replace hF := (if_neg hv63).symm.trans hF
      refine lv_iload_n hx hb dX10_changes_24 rfl (lv_at hl 3 rfl) ?_
      refine lv_i2l hx hb dX10_changes_25 rfl ?_
      refine lv_lconst (v := 0) hx hb dX10_changes_26 (by decide) ?_
      refine lv_lconst (v := 1) hx hb dX10_changes_27 (by decide) ?_
      obtain ⟨xv64, M9, hc, hF⟩ := ps_b2_some hF
      refine ps_backI (x0 := xv64) (M' := M9) hS (ps_callS C hW mf_X10_in tq_1031 tq_1030 ⟨Nat.le_of_ble_eq_true rfl, Nat.le_of_ble_eq_true rfl⟩ rfl rfl (As := [.long (x3.toInt64), .long (0 : Int64), .long (1 : Int64)]) (rest := []) (c_X10_in hc) rfl hl.1 rfl (Nat.le_of_ble_eq_true rfl) dX10_changes_28 ⟨Nat.le_of_ble_eq_true rfl, Nat.le_of_ble_eq_true rfl⟩) (fun H locs hW hS => ?_)
      clear hc
      generalize M9 = M at hW hF
      refine lv_if_ne (tgt := 37) hx hb dX10_changes_31 (by decide) (fun hv65 => ?_) (fun hv65 => ?_)
      · replace hF := (if_neg hv65).symm.trans hF
        refine lv_aload_n hx hb dX10_changes_37 rfl (lv_at hl 0 rfl) ?_
        obtain ⟨hK, hF⟩ := ps_ck_some hF
        obtain ⟨xv66, M9, hc, hF⟩ := ps_b2_some hF
        refine ps_backI (x0 := xv66) (M' := M9) hS (ps_callV C hW pc_9 mf_X10_isPair tq_1120 tq_41 tq_1118 ⟨Nat.le_of_ble_eq_true rfl, Nat.le_of_ble_eq_true rfl⟩ rfl rfl (As := []) (rest := []) (c_X10_isPair hc) hK rfl hl.1 rfl (Nat.le_of_ble_eq_true rfl) dX10_changes_38 ⟨Nat.le_of_ble_eq_true rfl, Nat.le_of_ble_eq_true rfl⟩) (fun H locs hW hS => ?_)
        clear hc
        generalize M9 = M at hW hF
        refine lv_if_ne (tgt := 47) hx hb dX10_changes_41 (by decide) (fun hv67 => ?_) (fun hv67 => ?_)
        · replace hF := (if_neg hv67).symm.trans hF
          refine lv_aload_n hx hb dX10_changes_47 rfl (lv_at hl 0 rfl) ?_
          refine pw_gR C hW pc_9 (k := 16) (by decide) rfl tq_934 dX10_changes_48 hF (fun av68 hF => ?_)
          refine lv_aload_n hx hb dX10_changes_51 rfl (lv_at hl 0 rfl) ?_
          refine pw_gR C hW pc_9 (k := 0) (by decide) rfl tq_918 dX10_changes_52 hF (fun av69 hF => ?_)
          refine lv_bipush (v := 16) hx hb dX10_changes_55 (by decide) ?_
          refine pw_aI C hW dX10_changes_57 hF (fun xv70 hF => ?_)
          refine pw_aI C hW dX10_changes_58 hF (fun xv71 hF => ?_)
          refine lv_aload_n hx hb dX10_changes_59 rfl (lv_at hl 0 rfl) ?_
          refine pw_gR C hW pc_9 (k := 16) (by decide) rfl tq_934 dX10_changes_60 hF (fun av72 hF => ?_)
          refine lv_aload_n hx hb dX10_changes_63 rfl (lv_at hl 0 rfl) ?_
          refine pw_gR C hW pc_9 (k := 0) (by decide) rfl tq_918 dX10_changes_64 hF (fun av73 hF => ?_)
          refine lv_bipush (v := 17) hx hb dX10_changes_67 (by decide) ?_
          refine pw_aI C hW dX10_changes_69 hF (fun xv74 hF => ?_)
          refine pw_aI C hW dX10_changes_70 hF (fun xv75 hF => ?_)
          refine lv_isub hx hb dX10_changes_71 ?_
          refine pw_v hF (fun xv76 hF => ?_)
          refine lv_istore (lv' := [(4, .int xv76), (0, .ref (B + a0)), (1, .int x1), (2, .int x2), (3, .int x3)]) hx hb dX10_changes_72 hl (by decide) rfl (fun ls hl => ?_)
          refine lv_iconst (v := 0) hx hb dX10_changes_74 (by decide) ?_
          refine lv_istore (lv' := [(5, .int (0 : Int32)), (4, .int xv76), (0, .ref (B + a0)), (1, .int x1), (2, .int x2), (3, .int x3)]) hx hb dX10_changes_75 hl (by decide) rfl (fun ls hl => ?_)
          exact kb_X10_changes_l77 C ps_fu M _ _ _ a0 x1 x2 x3 xv76 (0 : Int32) hF hW hS (lv_sub hl [2, 3, 4, 5, 1, 0] rfl)
        · replace hF := (if_pos hv67).symm.trans hF
          refine lv_ldc (v := -1000000003) hx hb hown (hts _ tq_1112) dX10_changes_44 ?_
          exact pw_iret C hW hS dX10_changes_46 hF
      · replace hF := (if_pos hv65).symm.trans hF
        exact kb_X10_changes_b34 C hF hW hS (lv_sub hl [] rfl)
theorem mf_X10_changes : ps_mf yX10_changes cX10_changes 10 ((some .int)) 3 := ⟨tq_1251, tq_71, by decide +kernel, by decide +kernel, by decide +kernel⟩
theorem c_X10_changes {l : Launch} {D : va_G} {Y : ps_A} {B : Nat} {M : ps_M} {a0 : Nat} {x1 : Int32} {x2 : Int32} {x3 : Int32} {r : Int32} {M' : ps_M} (hF : f_X10_changes M a0 x1 x2 x3 = some (r, M')) : Met l yX10_changes (Cond.code yX10_changes cX10_changes 10 ((some .int)) :: tb_G) rm_X10_changes (ps_PB D Y B M [.ref (B + a0), .int x1, .int x2, .int x3]) (va_Qi (fun x (_ : Unit) => x = r) (fun _ t => ps_St D Y B M' t) (fun q => B ≤ q)) 0 0 (fun q => B ≤ q) :=
  pm_of (by decide +kernel) (Nat.le_of_ble_eq_true rfl) (fun p e s m args below meth c C hW hS ls hl => kb_X10_changes C hF hW hS hl)

abbrev rm_X10_whenWedge : Room := { frames := 5, cells := 0, slots := 0, locals := 118 }
def f_X10_whenWedge_b157 (k36 : ps_M → Nat → Int32 → Int32 → Int32 → Int32 → Option (Int32 × ps_M)) (M : ps_M) (a0 : Nat) (x1 : Int32) (x3 : Int32) (x4 : Int32) (x5 : Int32) : Option (Int32 × ps_M) := ps_v (x5 + 1) (fun xv1 => k36 M a0 x1 x3 x4 xv1)
def f_X10_whenWedge_b141 (k36 : ps_M → Nat → Int32 → Int32 → Int32 → Int32 → Option (Int32 × ps_M)) (M : ps_M) (a0 : Nat) (x1 : Int32) (x3 : Int32) (x4 : Int32) (x5 : Int32) (t0 : Int32) : Option (Int32 × ps_M) := if x4 ≤ t0 then (f_X10_whenWedge_b157 k36 M a0 x1 x3 x4 x5) else (f_X10_whenWedge_b157 k36 M a0 x1 x5 t0 x5)
def f_X10_whenWedge_b93 (k36 : ps_M → Nat → Int32 → Int32 → Int32 → Int32 → Option (Int32 × ps_M)) (M : ps_M) (a0 : Nat) (x1 : Int32) (x3 : Int32) (x4 : Int32) (x5 : Int32) : Option (Int32 × ps_M) := ps_ck M a0 9 (ps_b2 (f_X10_isThrough M a0 (28 : Int32)) (fun xv3 M => if xv3 = 0 then (ps_gR M a0 9 0 (fun av5 => ps_xI M av5 (51 : Int32) (1 : Int32) (fun M => ps_ck M a0 9 (ps_b2 (f_X10_goOn M a0 ((999 : Int32) - x5)) (fun xv6 M => if xv6 = (99999999 : Int32) then (f_X10_whenWedge_b141 k36 M a0 x1 x3 x4 x5 (99999999 : Int32)) else (f_X10_whenWedge_b141 k36 M a0 x1 x3 x4 x5 ((x5 + (3 : Int32)) + xv6))))))) else (f_X10_whenWedge_b157 k36 M a0 x1 x3 x4 x5)))
def f_X10_whenWedge_w63 (k36 : ps_M → Nat → Int32 → Int32 → Int32 → Int32 → Option (Int32 × ps_M)) (k63 : ps_M → Nat → Int32 → Int32 → Int32 → Int32 → Int32 → Option (Int32 × ps_M)) (M : ps_M) (a0 : Nat) (x1 : Int32) (x3 : Int32) (x4 : Int32) (x5 : Int32) (x6 : Int32) : Option (Int32 × ps_M) := if x5 ≤ x6 then (f_X10_whenWedge_b93 k36 M a0 x1 x3 x4 x5) else (ps_ck M a0 9 (ps_b2 (f_X10_isThrough M a0 (28 : Int32)) (fun xv9 M => if xv9 = 0 then (ps_ck M a0 9 (ps_b2 (f_X10_pull M a0 (28 : Int32)) (fun xv11 M => ps_v (x6 + 1) (fun xv12 => k63 M a0 x1 x3 x4 x5 xv12)))) else (f_X10_whenWedge_b93 k36 M a0 x1 x3 x4 x5))))
def f_X10_whenWedge_l63 (k36 : ps_M → Nat → Int32 → Int32 → Int32 → Int32 → Option (Int32 × ps_M)) : Nat → ps_M → Nat → Int32 → Int32 → Int32 → Int32 → Int32 → Option (Int32 × ps_M)
  | 0, _, _, _, _, _, _, _ => none
  | n + 1, M, a0, x1, x3, x4, x5, x6 => f_X10_whenWedge_w63 k36 (f_X10_whenWedge_l63 k36 n) M a0 x1 x3 x4 x5 x6
def f_X10_whenWedge_b177 (M : ps_M) (t0 : Int32) : Option (Int32 × ps_M) := some (t0, M)
def f_X10_whenWedge_b171 (M : ps_M) (x3 : Int32) : Option (Int32 × ps_M) := f_X10_whenWedge_b177 M x3
def f_X10_whenWedge_b163 (M : ps_M) (x1 : Int32) (x3 : Int32) (x4 : Int32) : Option (Int32 × ps_M) := if x3 < 0 then (f_X10_whenWedge_b171 M x3) else (if x1 = 0 then (f_X10_whenWedge_b171 M x3) else (f_X10_whenWedge_b177 M x4))
def f_X10_whenWedge_w36 (k36 : ps_M → Nat → Int32 → Int32 → Int32 → Int32 → Option (Int32 × ps_M)) (M : ps_M) (a0 : Nat) (x1 : Int32) (x3 : Int32) (x4 : Int32) (x5 : Int32) : Option (Int32 × ps_M) := if (100 : Int32) ≤ x5 then (f_X10_whenWedge_b163 M x1 x3 x4) else (ps_gR M a0 9 0 (fun av16 => ps_aI M av16 (23 : Int32) (fun xv17 => if xv17 = 0 then (ps_ck M a0 9 (ps_b1 (f_X10_copy M a0 (0 : Int32) (28 : Int32)) (fun M => f_X10_whenWedge_l63 k36 ps_fu M a0 x1 x3 x4 x5 (0 : Int32)))) else (f_X10_whenWedge_b163 M x1 x3 x4))))
def f_X10_whenWedge_l36 : Nat → ps_M → Nat → Int32 → Int32 → Int32 → Int32 → Option (Int32 × ps_M)
  | 0, _, _, _, _, _, _ => none
  | n + 1, M, a0, x1, x3, x4, x5 => f_X10_whenWedge_w36 (f_X10_whenWedge_l36 n) M a0 x1 x3 x4 x5
def f_X10_whenWedge (M : ps_M) (a0 : Nat) (x1 : Int32) : Option (Int32 × ps_M) := ps_b2 (f_X10_in M (x1.toInt64) (0 : Int64) (1 : Int64)) (fun xv19 M => if xv19 = 0 then (some ((-1000000002 : Int32), M)) else (ps_ck M a0 9 (ps_b2 (f_X10_isPair M a0 ) (fun xv21 M => if xv21 = 0 then (some ((-1000000003 : Int32), M)) else (ps_ck M a0 9 (ps_b2 (f_X10_goOnNow M a0 ) (fun xv23 M => f_X10_whenWedge_l36 ps_fu M a0 x1 (-1 : Int32) xv23 (0 : Int32))))))))
set_option maxRecDepth 100000 in
set_option maxHeartbeats 4000000 in
theorem kb_X10_whenWedge_b157 (C : ps_C p s m args meth c cX10_whenWedge 8 RX10 ((some .int)) "whenWedge" D Y B) {q : Int32 × ps_M} (k36 : ps_M → Nat → Int32 → Int32 → Int32 → Int32 → Option (Int32 × ps_M)) (hk36 : ∀ (M : ps_M) (H : Heap) (locs : List Loc) (ls : Array Slot) (a0 : Nat) (x1 : Int32) (x3 : Int32) (x4 : Int32) (x5 : Int32), k36 M a0 x1 x3 x4 x5 = some q → ps_W D Y B M H → va_S (fun q => B ≤ q) s.heap H locs → lv_has ls 8 [(0, .ref (B + a0)), (1, .int x1), (3, .int x3), (4, .int x4), (5, .int x5)] → W p l e rm_X10_whenWedge s m args below meth c H locs 0 0 (ps_Qi D Y B below args s 0 0 q) (F0 m 36 ls [])) {M : ps_M} {a0 : Nat} {x1 : Int32} {x3 : Int32} {x4 : Int32} {x5 : Int32} (hF : f_X10_whenWedge_b157 k36 M a0 x1 x3 x4 x5 = some q) (hW : ps_W D Y B M H) (hS : va_S (fun q => B ≤ q) s.heap H locs) (hl : lv_has ls 8 [(0, .ref (B + a0)), (1, .int x1), (3, .int x3), (4, .int x4), (5, .int x5)]) : W p l e rm_X10_whenWedge s m args below meth c H locs 0 0 (ps_Qi D Y B below args s 0 0 q) (F0 m 157 ls []) := by
  have hx := C.1
  have hb := C.2.1
  have hml := C.2.2.1
  have hown := C.2.2.2.1
  have hts := C.2.2.2.2.1
  unfold f_X10_whenWedge_b157 at hF
  obtain ⟨xv1, exv1, hF⟩ := ps_ve hF
  refine lv_iinc (v := xv1) (lv' := [(5, .int xv1), (0, .ref (B + a0)), (1, .int x1), (3, .int x3), (4, .int x4)]) hx hb dX10_whenWedge_157 hl (k := 4) rfl (by rw [exv1]; rfl) (by decide) rfl (fun ls hl => ?_)
  clear exv1
  refine lv_goto (tgt := 36) hx hb dX10_whenWedge_160 (by decide) ?_
  exact hk36 M _ _ _ a0 x1 x3 x4 xv1 hF hW hS (lv_sub hl [1, 2, 3, 4, 0] rfl)
set_option maxRecDepth 100000 in
set_option maxHeartbeats 4000000 in
theorem kb_X10_whenWedge_b141 (C : ps_C p s m args meth c cX10_whenWedge 8 RX10 ((some .int)) "whenWedge" D Y B) {q : Int32 × ps_M} (k36 : ps_M → Nat → Int32 → Int32 → Int32 → Int32 → Option (Int32 × ps_M)) (hk36 : ∀ (M : ps_M) (H : Heap) (locs : List Loc) (ls : Array Slot) (a0 : Nat) (x1 : Int32) (x3 : Int32) (x4 : Int32) (x5 : Int32), k36 M a0 x1 x3 x4 x5 = some q → ps_W D Y B M H → va_S (fun q => B ≤ q) s.heap H locs → lv_has ls 8 [(0, .ref (B + a0)), (1, .int x1), (3, .int x3), (4, .int x4), (5, .int x5)] → W p l e rm_X10_whenWedge s m args below meth c H locs 0 0 (ps_Qi D Y B below args s 0 0 q) (F0 m 36 ls [])) {M : ps_M} {a0 : Nat} {x1 : Int32} {x3 : Int32} {x4 : Int32} {x5 : Int32} {t0 : Int32} (hF : f_X10_whenWedge_b141 k36 M a0 x1 x3 x4 x5 t0 = some q) (hW : ps_W D Y B M H) (hS : va_S (fun q => B ≤ q) s.heap H locs) (hl : lv_has ls 8 [(0, .ref (B + a0)), (1, .int x1), (3, .int x3), (4, .int x4), (5, .int x5)]) : W p l e rm_X10_whenWedge s m args below meth c H locs 0 0 (ps_Qi D Y B below args s 0 0 q) (F0 m 141 ls [.int t0]) := by
  have hx := C.1
  have hb := C.2.1
  have hml := C.2.2.1
  have hown := C.2.2.2.1
  have hts := C.2.2.2.2.1
  unfold f_X10_whenWedge_b141 at hF
  refine lv_istore (lv' := [(7, .int t0), (0, .ref (B + a0)), (1, .int x1), (3, .int x3), (4, .int x4), (5, .int x5)]) hx hb dX10_whenWedge_141 hl (by decide) rfl (fun ls hl => ?_)
  refine lv_iload hx hb dX10_whenWedge_143 (lv_at hl 0 rfl) ?_
  refine lv_iload hx hb dX10_whenWedge_145 (lv_at hl 4 rfl) ?_
  refine lv_icmp_ge (tgt := 157) hx hb dX10_whenWedge_147 (by decide) (fun hv2 => ?_) (fun hv2 => ?_)
  · replace hF := (if_pos hv2).symm.trans hF
    exact kb_X10_whenWedge_b157 C k36 hk36 hF hW hS (lv_sub hl [1, 2, 3, 4, 5] rfl)
  · replace hF := (if_neg hv2).symm.trans hF
    refine lv_iload hx hb dX10_whenWedge_150 (lv_at hl 5 rfl) ?_
    refine lv_istore_n (lv' := [(3, .int x5), (7, .int t0), (0, .ref (B + a0)), (1, .int x1), (4, .int x4), (5, .int x5)]) hx hb dX10_whenWedge_152 rfl hl (by decide) rfl (fun ls hl => ?_)
    refine lv_iload hx hb dX10_whenWedge_153 (lv_at hl 1 rfl) ?_
    refine lv_istore (lv' := [(4, .int t0), (3, .int x5), (7, .int t0), (0, .ref (B + a0)), (1, .int x1), (5, .int x5)]) hx hb dX10_whenWedge_155 hl (by decide) rfl (fun ls hl => ?_)
    exact kb_X10_whenWedge_b157 C k36 hk36 hF hW hS (lv_sub hl [3, 4, 1, 0, 5] rfl)
set_option maxRecDepth 100000 in
set_option maxHeartbeats 4000000 in
theorem kb_X10_whenWedge_b93 (C : ps_C p s m args meth c cX10_whenWedge 8 RX10 ((some .int)) "whenWedge" D Y B) {q : Int32 × ps_M} (k36 : ps_M → Nat → Int32 → Int32 → Int32 → Int32 → Option (Int32 × ps_M)) (hk36 : ∀ (M : ps_M) (H : Heap) (locs : List Loc) (ls : Array Slot) (a0 : Nat) (x1 : Int32) (x3 : Int32) (x4 : Int32) (x5 : Int32), k36 M a0 x1 x3 x4 x5 = some q → ps_W D Y B M H → va_S (fun q => B ≤ q) s.heap H locs → lv_has ls 8 [(0, .ref (B + a0)), (1, .int x1), (3, .int x3), (4, .int x4), (5, .int x5)] → W p l e rm_X10_whenWedge s m args below meth c H locs 0 0 (ps_Qi D Y B below args s 0 0 q) (F0 m 36 ls [])) {M : ps_M} {a0 : Nat} {x1 : Int32} {x3 : Int32} {x4 : Int32} {x5 : Int32} (hF : f_X10_whenWedge_b93 k36 M a0 x1 x3 x4 x5 = some q) (hW : ps_W D Y B M H) (hS : va_S (fun q => B ≤ q) s.heap H locs) (hl : lv_has ls 8 [(0, .ref (B + a0)), (1, .int x1), (3, .int x3), (4, .int x4), (5, .int x5)]) : W p l e rm_X10_whenWedge s m args below meth c H locs 0 0 (ps_Qi D Y B below args s 0 0 q) (F0 m 93 ls []) := by
  have hx := C.1
  have hb := C.2.1
  have hml := C.2.2.1
  have hown := C.2.2.2.1
  have hts := C.2.2.2.2.1
  unfold f_X10_whenWedge_b93 at hF
  refine lv_aload_n hx hb dX10_whenWedge_93 rfl (lv_at hl 0 rfl) ?_
  refine lv_bipush (v := 28) hx hb dX10_whenWedge_94 (by decide) ?_
  obtain ⟨hK, hF⟩ := ps_ck_some hF
  obtain ⟨xv3, M9, hc, hF⟩ := ps_b2_some hF
  refine ps_backI (x0 := xv3) (M' := M9) hS (ps_callV C hW pc_9 mf_X10_isThrough tq_1090 tq_39 tq_1088 ⟨Nat.le_of_ble_eq_true rfl, Nat.le_of_ble_eq_true rfl⟩ rfl rfl (As := [.int (28 : Int32)]) (rest := []) (c_X10_isThrough hc) hK rfl hl.1 rfl (Nat.le_of_ble_eq_true rfl) dX10_whenWedge_96 ⟨Nat.le_of_ble_eq_true rfl, Nat.le_of_ble_eq_true rfl⟩) (fun H locs hW hS => ?_)
  clear hc
  generalize M9 = M at hW hF
  refine lv_if_ne (tgt := 157) hx hb dX10_whenWedge_99 (by decide) (fun hv4 => ?_) (fun hv4 => ?_)
  · replace hF := (if_neg hv4).symm.trans hF
    exact kb_X10_whenWedge_b157 C k36 hk36 hF hW hS (lv_sub hl [0, 1, 2, 3, 4] rfl)
  · replace hF := (if_pos hv4).symm.trans hF
    refine lv_aload_n hx hb dX10_whenWedge_102 rfl (lv_at hl 0 rfl) ?_
    refine pw_gR C hW pc_9 (k := 0) (by decide) rfl tq_918 dX10_whenWedge_103 hF (fun av5 hF => ?_)
    refine lv_bipush (v := 51) hx hb dX10_whenWedge_106 (by decide) ?_
    refine lv_iconst (v := 1) hx hb dX10_whenWedge_108 (by decide) ?_
    refine pw_xI C hW hS dX10_whenWedge_109 hF (fun M H locs hW hS hF => ?_)
    refine lv_aload_n hx hb dX10_whenWedge_110 rfl (lv_at hl 0 rfl) ?_
    refine lv_sipush (v := 999) hx hb dX10_whenWedge_111 (by decide) ?_
    refine lv_iload hx hb dX10_whenWedge_114 (lv_at hl 4 rfl) ?_
    refine lv_isub hx hb dX10_whenWedge_116 ?_
    obtain ⟨hK, hF⟩ := ps_ck_some hF
    obtain ⟨xv6, M9, hc, hF⟩ := ps_b2_some hF
    refine ps_backI (x0 := xv6) (M' := M9) hS (ps_callV C hW pc_9 mf_X10_goOn tq_1212 tq_52 tq_1210 ⟨Nat.le_of_ble_eq_true rfl, Nat.le_of_ble_eq_true rfl⟩ rfl rfl (As := [.int ((999 : Int32) - x5)]) (rest := []) (c_X10_goOn hc) hK rfl hl.1 rfl (Nat.le_of_ble_eq_true rfl) dX10_whenWedge_117 ⟨Nat.le_of_ble_eq_true rfl, Nat.le_of_ble_eq_true rfl⟩) (fun H locs hW hS => ?_)
    clear hc
    generalize M9 = M at hW hF
    refine lv_istore (lv' := [(6, .int xv6), (0, .ref (B + a0)), (1, .int x1), (3, .int x3), (4, .int x4), (5, .int x5)]) hx hb dX10_whenWedge_120 hl (by decide) rfl (fun ls hl => ?_)
    refine lv_iload hx hb dX10_whenWedge_122 (lv_at hl 0 rfl) ?_
    refine lv_ldc (v := 99999999) hx hb hown (hts _ tq_1214) dX10_whenWedge_124 ?_
    refine lv_icmp_ne (tgt := 134) hx hb dX10_whenWedge_126 (by decide) (fun hv7 => ?_) (fun hv7 => ?_)
    · replace hF := (if_neg hv7).symm.trans hF
      refine lv_iload hx hb dX10_whenWedge_134 (lv_at hl 5 rfl) ?_
      refine lv_iconst (v := 3) hx hb dX10_whenWedge_136 (by decide) ?_
      refine lv_iadd hx hb dX10_whenWedge_137 ?_
      refine lv_iload hx hb dX10_whenWedge_138 (lv_at hl 0 rfl) ?_
      refine lv_iadd hx hb dX10_whenWedge_140 ?_
      exact kb_X10_whenWedge_b141 C k36 hk36 hF hW hS (lv_sub hl [1, 2, 3, 4, 5] rfl)
    · replace hF := (if_pos hv7).symm.trans hF
      refine lv_ldc (v := 99999999) hx hb hown (hts _ tq_1214) dX10_whenWedge_129 ?_
      refine lv_goto (tgt := 141) hx hb dX10_whenWedge_131 (by decide) ?_
      exact kb_X10_whenWedge_b141 C k36 hk36 hF hW hS (lv_sub hl [1, 2, 3, 4, 5] rfl)
set_option maxRecDepth 100000 in
set_option maxHeartbeats 4000000 in
theorem kb_X10_whenWedge_w63 (C : ps_C p s m args meth c cX10_whenWedge 8 RX10 ((some .int)) "whenWedge" D Y B) {q : Int32 × ps_M} (k36 : ps_M → Nat → Int32 → Int32 → Int32 → Int32 → Option (Int32 × ps_M)) (hk36 : ∀ (M : ps_M) (H : Heap) (locs : List Loc) (ls : Array Slot) (a0 : Nat) (x1 : Int32) (x3 : Int32) (x4 : Int32) (x5 : Int32), k36 M a0 x1 x3 x4 x5 = some q → ps_W D Y B M H → va_S (fun q => B ≤ q) s.heap H locs → lv_has ls 8 [(0, .ref (B + a0)), (1, .int x1), (3, .int x3), (4, .int x4), (5, .int x5)] → W p l e rm_X10_whenWedge s m args below meth c H locs 0 0 (ps_Qi D Y B below args s 0 0 q) (F0 m 36 ls [])) (k63 : ps_M → Nat → Int32 → Int32 → Int32 → Int32 → Int32 → Option (Int32 × ps_M)) (hk63 : ∀ (M : ps_M) (H : Heap) (locs : List Loc) (ls : Array Slot) (a0 : Nat) (x1 : Int32) (x3 : Int32) (x4 : Int32) (x5 : Int32) (x6 : Int32), k63 M a0 x1 x3 x4 x5 x6 = some q → ps_W D Y B M H → va_S (fun q => B ≤ q) s.heap H locs → lv_has ls 8 [(0, .ref (B + a0)), (1, .int x1), (3, .int x3), (4, .int x4), (5, .int x5), (6, .int x6)] → W p l e rm_X10_whenWedge s m args below meth c H locs 0 0 (ps_Qi D Y B below args s 0 0 q) (F0 m 63 ls [])) {M : ps_M} {a0 : Nat} {x1 : Int32} {x3 : Int32} {x4 : Int32} {x5 : Int32} {x6 : Int32} (hF : f_X10_whenWedge_w63 k36 k63 M a0 x1 x3 x4 x5 x6 = some q) (hW : ps_W D Y B M H) (hS : va_S (fun q => B ≤ q) s.heap H locs) (hl : lv_has ls 8 [(0, .ref (B + a0)), (1, .int x1), (3, .int x3), (4, .int x4), (5, .int x5), (6, .int x6)]) : W p l e rm_X10_whenWedge s m args below meth c H locs 0 0 (ps_Qi D Y B below args s 0 0 q) (F0 m 63 ls []) := by
  have hx := C.1
  have hb := C.2.1
  have hml := C.2.2.1
  have hown := C.2.2.2.1
  have hts := C.2.2.2.2.1
  unfold f_X10_whenWedge_w63 at hF
  refine lv_iload hx hb dX10_whenWedge_63 (lv_at hl 5 rfl) ?_
  refine lv_iload hx hb dX10_whenWedge_65 (lv_at hl 4 rfl) ?_
  refine lv_icmp_ge (tgt := 93) hx hb dX10_whenWedge_67 (by decide) (fun hv8 => ?_) (fun hv8 => ?_)
  · replace hF := (if_pos hv8).symm.trans hF
    exact kb_X10_whenWedge_b93 C k36 hk36 hF hW hS (lv_sub hl [0, 1, 2, 3, 4] rfl)
  · replace hF := (if_neg hv8).symm.trans hF
    refine lv_aload_n hx hb dX10_whenWedge_70 rfl (lv_at hl 0 rfl) ?_
    refine lv_bipush (v := 28) hx hb dX10_whenWedge_71 (by decide) ?_
    obtain ⟨hK, hF⟩ := ps_ck_some hF
    obtain ⟨xv9, M9, hc, hF⟩ := ps_b2_some hF
    refine ps_backI (x0 := xv9) (M' := M9) hS (ps_callV C hW pc_9 mf_X10_isThrough tq_1090 tq_39 tq_1088 ⟨Nat.le_of_ble_eq_true rfl, Nat.le_of_ble_eq_true rfl⟩ rfl rfl (As := [.int (28 : Int32)]) (rest := []) (c_X10_isThrough hc) hK rfl hl.1 rfl (Nat.le_of_ble_eq_true rfl) dX10_whenWedge_73 ⟨Nat.le_of_ble_eq_true rfl, Nat.le_of_ble_eq_true rfl⟩) (fun H locs hW hS => ?_)
    clear hc
    generalize M9 = M at hW hF
    refine lv_if_ne (tgt := 93) hx hb dX10_whenWedge_76 (by decide) (fun hv10 => ?_) (fun hv10 => ?_)
    · replace hF := (if_neg hv10).symm.trans hF
      exact kb_X10_whenWedge_b93 C k36 hk36 hF hW hS (lv_sub hl [0, 1, 2, 3, 4] rfl)
    · replace hF := (if_pos hv10).symm.trans hF
      refine lv_aload_n hx hb dX10_whenWedge_79 rfl (lv_at hl 0 rfl) ?_
      refine lv_bipush (v := 28) hx hb dX10_whenWedge_80 (by decide) ?_
      obtain ⟨hK, hF⟩ := ps_ck_some hF
      obtain ⟨xv11, M9, hc, hF⟩ := ps_b2_some hF
      refine ps_backI (x0 := xv11) (M' := M9) hS (ps_callV C hW pc_9 mf_X10_pull tq_1132 tq_44 tq_1130 ⟨Nat.le_of_ble_eq_true rfl, Nat.le_of_ble_eq_true rfl⟩ rfl rfl (As := [.int (28 : Int32)]) (rest := []) (c_X10_pull hc) hK rfl hl.1 rfl (Nat.le_of_ble_eq_true rfl) dX10_whenWedge_82 ⟨Nat.le_of_ble_eq_true rfl, Nat.le_of_ble_eq_true rfl⟩) (fun H locs hW hS => ?_)
      clear hc
      generalize M9 = M at hW hF
      refine lv_istore (lv' := [(7, .int xv11), (0, .ref (B + a0)), (1, .int x1), (3, .int x3), (4, .int x4), (5, .int x5), (6, .int x6)]) hx hb dX10_whenWedge_85 hl (by decide) rfl (fun ls hl => ?_)
      obtain ⟨xv12, exv12, hF⟩ := ps_ve hF
      refine lv_iinc (v := xv12) (lv' := [(6, .int xv12), (7, .int xv11), (0, .ref (B + a0)), (1, .int x1), (3, .int x3), (4, .int x4), (5, .int x5)]) hx hb dX10_whenWedge_87 hl (k := 6) rfl (by rw [exv12]; rfl) (by decide) rfl (fun ls hl => ?_)
      clear exv12
      refine lv_goto (tgt := 63) hx hb dX10_whenWedge_90 (by decide) ?_
      exact hk63 M _ _ _ a0 x1 x3 x4 x5 xv12 hF hW hS (lv_sub hl [2, 3, 4, 5, 6, 0] rfl)
theorem kb_X10_whenWedge_l63 (C : ps_C p s m args meth c cX10_whenWedge 8 RX10 ((some .int)) "whenWedge" D Y B) {q : Int32 × ps_M} (k36 : ps_M → Nat → Int32 → Int32 → Int32 → Int32 → Option (Int32 × ps_M)) (hk36 : ∀ (M : ps_M) (H : Heap) (locs : List Loc) (ls : Array Slot) (a0 : Nat) (x1 : Int32) (x3 : Int32) (x4 : Int32) (x5 : Int32), k36 M a0 x1 x3 x4 x5 = some q → ps_W D Y B M H → va_S (fun q => B ≤ q) s.heap H locs → lv_has ls 8 [(0, .ref (B + a0)), (1, .int x1), (3, .int x3), (4, .int x4), (5, .int x5)] → W p l e rm_X10_whenWedge s m args below meth c H locs 0 0 (ps_Qi D Y B below args s 0 0 q) (F0 m 36 ls [])) : ∀ (n : Nat) (M : ps_M) (H : Heap) (locs : List Loc) (ls : Array Slot) (a0 : Nat) (x1 : Int32) (x3 : Int32) (x4 : Int32) (x5 : Int32) (x6 : Int32), f_X10_whenWedge_l63 k36 n M a0 x1 x3 x4 x5 x6 = some q → ps_W D Y B M H → va_S (fun q => B ≤ q) s.heap H locs → lv_has ls 8 [(0, .ref (B + a0)), (1, .int x1), (3, .int x3), (4, .int x4), (5, .int x5), (6, .int x6)] → W p l e rm_X10_whenWedge s m args below meth c H locs 0 0 (ps_Qi D Y B below args s 0 0 q) (F0 m 63 ls []) := by
  intro n
  induction n with
  | zero => intro M H locs ls a0 x1 x3 x4 x5 x6 hF; cases hF
  | succ n ih => intro M H locs ls a0 x1 x3 x4 x5 x6 hF hW hS hl; exact kb_X10_whenWedge_w63 C k36 hk36 (f_X10_whenWedge_l63 k36 n) ih hF hW hS hl
set_option maxRecDepth 100000 in
set_option maxHeartbeats 4000000 in
theorem kb_X10_whenWedge_b177 (C : ps_C p s m args meth c cX10_whenWedge 8 RX10 ((some .int)) "whenWedge" D Y B) {q : Int32 × ps_M}  {M : ps_M} {t0 : Int32} (hF : f_X10_whenWedge_b177 M t0 = some q) (hW : ps_W D Y B M H) (hS : va_S (fun q => B ≤ q) s.heap H locs) (hl : lv_has ls 8 []) : W p l e rm_X10_whenWedge s m args below meth c H locs 0 0 (ps_Qi D Y B below args s 0 0 q) (F0 m 177 ls [.int t0]) := by
  have hx := C.1
  have hb := C.2.1
  have hml := C.2.2.1
  have hown := C.2.2.2.1
  have hts := C.2.2.2.2.1
  unfold f_X10_whenWedge_b177 at hF
  exact pw_iret C hW hS dX10_whenWedge_177 hF
set_option maxRecDepth 100000 in
set_option maxHeartbeats 4000000 in
theorem kb_X10_whenWedge_b171 (C : ps_C p s m args meth c cX10_whenWedge 8 RX10 ((some .int)) "whenWedge" D Y B) {q : Int32 × ps_M}  {M : ps_M} {x3 : Int32} (hF : f_X10_whenWedge_b171 M x3 = some q) (hW : ps_W D Y B M H) (hS : va_S (fun q => B ≤ q) s.heap H locs) (hl : lv_has ls 8 [(3, .int x3)]) : W p l e rm_X10_whenWedge s m args below meth c H locs 0 0 (ps_Qi D Y B below args s 0 0 q) (F0 m 171 ls []) := by
  have hx := C.1
  have hb := C.2.1
  have hml := C.2.2.1
  have hown := C.2.2.2.1
  have hts := C.2.2.2.2.1
  unfold f_X10_whenWedge_b171 at hF
  refine lv_iload_n hx hb dX10_whenWedge_171 rfl (lv_at hl 0 rfl) ?_
  refine lv_goto (tgt := 177) hx hb dX10_whenWedge_172 (by decide) ?_
  exact kb_X10_whenWedge_b177 C hF hW hS (lv_sub hl [] rfl)
set_option maxRecDepth 100000 in
set_option maxHeartbeats 4000000 in
theorem kb_X10_whenWedge_b163 (C : ps_C p s m args meth c cX10_whenWedge 8 RX10 ((some .int)) "whenWedge" D Y B) {q : Int32 × ps_M}  {M : ps_M} {x1 : Int32} {x3 : Int32} {x4 : Int32} (hF : f_X10_whenWedge_b163 M x1 x3 x4 = some q) (hW : ps_W D Y B M H) (hS : va_S (fun q => B ≤ q) s.heap H locs) (hl : lv_has ls 8 [(1, .int x1), (3, .int x3), (4, .int x4)]) : W p l e rm_X10_whenWedge s m args below meth c H locs 0 0 (ps_Qi D Y B below args s 0 0 q) (F0 m 163 ls []) := by
  have hx := C.1
  have hb := C.2.1
  have hml := C.2.2.1
  have hown := C.2.2.2.1
  have hts := C.2.2.2.2.1
  unfold f_X10_whenWedge_b163 at hF
  refine lv_iload_n hx hb dX10_whenWedge_163 rfl (lv_at hl 1 rfl) ?_
  refine lv_if_lt (tgt := 171) hx hb dX10_whenWedge_164 (by decide) (fun hv13 => ?_) (fun hv13 => ?_)
  · replace hF := (if_pos hv13).symm.trans hF
    exact kb_X10_whenWedge_b171 C hF hW hS (lv_sub hl [1] rfl)
  · replace hF := (if_neg hv13).symm.trans hF
    refine lv_iload_n hx hb dX10_whenWedge_167 rfl (lv_at hl 0 rfl) ?_
    refine lv_if_ne (tgt := 175) hx hb dX10_whenWedge_168 (by decide) (fun hv14 => ?_) (fun hv14 => ?_)
    · replace hF := (if_neg hv14).symm.trans hF
      refine lv_iload hx hb dX10_whenWedge_175 (lv_at hl 2 rfl) ?_
      exact kb_X10_whenWedge_b177 C hF hW hS (lv_sub hl [] rfl)
    · replace hF := (if_pos hv14).symm.trans hF
      exact kb_X10_whenWedge_b171 C hF hW hS (lv_sub hl [1] rfl)
set_option maxRecDepth 100000 in
set_option maxHeartbeats 4000000 in
theorem kb_X10_whenWedge_w36 (C : ps_C p s m args meth c cX10_whenWedge 8 RX10 ((some .int)) "whenWedge" D Y B) {q : Int32 × ps_M} (k36 : ps_M → Nat → Int32 → Int32 → Int32 → Int32 → Option (Int32 × ps_M)) (hk36 : ∀ (M : ps_M) (H : Heap) (locs : List Loc) (ls : Array Slot) (a0 : Nat) (x1 : Int32) (x3 : Int32) (x4 : Int32) (x5 : Int32), k36 M a0 x1 x3 x4 x5 = some q → ps_W D Y B M H → va_S (fun q => B ≤ q) s.heap H locs → lv_has ls 8 [(0, .ref (B + a0)), (1, .int x1), (3, .int x3), (4, .int x4), (5, .int x5)] → W p l e rm_X10_whenWedge s m args below meth c H locs 0 0 (ps_Qi D Y B below args s 0 0 q) (F0 m 36 ls [])) {M : ps_M} {a0 : Nat} {x1 : Int32} {x3 : Int32} {x4 : Int32} {x5 : Int32} (hF : f_X10_whenWedge_w36 k36 M a0 x1 x3 x4 x5 = some q) (hW : ps_W D Y B M H) (hS : va_S (fun q => B ≤ q) s.heap H locs) (hl : lv_has ls 8 [(0, .ref (B + a0)), (1, .int x1), (3, .int x3), (4, .int x4), (5, .int x5)]) : W p l e rm_X10_whenWedge s m args below meth c H locs 0 0 (ps_Qi D Y B below args s 0 0 q) (F0 m 36 ls []) := by
  have hx := C.1
  have hb := C.2.1
  have hml := C.2.2.1
  have hown := C.2.2.2.1
  have hts := C.2.2.2.2.1
  unfold f_X10_whenWedge_w36 at hF
  refine lv_iload hx hb dX10_whenWedge_36 (lv_at hl 4 rfl) ?_
  refine lv_bipush (v := 100) hx hb dX10_whenWedge_38 (by decide) ?_
  refine lv_icmp_ge (tgt := 163) hx hb dX10_whenWedge_40 (by decide) (fun hv15 => ?_) (fun hv15 => ?_)
  · replace hF := (if_pos hv15).symm.trans hF
    exact kb_X10_whenWedge_b163 C hF hW hS (lv_sub hl [1, 2, 3] rfl)
  · replace hF := (if_neg hv15).symm.trans hF
    refine lv_aload_n hx hb dX10_whenWedge_43 rfl (lv_at hl 0 rfl) ?_
    refine pw_gR C hW pc_9 (k := 0) (by decide) rfl tq_918 dX10_whenWedge_44 hF (fun av16 hF => ?_)
    refine lv_bipush (v := 23) hx hb dX10_whenWedge_47 (by decide) ?_
    refine pw_aI C hW dX10_whenWedge_49 hF (fun xv17 hF => ?_)
    refine lv_if_ne (tgt := 163) hx hb dX10_whenWedge_50 (by decide) (fun hv18 => ?_) (fun hv18 => ?_)
    · replace hF := (if_neg hv18).symm.trans hF
      exact kb_X10_whenWedge_b163 C hF hW hS (lv_sub hl [1, 2, 3] rfl)
    · replace hF := (if_pos hv18).symm.trans hF
      refine lv_aload_n hx hb dX10_whenWedge_53 rfl (lv_at hl 0 rfl) ?_
      refine lv_iconst (v := 0) hx hb dX10_whenWedge_54 (by decide) ?_
      refine lv_bipush (v := 28) hx hb dX10_whenWedge_55 (by decide) ?_
      obtain ⟨hK, hF⟩ := ps_ck_some hF
      obtain ⟨M9, hc, hF⟩ := ps_b1_some hF
      refine ps_backV (M' := M9) hS (ps_callV C hW pc_9 mf_X10_copy tq_1128 tq_43 tq_1126 ⟨Nat.le_of_ble_eq_true rfl, Nat.le_of_ble_eq_true rfl⟩ rfl rfl (As := [.int (0 : Int32), .int (28 : Int32)]) (rest := []) (c_X10_copy hc) hK rfl hl.1 rfl (Nat.le_of_ble_eq_true rfl) dX10_whenWedge_57 ⟨Nat.le_of_ble_eq_true rfl, Nat.le_of_ble_eq_true rfl⟩) (fun H locs hW hS => ?_)
      clear hc
      generalize M9 = M at hW hF
      refine lv_iconst (v := 0) hx hb dX10_whenWedge_60 (by decide) ?_
      refine lv_istore (lv' := [(6, .int (0 : Int32)), (0, .ref (B + a0)), (1, .int x1), (3, .int x3), (4, .int x4), (5, .int x5)]) hx hb dX10_whenWedge_61 hl (by decide) rfl (fun ls hl => ?_)
      exact kb_X10_whenWedge_l63 C k36 hk36 ps_fu M _ _ _ a0 x1 x3 x4 x5 (0 : Int32) hF hW hS (lv_sub hl [1, 2, 3, 4, 5, 0] rfl)
theorem kb_X10_whenWedge_l36 (C : ps_C p s m args meth c cX10_whenWedge 8 RX10 ((some .int)) "whenWedge" D Y B) {q : Int32 × ps_M}  : ∀ (n : Nat) (M : ps_M) (H : Heap) (locs : List Loc) (ls : Array Slot) (a0 : Nat) (x1 : Int32) (x3 : Int32) (x4 : Int32) (x5 : Int32), f_X10_whenWedge_l36 n M a0 x1 x3 x4 x5 = some q → ps_W D Y B M H → va_S (fun q => B ≤ q) s.heap H locs → lv_has ls 8 [(0, .ref (B + a0)), (1, .int x1), (3, .int x3), (4, .int x4), (5, .int x5)] → W p l e rm_X10_whenWedge s m args below meth c H locs 0 0 (ps_Qi D Y B below args s 0 0 q) (F0 m 36 ls []) := by
  intro n
  induction n with
  | zero => intro M H locs ls a0 x1 x3 x4 x5 hF; cases hF
  | succ n ih => intro M H locs ls a0 x1 x3 x4 x5 hF hW hS hl; exact kb_X10_whenWedge_w36 C  (f_X10_whenWedge_l36 n) ih hF hW hS hl
set_option maxRecDepth 100000 in
set_option maxHeartbeats 4000000 in
theorem kb_X10_whenWedge (C : ps_C p s m args meth c cX10_whenWedge 8 RX10 ((some .int)) "whenWedge" D Y B) {q : Int32 × ps_M}  {M : ps_M} {a0 : Nat} {x1 : Int32} (hF : f_X10_whenWedge M a0 x1 = some q) (hW : ps_W D Y B M H) (hS : va_S (fun q => B ≤ q) s.heap H locs) (hl : lv_has ls 8 [(0, .ref (B + a0)), (1, .int x1)]) : W p l e rm_X10_whenWedge s m args below meth c H locs 0 0 (ps_Qi D Y B below args s 0 0 q) (F0 m 0 ls []) := by
  have hx := C.1
  have hb := C.2.1
  have hml := C.2.2.1
  have hown := C.2.2.2.1
  have hts := C.2.2.2.2.1
  unfold f_X10_whenWedge at hF
  refine lv_iload_n hx hb dX10_whenWedge_0 rfl (lv_at hl 1 rfl) ?_
  refine lv_i2l hx hb dX10_whenWedge_1 rfl ?_
  refine lv_lconst (v := 0) hx hb dX10_whenWedge_2 (by decide) ?_
  refine lv_lconst (v := 1) hx hb dX10_whenWedge_3 (by decide) ?_
  obtain ⟨xv19, M9, hc, hF⟩ := ps_b2_some hF
  refine ps_backI (x0 := xv19) (M' := M9) hS (ps_callS C hW mf_X10_in tq_1031 tq_1030 ⟨Nat.le_of_ble_eq_true rfl, Nat.le_of_ble_eq_true rfl⟩ rfl rfl (As := [.long (x1.toInt64), .long (0 : Int64), .long (1 : Int64)]) (rest := []) (c_X10_in hc) rfl hl.1 rfl (Nat.le_of_ble_eq_true rfl) dX10_whenWedge_4 ⟨Nat.le_of_ble_eq_true rfl, Nat.le_of_ble_eq_true rfl⟩) (fun H locs hW hS => ?_)
  clear hc
  generalize M9 = M at hW hF
  refine lv_if_ne (tgt := 13) hx hb dX10_whenWedge_7 (by decide) (fun hv20 => ?_) (fun hv20 => ?_)
  · replace hF := (if_neg hv20).symm.trans hF
    refine lv_aload_n hx hb dX10_whenWedge_13 rfl (lv_at hl 0 rfl) ?_
    obtain ⟨hK, hF⟩ := ps_ck_some hF
    obtain ⟨xv21, M9, hc, hF⟩ := ps_b2_some hF
    refine ps_backI (x0 := xv21) (M' := M9) hS (ps_callV C hW pc_9 mf_X10_isPair tq_1120 tq_41 tq_1118 ⟨Nat.le_of_ble_eq_true rfl, Nat.le_of_ble_eq_true rfl⟩ rfl rfl (As := []) (rest := []) (c_X10_isPair hc) hK rfl hl.1 rfl (Nat.le_of_ble_eq_true rfl) dX10_whenWedge_14 ⟨Nat.le_of_ble_eq_true rfl, Nat.le_of_ble_eq_true rfl⟩) (fun H locs hW hS => ?_)
    clear hc
    generalize M9 = M at hW hF
    refine lv_if_ne (tgt := 23) hx hb dX10_whenWedge_17 (by decide) (fun hv22 => ?_) (fun hv22 => ?_)
    · replace hF := (if_neg hv22).symm.trans hF
      refine lv_aload_n hx hb dX10_whenWedge_23 rfl (lv_at hl 0 rfl) ?_
      obtain ⟨hK, hF⟩ := ps_ck_some hF
      obtain ⟨xv23, M9, hc, hF⟩ := ps_b2_some hF
      refine ps_backI (x0 := xv23) (M' := M9) hS (ps_callV C hW pc_9 mf_X10_goOnNow tq_1208 tq_51 tq_1206 ⟨Nat.le_of_ble_eq_true rfl, Nat.le_of_ble_eq_true rfl⟩ rfl rfl (As := []) (rest := []) (c_X10_goOnNow hc) hK rfl hl.1 rfl (Nat.le_of_ble_eq_true rfl) dX10_whenWedge_24 ⟨Nat.le_of_ble_eq_true rfl, Nat.le_of_ble_eq_true rfl⟩) (fun H locs hW hS => ?_)
      clear hc
      generalize M9 = M at hW hF
      refine lv_istore_n (lv' := [(2, .int xv23), (0, .ref (B + a0)), (1, .int x1)]) hx hb dX10_whenWedge_27 rfl hl (by decide) rfl (fun ls hl => ?_)
      refine lv_iconst (v := -1) hx hb dX10_whenWedge_28 (by decide) ?_
      refine lv_istore_n (lv' := [(3, .int (-1 : Int32)), (2, .int xv23), (0, .ref (B + a0)), (1, .int x1)]) hx hb dX10_whenWedge_29 rfl hl (by decide) rfl (fun ls hl => ?_)
      refine lv_iload_n hx hb dX10_whenWedge_30 rfl (lv_at hl 1 rfl) ?_
      refine lv_istore (lv' := [(4, .int xv23), (3, .int (-1 : Int32)), (2, .int xv23), (0, .ref (B + a0)), (1, .int x1)]) hx hb dX10_whenWedge_31 hl (by decide) rfl (fun ls hl => ?_)
      refine lv_iconst (v := 0) hx hb dX10_whenWedge_33 (by decide) ?_
      refine lv_istore (lv' := [(5, .int (0 : Int32)), (4, .int xv23), (3, .int (-1 : Int32)), (2, .int xv23), (0, .ref (B + a0)), (1, .int x1)]) hx hb dX10_whenWedge_34 hl (by decide) rfl (fun ls hl => ?_)
      exact kb_X10_whenWedge_l36 C ps_fu M _ _ _ a0 x1 (-1 : Int32) xv23 (0 : Int32) hF hW hS (lv_sub hl [4, 5, 2, 1, 0] rfl)
    · replace hF := (if_pos hv22).symm.trans hF
      refine lv_ldc (v := -1000000003) hx hb hown (hts _ tq_1112) dX10_whenWedge_20 ?_
      exact pw_iret C hW hS dX10_whenWedge_22 hF
  · replace hF := (if_pos hv20).symm.trans hF
    refine lv_ldc (v := -1000000002) hx hb hown (hts _ tq_1033) dX10_whenWedge_10 ?_
    exact pw_iret C hW hS dX10_whenWedge_12 hF
theorem mf_X10_whenWedge : ps_mf yX10_whenWedge cX10_whenWedge 8 ((some .int)) 1 := ⟨tq_1260, tq_71, by decide +kernel, by decide +kernel, by decide +kernel⟩
theorem c_X10_whenWedge {l : Launch} {D : va_G} {Y : ps_A} {B : Nat} {M : ps_M} {a0 : Nat} {x1 : Int32} {r : Int32} {M' : ps_M} (hF : f_X10_whenWedge M a0 x1 = some (r, M')) : Met l yX10_whenWedge (Cond.code yX10_whenWedge cX10_whenWedge 8 ((some .int)) :: tb_G) rm_X10_whenWedge (ps_PB D Y B M [.ref (B + a0), .int x1]) (va_Qi (fun x (_ : Unit) => x = r) (fun _ t => ps_St D Y B M' t) (fun q => B ≤ q)) 0 0 (fun q => B ≤ q) :=
  pm_of (by decide +kernel) (Nat.le_of_ble_eq_true rfl) (fun p e s m args below meth c C hW hS ls hl => kb_X10_whenWedge C hF hW hS hl)

abbrev rm_X10_depthBy : Room := { frames := 3, cells := 0, slots := 0, locals := 75 }
def f_X10_depthBy_b49 (k9 : ps_M → Nat → Int32 → Int32 → Int32 → Option (Int32 × ps_M)) (M : ps_M) (a0 : Nat) (x1 : Int32) (x2 : Int32) (x3 : Int32) : Option (Int32 × ps_M) := ps_v (x3 + 1) (fun xv1 => k9 M a0 x1 x2 xv1)
def f_X10_depthBy_b55 (M : ps_M) (a0 : Nat) : Option (Int32 × ps_M) := ps_gR M a0 9 0 (fun av2 => ps_aI M av2 (47 : Int32) (fun xv3 => some (xv3, M)))
def f_X10_depthBy_w9 (k9 : ps_M → Nat → Int32 → Int32 → Int32 → Option (Int32 × ps_M)) (M : ps_M) (a0 : Nat) (x1 : Int32) (x2 : Int32) (x3 : Int32) : Option (Int32 × ps_M) := if x1 ≤ x3 then (f_X10_depthBy_b55 M a0) else (ps_ck M a0 9 (ps_b2 (f_X10_isThrough M a0 (28 : Int32)) (fun xv5 M => if xv5 = 0 then (ps_b2 (f_X10_has M x2 x3) (fun xv7 M => if xv7 = 0 then (ps_ck M a0 9 (ps_b2 (f_X10_pull M a0 (28 : Int32)) (fun xv9 M => f_X10_depthBy_b49 k9 M a0 x1 x2 x3))) else (ps_ck M a0 9 (ps_b1 (f_X10_relax M a0 (28 : Int32) (1 : Int32)) (fun M => f_X10_depthBy_b49 k9 M a0 x1 x2 x3))))) else (f_X10_depthBy_b55 M a0))))
def f_X10_depthBy_l9 : Nat → ps_M → Nat → Int32 → Int32 → Int32 → Option (Int32 × ps_M)
  | 0, _, _, _, _, _ => none
  | n + 1, M, a0, x1, x2, x3 => f_X10_depthBy_w9 (f_X10_depthBy_l9 n) M a0 x1 x2 x3
def f_X10_depthBy (M : ps_M) (a0 : Nat) (x1 : Int32) (x2 : Int32) : Option (Int32 × ps_M) := ps_ck M a0 9 (ps_b1 (f_X10_copy M a0 (0 : Int32) (28 : Int32)) (fun M => f_X10_depthBy_l9 ps_fu M a0 x1 x2 (0 : Int32)))
set_option maxRecDepth 100000 in
set_option maxHeartbeats 4000000 in
theorem kb_X10_depthBy_b49 (C : ps_C p s m args meth c cX10_depthBy 5 RX10 ((some .int)) "depthBy" D Y B) {q : Int32 × ps_M} (k9 : ps_M → Nat → Int32 → Int32 → Int32 → Option (Int32 × ps_M)) (hk9 : ∀ (M : ps_M) (H : Heap) (locs : List Loc) (ls : Array Slot) (a0 : Nat) (x1 : Int32) (x2 : Int32) (x3 : Int32), k9 M a0 x1 x2 x3 = some q → ps_W D Y B M H → va_S (fun q => B ≤ q) s.heap H locs → lv_has ls 5 [(0, .ref (B + a0)), (1, .int x1), (2, .int x2), (3, .int x3)] → W p l e rm_X10_depthBy s m args below meth c H locs 0 0 (ps_Qi D Y B below args s 0 0 q) (F0 m 9 ls [])) {M : ps_M} {a0 : Nat} {x1 : Int32} {x2 : Int32} {x3 : Int32} (hF : f_X10_depthBy_b49 k9 M a0 x1 x2 x3 = some q) (hW : ps_W D Y B M H) (hS : va_S (fun q => B ≤ q) s.heap H locs) (hl : lv_has ls 5 [(0, .ref (B + a0)), (1, .int x1), (2, .int x2), (3, .int x3)]) : W p l e rm_X10_depthBy s m args below meth c H locs 0 0 (ps_Qi D Y B below args s 0 0 q) (F0 m 49 ls []) := by
  have hx := C.1
  have hb := C.2.1
  have hml := C.2.2.1
  have hown := C.2.2.2.1
  have hts := C.2.2.2.2.1
  unfold f_X10_depthBy_b49 at hF
  obtain ⟨xv1, exv1, hF⟩ := ps_ve hF
  refine lv_iinc (v := xv1) (lv' := [(3, .int xv1), (0, .ref (B + a0)), (1, .int x1), (2, .int x2)]) hx hb dX10_depthBy_49 hl (k := 3) rfl (by rw [exv1]; rfl) (by decide) rfl (fun ls hl => ?_)
  clear exv1
  refine lv_goto (tgt := 9) hx hb dX10_depthBy_52 (by decide) ?_
  exact hk9 M _ _ _ a0 x1 x2 xv1 hF hW hS (lv_sub hl [1, 2, 3, 0] rfl)
set_option maxRecDepth 100000 in
set_option maxHeartbeats 4000000 in
theorem kb_X10_depthBy_b55 (C : ps_C p s m args meth c cX10_depthBy 5 RX10 ((some .int)) "depthBy" D Y B) {q : Int32 × ps_M}  {M : ps_M} {a0 : Nat} (hF : f_X10_depthBy_b55 M a0 = some q) (hW : ps_W D Y B M H) (hS : va_S (fun q => B ≤ q) s.heap H locs) (hl : lv_has ls 5 [(0, .ref (B + a0))]) : W p l e rm_X10_depthBy s m args below meth c H locs 0 0 (ps_Qi D Y B below args s 0 0 q) (F0 m 55 ls []) := by
  have hx := C.1
  have hb := C.2.1
  have hml := C.2.2.1
  have hown := C.2.2.2.1
  have hts := C.2.2.2.2.1
  unfold f_X10_depthBy_b55 at hF
  refine lv_aload_n hx hb dX10_depthBy_55 rfl (lv_at hl 0 rfl) ?_
  refine pw_gR C hW pc_9 (k := 0) (by decide) rfl tq_918 dX10_depthBy_56 hF (fun av2 hF => ?_)
  refine lv_bipush (v := 47) hx hb dX10_depthBy_59 (by decide) ?_
  refine pw_aI C hW dX10_depthBy_61 hF (fun xv3 hF => ?_)
  exact pw_iret C hW hS dX10_depthBy_62 hF
set_option maxRecDepth 100000 in
set_option maxHeartbeats 4000000 in
theorem kb_X10_depthBy_w9 (C : ps_C p s m args meth c cX10_depthBy 5 RX10 ((some .int)) "depthBy" D Y B) {q : Int32 × ps_M} (k9 : ps_M → Nat → Int32 → Int32 → Int32 → Option (Int32 × ps_M)) (hk9 : ∀ (M : ps_M) (H : Heap) (locs : List Loc) (ls : Array Slot) (a0 : Nat) (x1 : Int32) (x2 : Int32) (x3 : Int32), k9 M a0 x1 x2 x3 = some q → ps_W D Y B M H → va_S (fun q => B ≤ q) s.heap H locs → lv_has ls 5 [(0, .ref (B + a0)), (1, .int x1), (2, .int x2), (3, .int x3)] → W p l e rm_X10_depthBy s m args below meth c H locs 0 0 (ps_Qi D Y B below args s 0 0 q) (F0 m 9 ls [])) {M : ps_M} {a0 : Nat} {x1 : Int32} {x2 : Int32} {x3 : Int32} (hF : f_X10_depthBy_w9 k9 M a0 x1 x2 x3 = some q) (hW : ps_W D Y B M H) (hS : va_S (fun q => B ≤ q) s.heap H locs) (hl : lv_has ls 5 [(0, .ref (B + a0)), (1, .int x1), (2, .int x2), (3, .int x3)]) : W p l e rm_X10_depthBy s m args below meth c H locs 0 0 (ps_Qi D Y B below args s 0 0 q) (F0 m 9 ls []) := by
  have hx := C.1
  have hb := C.2.1
  have hml := C.2.2.1
  have hown := C.2.2.2.1
  have hts := C.2.2.2.2.1
  unfold f_X10_depthBy_w9 at hF
  refine lv_iload_n hx hb dX10_depthBy_9 rfl (lv_at hl 3 rfl) ?_
  refine lv_iload_n hx hb dX10_depthBy_10 rfl (lv_at hl 1 rfl) ?_
  refine lv_icmp_ge (tgt := 55) hx hb dX10_depthBy_11 (by decide) (fun hv4 => ?_) (fun hv4 => ?_)
  · replace hF := (if_pos hv4).symm.trans hF
    exact kb_X10_depthBy_b55 C hF hW hS (lv_sub hl [0] rfl)
  · replace hF := (if_neg hv4).symm.trans hF
    refine lv_aload_n hx hb dX10_depthBy_14 rfl (lv_at hl 0 rfl) ?_
    refine lv_bipush (v := 28) hx hb dX10_depthBy_15 (by decide) ?_
    obtain ⟨hK, hF⟩ := ps_ck_some hF
    obtain ⟨xv5, M9, hc, hF⟩ := ps_b2_some hF
    refine ps_backI (x0 := xv5) (M' := M9) hS (ps_callV C hW pc_9 mf_X10_isThrough tq_1090 tq_39 tq_1088 ⟨Nat.le_of_ble_eq_true rfl, Nat.le_of_ble_eq_true rfl⟩ rfl rfl (As := [.int (28 : Int32)]) (rest := []) (c_X10_isThrough hc) hK rfl hl.1 rfl (Nat.le_of_ble_eq_true rfl) dX10_depthBy_17 ⟨Nat.le_of_ble_eq_true rfl, Nat.le_of_ble_eq_true rfl⟩) (fun H locs hW hS => ?_)
    clear hc
    generalize M9 = M at hW hF
    refine lv_if_ne (tgt := 55) hx hb dX10_depthBy_20 (by decide) (fun hv6 => ?_) (fun hv6 => ?_)
    · replace hF := (if_neg hv6).symm.trans hF
      exact kb_X10_depthBy_b55 C hF hW hS (lv_sub hl [0] rfl)
    · replace hF := (if_pos hv6).symm.trans hF
      refine lv_iload_n hx hb dX10_depthBy_23 rfl (lv_at hl 2 rfl) ?_
      refine lv_iload_n hx hb dX10_depthBy_24 rfl (lv_at hl 3 rfl) ?_
      obtain ⟨xv7, M9, hc, hF⟩ := ps_b2_some hF
      refine ps_backI (x0 := xv7) (M' := M9) hS (ps_callS C hW mf_X10_has tq_1051 tq_1050 ⟨Nat.le_of_ble_eq_true rfl, Nat.le_of_ble_eq_true rfl⟩ rfl rfl (As := [.int x2, .int x3]) (rest := []) (c_X10_has hc) rfl hl.1 rfl (Nat.le_of_ble_eq_true rfl) dX10_depthBy_25 ⟨Nat.le_of_ble_eq_true rfl, Nat.le_of_ble_eq_true rfl⟩) (fun H locs hW hS => ?_)
      clear hc
      generalize M9 = M at hW hF
      refine lv_if_eq (tgt := 41) hx hb dX10_depthBy_28 (by decide) (fun hv8 => ?_) (fun hv8 => ?_)
      · replace hF := (if_pos hv8).symm.trans hF
        refine lv_aload_n hx hb dX10_depthBy_41 rfl (lv_at hl 0 rfl) ?_
        refine lv_bipush (v := 28) hx hb dX10_depthBy_42 (by decide) ?_
        obtain ⟨hK, hF⟩ := ps_ck_some hF
        obtain ⟨xv9, M9, hc, hF⟩ := ps_b2_some hF
        refine ps_backI (x0 := xv9) (M' := M9) hS (ps_callV C hW pc_9 mf_X10_pull tq_1132 tq_44 tq_1130 ⟨Nat.le_of_ble_eq_true rfl, Nat.le_of_ble_eq_true rfl⟩ rfl rfl (As := [.int (28 : Int32)]) (rest := []) (c_X10_pull hc) hK rfl hl.1 rfl (Nat.le_of_ble_eq_true rfl) dX10_depthBy_44 ⟨Nat.le_of_ble_eq_true rfl, Nat.le_of_ble_eq_true rfl⟩) (fun H locs hW hS => ?_)
        clear hc
        generalize M9 = M at hW hF
        refine lv_istore (lv' := [(4, .int xv9), (0, .ref (B + a0)), (1, .int x1), (2, .int x2), (3, .int x3)]) hx hb dX10_depthBy_47 hl (by decide) rfl (fun ls hl => ?_)
        exact kb_X10_depthBy_b49 C k9 hk9 hF hW hS (lv_sub hl [1, 2, 3, 4] rfl)
      · replace hF := (if_neg hv8).symm.trans hF
        refine lv_aload_n hx hb dX10_depthBy_31 rfl (lv_at hl 0 rfl) ?_
        refine lv_bipush (v := 28) hx hb dX10_depthBy_32 (by decide) ?_
        refine lv_iconst (v := 1) hx hb dX10_depthBy_34 (by decide) ?_
        obtain ⟨hK, hF⟩ := ps_ck_some hF
        obtain ⟨M9, hc, hF⟩ := ps_b1_some hF
        refine ps_backV (M' := M9) hS (ps_callV C hW pc_9 mf_X10_relax tq_1153 tq_48 tq_1151 ⟨Nat.le_of_ble_eq_true rfl, Nat.le_of_ble_eq_true rfl⟩ rfl rfl (As := [.int (28 : Int32), .int (1 : Int32)]) (rest := []) (c_X10_relax hc) hK rfl hl.1 rfl (Nat.le_of_ble_eq_true rfl) dX10_depthBy_35 ⟨Nat.le_of_ble_eq_true rfl, Nat.le_of_ble_eq_true rfl⟩) (fun H locs hW hS => ?_)
        clear hc
        generalize M9 = M at hW hF
        refine lv_goto (tgt := 49) hx hb dX10_depthBy_38 (by decide) ?_
        exact kb_X10_depthBy_b49 C k9 hk9 hF hW hS (lv_sub hl [0, 1, 2, 3] rfl)
theorem kb_X10_depthBy_l9 (C : ps_C p s m args meth c cX10_depthBy 5 RX10 ((some .int)) "depthBy" D Y B) {q : Int32 × ps_M}  : ∀ (n : Nat) (M : ps_M) (H : Heap) (locs : List Loc) (ls : Array Slot) (a0 : Nat) (x1 : Int32) (x2 : Int32) (x3 : Int32), f_X10_depthBy_l9 n M a0 x1 x2 x3 = some q → ps_W D Y B M H → va_S (fun q => B ≤ q) s.heap H locs → lv_has ls 5 [(0, .ref (B + a0)), (1, .int x1), (2, .int x2), (3, .int x3)] → W p l e rm_X10_depthBy s m args below meth c H locs 0 0 (ps_Qi D Y B below args s 0 0 q) (F0 m 9 ls []) := by
  intro n
  induction n with
  | zero => intro M H locs ls a0 x1 x2 x3 hF; cases hF
  | succ n ih => intro M H locs ls a0 x1 x2 x3 hF hW hS hl; exact kb_X10_depthBy_w9 C  (f_X10_depthBy_l9 n) ih hF hW hS hl
set_option maxRecDepth 100000 in
set_option maxHeartbeats 4000000 in
theorem kb_X10_depthBy (C : ps_C p s m args meth c cX10_depthBy 5 RX10 ((some .int)) "depthBy" D Y B) {q : Int32 × ps_M}  {M : ps_M} {a0 : Nat} {x1 : Int32} {x2 : Int32} (hF : f_X10_depthBy M a0 x1 x2 = some q) (hW : ps_W D Y B M H) (hS : va_S (fun q => B ≤ q) s.heap H locs) (hl : lv_has ls 5 [(0, .ref (B + a0)), (1, .int x1), (2, .int x2)]) : W p l e rm_X10_depthBy s m args below meth c H locs 0 0 (ps_Qi D Y B below args s 0 0 q) (F0 m 0 ls []) := by
  have hx := C.1
  have hb := C.2.1
  have hml := C.2.2.1
  have hown := C.2.2.2.1
  have hts := C.2.2.2.2.1
  unfold f_X10_depthBy at hF
  refine lv_aload_n hx hb dX10_depthBy_0 rfl (lv_at hl 0 rfl) ?_
  refine lv_iconst (v := 0) hx hb dX10_depthBy_1 (by decide) ?_
  refine lv_bipush (v := 28) hx hb dX10_depthBy_2 (by decide) ?_
  obtain ⟨hK, hF⟩ := ps_ck_some hF
  obtain ⟨M9, hc, hF⟩ := ps_b1_some hF
  refine ps_backV (M' := M9) hS (ps_callV C hW pc_9 mf_X10_copy tq_1128 tq_43 tq_1126 ⟨Nat.le_of_ble_eq_true rfl, Nat.le_of_ble_eq_true rfl⟩ rfl rfl (As := [.int (0 : Int32), .int (28 : Int32)]) (rest := []) (c_X10_copy hc) hK rfl hl.1 rfl (Nat.le_of_ble_eq_true rfl) dX10_depthBy_4 ⟨Nat.le_of_ble_eq_true rfl, Nat.le_of_ble_eq_true rfl⟩) (fun H locs hW hS => ?_)
  clear hc
  generalize M9 = M at hW hF
  refine lv_iconst (v := 0) hx hb dX10_depthBy_7 (by decide) ?_
  refine lv_istore_n (lv' := [(3, .int (0 : Int32)), (0, .ref (B + a0)), (1, .int x1), (2, .int x2)]) hx hb dX10_depthBy_8 rfl hl (by decide) rfl (fun ls hl => ?_)
  exact kb_X10_depthBy_l9 C ps_fu M _ _ _ a0 x1 x2 (0 : Int32) hF hW hS (lv_sub hl [1, 2, 3, 0] rfl)
theorem mf_X10_depthBy : ps_mf yX10_depthBy cX10_depthBy 5 ((some .int)) 2 := ⟨tq_1269, tq_71, by decide +kernel, by decide +kernel, by decide +kernel⟩
theorem c_X10_depthBy {l : Launch} {D : va_G} {Y : ps_A} {B : Nat} {M : ps_M} {a0 : Nat} {x1 : Int32} {x2 : Int32} {r : Int32} {M' : ps_M} (hF : f_X10_depthBy M a0 x1 x2 = some (r, M')) : Met l yX10_depthBy (Cond.code yX10_depthBy cX10_depthBy 5 ((some .int)) :: tb_G) rm_X10_depthBy (ps_PB D Y B M [.ref (B + a0), .int x1, .int x2]) (va_Qi (fun x (_ : Unit) => x = r) (fun _ t => ps_St D Y B M' t) (fun q => B ≤ q)) 0 0 (fun q => B ≤ q) :=
  pm_of (by decide +kernel) (Nat.le_of_ble_eq_true rfl) (fun p e s m args below meth c C hW hS ls hl => kb_X10_depthBy C hF hW hS hl)

abbrev rm_X10_ones : Room := { frames := 0, cells := 0, slots := 0, locals := 0 }
def f_X10_ones_w4 (k4 : ps_M → Int32 → Int32 → Int32 → Option (Int32 × ps_M)) (M : ps_M) (x0 : Int32) (x1 : Int32) (x2 : Int32) : Option (Int32 × ps_M) := if (10 : Int32) ≤ x2 then (some (x1, M)) else (ps_v ((x1 + ((x0 >>> (x2 &&& 31)) &&& (1 : Int32)))) (fun xv2 => ps_v (x2 + 1) (fun xv3 => k4 M x0 xv2 xv3)))
def f_X10_ones_l4 : Nat → ps_M → Int32 → Int32 → Int32 → Option (Int32 × ps_M)
  | 0, _, _, _, _ => none
  | n + 1, M, x0, x1, x2 => f_X10_ones_w4 (f_X10_ones_l4 n) M x0 x1 x2
def f_X10_ones (M : ps_M) (x0 : Int32) : Option (Int32 × ps_M) := f_X10_ones_l4 ps_fu M x0 (0 : Int32) (0 : Int32)
set_option maxRecDepth 100000 in
set_option maxHeartbeats 4000000 in
theorem kb_X10_ones_w4 (C : ps_C p s m args meth c cX10_ones 3 RX10 ((some .int)) "ones" D Y B) {q : Int32 × ps_M} (k4 : ps_M → Int32 → Int32 → Int32 → Option (Int32 × ps_M)) (hk4 : ∀ (M : ps_M) (H : Heap) (locs : List Loc) (ls : Array Slot) (x0 : Int32) (x1 : Int32) (x2 : Int32), k4 M x0 x1 x2 = some q → ps_W D Y B M H → va_S (fun q => B ≤ q) s.heap H locs → lv_has ls 3 [(0, .int x0), (1, .int x1), (2, .int x2)] → W p l e rm_X10_ones s m args below meth c H locs 0 0 (ps_Qi D Y B below args s 0 0 q) (F0 m 4 ls [])) {M : ps_M} {x0 : Int32} {x1 : Int32} {x2 : Int32} (hF : f_X10_ones_w4 k4 M x0 x1 x2 = some q) (hW : ps_W D Y B M H) (hS : va_S (fun q => B ≤ q) s.heap H locs) (hl : lv_has ls 3 [(0, .int x0), (1, .int x1), (2, .int x2)]) : W p l e rm_X10_ones s m args below meth c H locs 0 0 (ps_Qi D Y B below args s 0 0 q) (F0 m 4 ls []) := by
  have hx := C.1
  have hb := C.2.1
  have hml := C.2.2.1
  have hown := C.2.2.2.1
  have hts := C.2.2.2.2.1
  unfold f_X10_ones_w4 at hF
  refine lv_iload_n hx hb dX10_ones_4 rfl (lv_at hl 2 rfl) ?_
  refine lv_bipush (v := 10) hx hb dX10_ones_5 (by decide) ?_
  refine lv_icmp_ge (tgt := 24) hx hb dX10_ones_7 (by decide) (fun hv1 => ?_) (fun hv1 => ?_)
  · replace hF := (if_pos hv1).symm.trans hF
    refine lv_iload_n hx hb dX10_ones_24 rfl (lv_at hl 1 rfl) ?_
    exact pw_iret C hW hS dX10_ones_25 hF
  · replace hF := (if_neg hv1).symm.trans hF
    refine lv_iload_n hx hb dX10_ones_10 rfl (lv_at hl 1 rfl) ?_
    refine lv_iload_n hx hb dX10_ones_11 rfl (lv_at hl 0 rfl) ?_
    refine lv_iload_n hx hb dX10_ones_12 rfl (lv_at hl 2 rfl) ?_
    refine lv_ishr hx hb dX10_ones_13 ?_
    refine lv_iconst (v := 1) hx hb dX10_ones_14 (by decide) ?_
    refine lv_iand hx hb dX10_ones_15 ?_
    refine lv_iadd hx hb dX10_ones_16 ?_
    refine pw_v hF (fun xv2 hF => ?_)
    refine lv_istore_n (lv' := [(1, .int xv2), (0, .int x0), (2, .int x2)]) hx hb dX10_ones_17 rfl hl (by decide) rfl (fun ls hl => ?_)
    obtain ⟨xv3, exv3, hF⟩ := ps_ve hF
    refine lv_iinc (v := xv3) (lv' := [(2, .int xv3), (1, .int xv2), (0, .int x0)]) hx hb dX10_ones_18 hl (k := 2) rfl (by rw [exv3]; rfl) (by decide) rfl (fun ls hl => ?_)
    clear exv3
    refine lv_goto (tgt := 4) hx hb dX10_ones_21 (by decide) ?_
    exact hk4 M _ _ _ x0 xv2 xv3 hF hW hS (lv_sub hl [2, 1, 0] rfl)
theorem kb_X10_ones_l4 (C : ps_C p s m args meth c cX10_ones 3 RX10 ((some .int)) "ones" D Y B) {q : Int32 × ps_M}  : ∀ (n : Nat) (M : ps_M) (H : Heap) (locs : List Loc) (ls : Array Slot) (x0 : Int32) (x1 : Int32) (x2 : Int32), f_X10_ones_l4 n M x0 x1 x2 = some q → ps_W D Y B M H → va_S (fun q => B ≤ q) s.heap H locs → lv_has ls 3 [(0, .int x0), (1, .int x1), (2, .int x2)] → W p l e rm_X10_ones s m args below meth c H locs 0 0 (ps_Qi D Y B below args s 0 0 q) (F0 m 4 ls []) := by
  intro n
  induction n with
  | zero => intro M H locs ls x0 x1 x2 hF; cases hF
  | succ n ih => intro M H locs ls x0 x1 x2 hF hW hS hl; exact kb_X10_ones_w4 C  (f_X10_ones_l4 n) ih hF hW hS hl
set_option maxRecDepth 100000 in
set_option maxHeartbeats 4000000 in
theorem kb_X10_ones (C : ps_C p s m args meth c cX10_ones 3 RX10 ((some .int)) "ones" D Y B) {q : Int32 × ps_M}  {M : ps_M} {x0 : Int32} (hF : f_X10_ones M x0 = some q) (hW : ps_W D Y B M H) (hS : va_S (fun q => B ≤ q) s.heap H locs) (hl : lv_has ls 3 [(0, .int x0)]) : W p l e rm_X10_ones s m args below meth c H locs 0 0 (ps_Qi D Y B below args s 0 0 q) (F0 m 0 ls []) := by
  have hx := C.1
  have hb := C.2.1
  have hml := C.2.2.1
  have hown := C.2.2.2.1
  have hts := C.2.2.2.2.1
  unfold f_X10_ones at hF
  refine lv_iconst (v := 0) hx hb dX10_ones_0 (by decide) ?_
  refine lv_istore_n (lv' := [(1, .int (0 : Int32)), (0, .int x0)]) hx hb dX10_ones_1 rfl hl (by decide) rfl (fun ls hl => ?_)
  refine lv_iconst (v := 0) hx hb dX10_ones_2 (by decide) ?_
  refine lv_istore_n (lv' := [(2, .int (0 : Int32)), (1, .int (0 : Int32)), (0, .int x0)]) hx hb dX10_ones_3 rfl hl (by decide) rfl (fun ls hl => ?_)
  exact kb_X10_ones_l4 C ps_fu M _ _ _ x0 (0 : Int32) (0 : Int32) hF hW hS (lv_sub hl [2, 1, 0] rfl)
theorem mf_X10_ones : ps_mf yX10_ones cX10_ones 3 ((some .int)) 1 := ⟨tq_1272, tq_71, by decide +kernel, by decide +kernel, by decide +kernel⟩
theorem c_X10_ones {l : Launch} {D : va_G} {Y : ps_A} {B : Nat} {M : ps_M} {x0 : Int32} {r : Int32} {M' : ps_M} (hF : f_X10_ones M x0 = some (r, M')) : Met l yX10_ones (Cond.code yX10_ones cX10_ones 3 ((some .int)) :: tb_G) rm_X10_ones (ps_PB D Y B M [.int x0]) (va_Qi (fun x (_ : Unit) => x = r) (fun _ t => ps_St D Y B M' t) (fun q => B ≤ q)) 0 0 (fun q => B ≤ q) :=
  pm_of (by decide +kernel) (Nat.le_of_ble_eq_true rfl) (fun p e s m args below meth c C hW hS ls hl => kb_X10_ones C hF hW hS hl)

abbrev rm_X10_whenRest : Room := { frames := 4, cells := 0, slots := 0, locals := 99 }
def f_X10_whenRest_b22 (M : ps_M)  : Option (Int32 × ps_M) := some ((-1000000002 : Int32), M)
def f_X10_whenRest_b130 (k43 : ps_M → Nat → Int32 → Int32 → Int32 → Int32 → Int32 → Option (Int32 × ps_M)) (M : ps_M) (a0 : Nat) (x1 : Int32) (x2 : Int32) (x3 : Int32) (x4 : Int32) (x5 : Int32) : Option (Int32 × ps_M) := ps_v (x5 + 1) (fun xv1 => k43 M a0 x1 x2 x3 x4 xv1)
def f_X10_whenRest_b123 (k43 : ps_M → Nat → Int32 → Int32 → Int32 → Int32 → Int32 → Option (Int32 × ps_M)) (M : ps_M) (a0 : Nat) (x1 : Int32) (x2 : Int32) (x5 : Int32) (x6 : Int32) (x7 : Int32) : Option (Int32 × ps_M) := f_X10_whenRest_b130 k43 M a0 x1 x2 x6 x7 x5
def f_X10_whenRest_w57 (k43 : ps_M → Nat → Int32 → Int32 → Int32 → Int32 → Int32 → Option (Int32 × ps_M)) (k57 : ps_M → Nat → Int32 → Int32 → Int32 → Int32 → Int32 → Int32 → Int32 → Option (Int32 × ps_M)) (M : ps_M) (a0 : Nat) (x1 : Int32) (x2 : Int32) (x3 : Int32) (x4 : Int32) (x5 : Int32) (x6 : Int32) (x7 : Int32) : Option (Int32 × ps_M) := if x1 ≤ x7 then (ps_ck M a0 9 (ps_b2 (f_X10_depthBy M a0 x1 x6) (fun xv3 M => if x4 < xv3 then (f_X10_whenRest_b123 k43 M a0 x1 x2 x5 x6 xv3) else (if xv3 = x4 then (ps_b2 (f_X10_ones M x6) (fun xv6 M => ps_b2 (f_X10_ones M x3) (fun xv7 M => if xv7 ≤ xv6 then (f_X10_whenRest_b130 k43 M a0 x1 x2 x3 x4 x5) else (f_X10_whenRest_b123 k43 M a0 x1 x2 x5 x6 xv3)))) else (f_X10_whenRest_b130 k43 M a0 x1 x2 x3 x4 x5))))) else (ps_v ((x6 ||| (((x5 >>> (((x1 - (1 : Int32)) - x7) &&& 31)) &&& (1 : Int32)) <<< (x7 &&& 31)))) (fun xv9 => ps_v (x7 + 1) (fun xv10 => k57 M a0 x1 x2 x3 x4 x5 xv9 xv10)))
def f_X10_whenRest_l57 (k43 : ps_M → Nat → Int32 → Int32 → Int32 → Int32 → Int32 → Option (Int32 × ps_M)) : Nat → ps_M → Nat → Int32 → Int32 → Int32 → Int32 → Int32 → Int32 → Int32 → Option (Int32 × ps_M)
  | 0, _, _, _, _, _, _, _, _, _ => none
  | n + 1, M, a0, x1, x2, x3, x4, x5, x6, x7 => f_X10_whenRest_w57 k43 (f_X10_whenRest_l57 k43 n) M a0 x1 x2 x3 x4 x5 x6 x7
def f_X10_whenRest_b146 (M : ps_M) (t0 : Int32) : Option (Int32 × ps_M) := some (t0, M)
def f_X10_whenRest_w43 (k43 : ps_M → Nat → Int32 → Int32 → Int32 → Int32 → Int32 → Option (Int32 × ps_M)) (M : ps_M) (a0 : Nat) (x1 : Int32) (x2 : Int32) (x3 : Int32) (x4 : Int32) (x5 : Int32) : Option (Int32 × ps_M) := if ((1 : Int32) <<< (x1 &&& 31)) ≤ x5 then (if x2 = 0 then (f_X10_whenRest_b146 M x4) else (f_X10_whenRest_b146 M x3)) else (f_X10_whenRest_l57 k43 ps_fu M a0 x1 x2 x3 x4 x5 (0 : Int32) (0 : Int32))
def f_X10_whenRest_l43 : Nat → ps_M → Nat → Int32 → Int32 → Int32 → Int32 → Int32 → Option (Int32 × ps_M)
  | 0, _, _, _, _, _, _, _ => none
  | n + 1, M, a0, x1, x2, x3, x4, x5 => f_X10_whenRest_w43 (f_X10_whenRest_l43 n) M a0 x1 x2 x3 x4 x5
def f_X10_whenRest (M : ps_M) (a0 : Nat) (x1 : Int32) (x2 : Int32) : Option (Int32 × ps_M) := ps_b2 (f_X10_in M (x1.toInt64) (1 : Int64) (10 : Int64)) (fun xv13 M => if xv13 = 0 then (f_X10_whenRest_b22 M ) else (ps_b2 (f_X10_in M (x2.toInt64) (0 : Int64) (1 : Int64)) (fun xv15 M => if xv15 = 0 then (f_X10_whenRest_b22 M ) else (ps_ck M a0 9 (ps_b2 (f_X10_isPair M a0 ) (fun xv17 M => if xv17 = 0 then (some ((-1000000003 : Int32), M)) else (f_X10_whenRest_l43 ps_fu M a0 x1 x2 (0 : Int32) (-1 : Int32) (0 : Int32))))))))
set_option maxRecDepth 100000 in
set_option maxHeartbeats 4000000 in
theorem kb_X10_whenRest_b22 (C : ps_C p s m args meth c cX10_whenRest 8 RX10 ((some .int)) "whenRest" D Y B) {q : Int32 × ps_M}  {M : ps_M}  (hF : f_X10_whenRest_b22 M  = some q) (hW : ps_W D Y B M H) (hS : va_S (fun q => B ≤ q) s.heap H locs) (hl : lv_has ls 8 []) : W p l e rm_X10_whenRest s m args below meth c H locs 0 0 (ps_Qi D Y B below args s 0 0 q) (F0 m 22 ls []) := by
  have hx := C.1
  have hb := C.2.1
  have hml := C.2.2.1
  have hown := C.2.2.2.1
  have hts := C.2.2.2.2.1
  unfold f_X10_whenRest_b22 at hF
  refine lv_ldc (v := -1000000002) hx hb hown (hts _ tq_1033) dX10_whenRest_22 ?_
  exact pw_iret C hW hS dX10_whenRest_24 hF
set_option maxRecDepth 100000 in
set_option maxHeartbeats 4000000 in
theorem kb_X10_whenRest_b130 (C : ps_C p s m args meth c cX10_whenRest 8 RX10 ((some .int)) "whenRest" D Y B) {q : Int32 × ps_M} (k43 : ps_M → Nat → Int32 → Int32 → Int32 → Int32 → Int32 → Option (Int32 × ps_M)) (hk43 : ∀ (M : ps_M) (H : Heap) (locs : List Loc) (ls : Array Slot) (a0 : Nat) (x1 : Int32) (x2 : Int32) (x3 : Int32) (x4 : Int32) (x5 : Int32), k43 M a0 x1 x2 x3 x4 x5 = some q → ps_W D Y B M H → va_S (fun q => B ≤ q) s.heap H locs → lv_has ls 8 [(0, .ref (B + a0)), (1, .int x1), (2, .int x2), (3, .int x3), (4, .int x4), (5, .int x5)] → W p l e rm_X10_whenRest s m args below meth c H locs 0 0 (ps_Qi D Y B below args s 0 0 q) (F0 m 43 ls [])) {M : ps_M} {a0 : Nat} {x1 : Int32} {x2 : Int32} {x3 : Int32} {x4 : Int32} {x5 : Int32} (hF : f_X10_whenRest_b130 k43 M a0 x1 x2 x3 x4 x5 = some q) (hW : ps_W D Y B M H) (hS : va_S (fun q => B ≤ q) s.heap H locs) (hl : lv_has ls 8 [(0, .ref (B + a0)), (1, .int x1), (2, .int x2), (3, .int x3), (4, .int x4), (5, .int x5)]) : W p l e rm_X10_whenRest s m args below meth c H locs 0 0 (ps_Qi D Y B below args s 0 0 q) (F0 m 130 ls []) := by
  have hx := C.1
  have hb := C.2.1
  have hml := C.2.2.1
  have hown := C.2.2.2.1
  have hts := C.2.2.2.2.1
  unfold f_X10_whenRest_b130 at hF
  obtain ⟨xv1, exv1, hF⟩ := ps_ve hF
  refine lv_iinc (v := xv1) (lv' := [(5, .int xv1), (0, .ref (B + a0)), (1, .int x1), (2, .int x2), (3, .int x3), (4, .int x4)]) hx hb dX10_whenRest_130 hl (k := 5) rfl (by rw [exv1]; rfl) (by decide) rfl (fun ls hl => ?_)
  clear exv1
  refine lv_goto (tgt := 43) hx hb dX10_whenRest_133 (by decide) ?_
  exact hk43 M _ _ _ a0 x1 x2 x3 x4 xv1 hF hW hS (lv_sub hl [1, 2, 3, 4, 5, 0] rfl)
set_option maxRecDepth 100000 in
set_option maxHeartbeats 4000000 in
theorem kb_X10_whenRest_b123 (C : ps_C p s m args meth c cX10_whenRest 8 RX10 ((some .int)) "whenRest" D Y B) {q : Int32 × ps_M} (k43 : ps_M → Nat → Int32 → Int32 → Int32 → Int32 → Int32 → Option (Int32 × ps_M)) (hk43 : ∀ (M : ps_M) (H : Heap) (locs : List Loc) (ls : Array Slot) (a0 : Nat) (x1 : Int32) (x2 : Int32) (x3 : Int32) (x4 : Int32) (x5 : Int32), k43 M a0 x1 x2 x3 x4 x5 = some q → ps_W D Y B M H → va_S (fun q => B ≤ q) s.heap H locs → lv_has ls 8 [(0, .ref (B + a0)), (1, .int x1), (2, .int x2), (3, .int x3), (4, .int x4), (5, .int x5)] → W p l e rm_X10_whenRest s m args below meth c H locs 0 0 (ps_Qi D Y B below args s 0 0 q) (F0 m 43 ls [])) {M : ps_M} {a0 : Nat} {x1 : Int32} {x2 : Int32} {x5 : Int32} {x6 : Int32} {x7 : Int32} (hF : f_X10_whenRest_b123 k43 M a0 x1 x2 x5 x6 x7 = some q) (hW : ps_W D Y B M H) (hS : va_S (fun q => B ≤ q) s.heap H locs) (hl : lv_has ls 8 [(0, .ref (B + a0)), (1, .int x1), (2, .int x2), (5, .int x5), (6, .int x6), (7, .int x7)]) : W p l e rm_X10_whenRest s m args below meth c H locs 0 0 (ps_Qi D Y B below args s 0 0 q) (F0 m 123 ls []) := by
  have hx := C.1
  have hb := C.2.1
  have hml := C.2.2.1
  have hown := C.2.2.2.1
  have hts := C.2.2.2.2.1
  unfold f_X10_whenRest_b123 at hF
  refine lv_iload hx hb dX10_whenRest_123 (lv_at hl 4 rfl) ?_
  refine lv_istore_n (lv' := [(3, .int x6), (0, .ref (B + a0)), (1, .int x1), (2, .int x2), (5, .int x5), (6, .int x6), (7, .int x7)]) hx hb dX10_whenRest_125 rfl hl (by decide) rfl (fun ls hl => ?_)
  refine lv_iload hx hb dX10_whenRest_126 (lv_at hl 6 rfl) ?_
  refine lv_istore (lv' := [(4, .int x7), (3, .int x6), (0, .ref (B + a0)), (1, .int x1), (2, .int x2), (5, .int x5), (6, .int x6), (7, .int x7)]) hx hb dX10_whenRest_128 hl (by decide) rfl (fun ls hl => ?_)
  exact kb_X10_whenRest_b130 C k43 hk43 hF hW hS (lv_sub hl [2, 3, 4, 1, 0, 5] rfl)
set_option maxRecDepth 100000 in
set_option maxHeartbeats 4000000 in
theorem kb_X10_whenRest_w57 (C : ps_C p s m args meth c cX10_whenRest 8 RX10 ((some .int)) "whenRest" D Y B) {q : Int32 × ps_M} (k43 : ps_M → Nat → Int32 → Int32 → Int32 → Int32 → Int32 → Option (Int32 × ps_M)) (hk43 : ∀ (M : ps_M) (H : Heap) (locs : List Loc) (ls : Array Slot) (a0 : Nat) (x1 : Int32) (x2 : Int32) (x3 : Int32) (x4 : Int32) (x5 : Int32), k43 M a0 x1 x2 x3 x4 x5 = some q → ps_W D Y B M H → va_S (fun q => B ≤ q) s.heap H locs → lv_has ls 8 [(0, .ref (B + a0)), (1, .int x1), (2, .int x2), (3, .int x3), (4, .int x4), (5, .int x5)] → W p l e rm_X10_whenRest s m args below meth c H locs 0 0 (ps_Qi D Y B below args s 0 0 q) (F0 m 43 ls [])) (k57 : ps_M → Nat → Int32 → Int32 → Int32 → Int32 → Int32 → Int32 → Int32 → Option (Int32 × ps_M)) (hk57 : ∀ (M : ps_M) (H : Heap) (locs : List Loc) (ls : Array Slot) (a0 : Nat) (x1 : Int32) (x2 : Int32) (x3 : Int32) (x4 : Int32) (x5 : Int32) (x6 : Int32) (x7 : Int32), k57 M a0 x1 x2 x3 x4 x5 x6 x7 = some q → ps_W D Y B M H → va_S (fun q => B ≤ q) s.heap H locs → lv_has ls 8 [(0, .ref (B + a0)), (1, .int x1), (2, .int x2), (3, .int x3), (4, .int x4), (5, .int x5), (6, .int x6), (7, .int x7)] → W p l e rm_X10_whenRest s m args below meth c H locs 0 0 (ps_Qi D Y B below args s 0 0 q) (F0 m 57 ls [])) {M : ps_M} {a0 : Nat} {x1 : Int32} {x2 : Int32} {x3 : Int32} {x4 : Int32} {x5 : Int32} {x6 : Int32} {x7 : Int32} (hF : f_X10_whenRest_w57 k43 k57 M a0 x1 x2 x3 x4 x5 x6 x7 = some q) (hW : ps_W D Y B M H) (hS : va_S (fun q => B ≤ q) s.heap H locs) (hl : lv_has ls 8 [(0, .ref (B + a0)), (1, .int x1), (2, .int x2), (3, .int x3), (4, .int x4), (5, .int x5), (6, .int x6), (7, .int x7)]) : W p l e rm_X10_whenRest s m args below meth c H locs 0 0 (ps_Qi D Y B below args s 0 0 q) (F0 m 57 ls []) := by
  have hx := C.1
  have hb := C.2.1
  have hml := C.2.2.1
  have hown := C.2.2.2.1
  have hts := C.2.2.2.2.1
  unfold f_X10_whenRest_w57 at hF
  refine lv_iload hx hb dX10_whenRest_57 (lv_at hl 7 rfl) ?_
  refine lv_iload_n hx hb dX10_whenRest_59 rfl (lv_at hl 1 rfl) ?_
  refine lv_icmp_ge (tgt := 88) hx hb dX10_whenRest_60 (by decide) (fun hv2 => ?_) (fun hv2 => ?_)
  · replace hF := (if_pos hv2).symm.trans hF
    refine lv_aload_n hx hb dX10_whenRest_88 rfl (lv_at hl 0 rfl) ?_
    refine lv_iload_n hx hb dX10_whenRest_89 rfl (lv_at hl 1 rfl) ?_
    refine lv_iload hx hb dX10_whenRest_90 (lv_at hl 6 rfl) ?_
    obtain ⟨hK, hF⟩ := ps_ck_some hF
    obtain ⟨xv3, M9, hc, hF⟩ := ps_b2_some hF
    refine ps_backI (x0 := xv3) (M' := M9) hS (ps_callV C hW pc_9 mf_X10_depthBy tq_1268 tq_58 tq_1266 ⟨Nat.le_of_ble_eq_true rfl, Nat.le_of_ble_eq_true rfl⟩ rfl rfl (As := [.int x1, .int x6]) (rest := []) (c_X10_depthBy hc) hK rfl hl.1 rfl (Nat.le_of_ble_eq_true rfl) dX10_whenRest_92 ⟨Nat.le_of_ble_eq_true rfl, Nat.le_of_ble_eq_true rfl⟩) (fun H locs hW hS => ?_)
    clear hc
    generalize M9 = M at hW hF
    refine lv_istore (lv' := [(7, .int xv3), (0, .ref (B + a0)), (1, .int x1), (2, .int x2), (3, .int x3), (4, .int x4), (5, .int x5), (6, .int x6)]) hx hb dX10_whenRest_95 hl (by decide) rfl (fun ls hl => ?_)
    refine lv_iload hx hb dX10_whenRest_97 (lv_at hl 0 rfl) ?_
    refine lv_iload hx hb dX10_whenRest_99 (lv_at hl 5 rfl) ?_
    refine lv_icmp_gt (tgt := 123) hx hb dX10_whenRest_101 (by decide) (fun hv4 => ?_) (fun hv4 => ?_)
    · replace hF := (if_pos hv4).symm.trans hF
      exact kb_X10_whenRest_b123 C k43 hk43 hF hW hS (lv_sub hl [1, 2, 3, 6, 7, 0] rfl)
    · replace hF := (if_neg hv4).symm.trans hF
      refine lv_iload hx hb dX10_whenRest_104 (lv_at hl 0 rfl) ?_
      refine lv_iload hx hb dX10_whenRest_106 (lv_at hl 5 rfl) ?_
      refine lv_icmp_ne (tgt := 130) hx hb dX10_whenRest_108 (by decide) (fun hv5 => ?_) (fun hv5 => ?_)
      · replace hF := (if_neg hv5).symm.trans hF
        exact kb_X10_whenRest_b130 C k43 hk43 hF hW hS (lv_sub hl [1, 2, 3, 4, 5, 6] rfl)
      · replace hF := (if_pos hv5).symm.trans hF
        refine lv_iload hx hb dX10_whenRest_111 (lv_at hl 7 rfl) ?_
        obtain ⟨xv6, M9, hc, hF⟩ := ps_b2_some hF
        refine ps_backI (x0 := xv6) (M' := M9) hS (ps_callS C hW mf_X10_ones tq_1271 tq_1270 ⟨Nat.le_of_ble_eq_true rfl, Nat.le_of_ble_eq_true rfl⟩ rfl rfl (As := [.int x6]) (rest := []) (c_X10_ones hc) rfl hl.1 rfl (Nat.le_of_ble_eq_true rfl) dX10_whenRest_113 ⟨Nat.le_of_ble_eq_true rfl, Nat.le_of_ble_eq_true rfl⟩) (fun H locs hW hS => ?_)
        clear hc
        generalize M9 = M at hW hF
        refine lv_iload_n hx hb dX10_whenRest_116 rfl (lv_at hl 4 rfl) ?_
        obtain ⟨xv7, M9, hc, hF⟩ := ps_b2_some hF
        refine ps_backI (x0 := xv7) (M' := M9) hS (ps_callS C hW mf_X10_ones tq_1271 tq_1270 ⟨Nat.le_of_ble_eq_true rfl, Nat.le_of_ble_eq_true rfl⟩ rfl rfl (As := [.int x3]) (rest := [.int xv6]) (c_X10_ones hc) rfl hl.1 rfl (Nat.le_of_ble_eq_true rfl) dX10_whenRest_117 ⟨Nat.le_of_ble_eq_true rfl, Nat.le_of_ble_eq_true rfl⟩) (fun H locs hW hS => ?_)
        clear hc
        generalize M9 = M at hW hF
        refine lv_icmp_ge (tgt := 130) hx hb dX10_whenRest_120 (by decide) (fun hv8 => ?_) (fun hv8 => ?_)
        · replace hF := (if_pos hv8).symm.trans hF
          exact kb_X10_whenRest_b130 C k43 hk43 hF hW hS (lv_sub hl [1, 2, 3, 4, 5, 6] rfl)
        · replace hF := (if_neg hv8).symm.trans hF
          exact kb_X10_whenRest_b123 C k43 hk43 hF hW hS (lv_sub hl [1, 2, 3, 6, 7, 0] rfl)
  · replace hF := (if_neg hv2).symm.trans hF
    refine lv_iload hx hb dX10_whenRest_63 (lv_at hl 6 rfl) ?_
    refine lv_iload hx hb dX10_whenRest_65 (lv_at hl 5 rfl) ?_
    refine lv_iload_n hx hb dX10_whenRest_67 rfl (lv_at hl 1 rfl) ?_
    refine lv_iconst (v := 1) hx hb dX10_whenRest_68 (by decide) ?_
    refine lv_isub hx hb dX10_whenRest_69 ?_
    refine lv_iload hx hb dX10_whenRest_70 (lv_at hl 7 rfl) ?_
    refine lv_isub hx hb dX10_whenRest_72 ?_
    refine lv_ishr hx hb dX10_whenRest_73 ?_
    refine lv_iconst (v := 1) hx hb dX10_whenRest_74 (by decide) ?_
    refine lv_iand hx hb dX10_whenRest_75 ?_
    refine lv_iload hx hb dX10_whenRest_76 (lv_at hl 7 rfl) ?_
    refine lv_ishl hx hb dX10_whenRest_78 ?_
    refine lv_ior hx hb dX10_whenRest_79 ?_
    refine pw_v hF (fun xv9 hF => ?_)
    refine lv_istore (lv' := [(6, .int xv9), (0, .ref (B + a0)), (1, .int x1), (2, .int x2), (3, .int x3), (4, .int x4), (5, .int x5), (7, .int x7)]) hx hb dX10_whenRest_80 hl (by decide) rfl (fun ls hl => ?_)
    obtain ⟨xv10, exv10, hF⟩ := ps_ve hF
    refine lv_iinc (v := xv10) (lv' := [(7, .int xv10), (6, .int xv9), (0, .ref (B + a0)), (1, .int x1), (2, .int x2), (3, .int x3), (4, .int x4), (5, .int x5)]) hx hb dX10_whenRest_82 hl (k := 7) rfl (by rw [exv10]; rfl) (by decide) rfl (fun ls hl => ?_)
    clear exv10
    refine lv_goto (tgt := 57) hx hb dX10_whenRest_85 (by decide) ?_
    exact hk57 M _ _ _ a0 x1 x2 x3 x4 x5 xv9 xv10 hF hW hS (lv_sub hl [2, 3, 4, 5, 6, 7, 1, 0] rfl)
theorem kb_X10_whenRest_l57 (C : ps_C p s m args meth c cX10_whenRest 8 RX10 ((some .int)) "whenRest" D Y B) {q : Int32 × ps_M} (k43 : ps_M → Nat → Int32 → Int32 → Int32 → Int32 → Int32 → Option (Int32 × ps_M)) (hk43 : ∀ (M : ps_M) (H : Heap) (locs : List Loc) (ls : Array Slot) (a0 : Nat) (x1 : Int32) (x2 : Int32) (x3 : Int32) (x4 : Int32) (x5 : Int32), k43 M a0 x1 x2 x3 x4 x5 = some q → ps_W D Y B M H → va_S (fun q => B ≤ q) s.heap H locs → lv_has ls 8 [(0, .ref (B + a0)), (1, .int x1), (2, .int x2), (3, .int x3), (4, .int x4), (5, .int x5)] → W p l e rm_X10_whenRest s m args below meth c H locs 0 0 (ps_Qi D Y B below args s 0 0 q) (F0 m 43 ls [])) : ∀ (n : Nat) (M : ps_M) (H : Heap) (locs : List Loc) (ls : Array Slot) (a0 : Nat) (x1 : Int32) (x2 : Int32) (x3 : Int32) (x4 : Int32) (x5 : Int32) (x6 : Int32) (x7 : Int32), f_X10_whenRest_l57 k43 n M a0 x1 x2 x3 x4 x5 x6 x7 = some q → ps_W D Y B M H → va_S (fun q => B ≤ q) s.heap H locs → lv_has ls 8 [(0, .ref (B + a0)), (1, .int x1), (2, .int x2), (3, .int x3), (4, .int x4), (5, .int x5), (6, .int x6), (7, .int x7)] → W p l e rm_X10_whenRest s m args below meth c H locs 0 0 (ps_Qi D Y B below args s 0 0 q) (F0 m 57 ls []) := by
  intro n
  induction n with
  | zero => intro M H locs ls a0 x1 x2 x3 x4 x5 x6 x7 hF; cases hF
  | succ n ih => intro M H locs ls a0 x1 x2 x3 x4 x5 x6 x7 hF hW hS hl; exact kb_X10_whenRest_w57 C k43 hk43 (f_X10_whenRest_l57 k43 n) ih hF hW hS hl
set_option maxRecDepth 100000 in
set_option maxHeartbeats 4000000 in
theorem kb_X10_whenRest_b146 (C : ps_C p s m args meth c cX10_whenRest 8 RX10 ((some .int)) "whenRest" D Y B) {q : Int32 × ps_M}  {M : ps_M} {t0 : Int32} (hF : f_X10_whenRest_b146 M t0 = some q) (hW : ps_W D Y B M H) (hS : va_S (fun q => B ≤ q) s.heap H locs) (hl : lv_has ls 8 []) : W p l e rm_X10_whenRest s m args below meth c H locs 0 0 (ps_Qi D Y B below args s 0 0 q) (F0 m 146 ls [.int t0]) := by
  have hx := C.1
  have hb := C.2.1
  have hml := C.2.2.1
  have hown := C.2.2.2.1
  have hts := C.2.2.2.2.1
  unfold f_X10_whenRest_b146 at hF
  exact pw_iret C hW hS dX10_whenRest_146 hF
set_option maxRecDepth 100000 in
set_option maxHeartbeats 4000000 in
theorem kb_X10_whenRest_w43 (C : ps_C p s m args meth c cX10_whenRest 8 RX10 ((some .int)) "whenRest" D Y B) {q : Int32 × ps_M} (k43 : ps_M → Nat → Int32 → Int32 → Int32 → Int32 → Int32 → Option (Int32 × ps_M)) (hk43 : ∀ (M : ps_M) (H : Heap) (locs : List Loc) (ls : Array Slot) (a0 : Nat) (x1 : Int32) (x2 : Int32) (x3 : Int32) (x4 : Int32) (x5 : Int32), k43 M a0 x1 x2 x3 x4 x5 = some q → ps_W D Y B M H → va_S (fun q => B ≤ q) s.heap H locs → lv_has ls 8 [(0, .ref (B + a0)), (1, .int x1), (2, .int x2), (3, .int x3), (4, .int x4), (5, .int x5)] → W p l e rm_X10_whenRest s m args below meth c H locs 0 0 (ps_Qi D Y B below args s 0 0 q) (F0 m 43 ls [])) {M : ps_M} {a0 : Nat} {x1 : Int32} {x2 : Int32} {x3 : Int32} {x4 : Int32} {x5 : Int32} (hF : f_X10_whenRest_w43 k43 M a0 x1 x2 x3 x4 x5 = some q) (hW : ps_W D Y B M H) (hS : va_S (fun q => B ≤ q) s.heap H locs) (hl : lv_has ls 8 [(0, .ref (B + a0)), (1, .int x1), (2, .int x2), (3, .int x3), (4, .int x4), (5, .int x5)]) : W p l e rm_X10_whenRest s m args below meth c H locs 0 0 (ps_Qi D Y B below args s 0 0 q) (F0 m 43 ls []) := by
  have hx := C.1
  have hb := C.2.1
  have hml := C.2.2.1
  have hown := C.2.2.2.1
  have hts := C.2.2.2.2.1
  unfold f_X10_whenRest_w43 at hF
  refine lv_iload hx hb dX10_whenRest_43 (lv_at hl 5 rfl) ?_
  refine lv_iconst (v := 1) hx hb dX10_whenRest_45 (by decide) ?_
  refine lv_iload_n hx hb dX10_whenRest_46 rfl (lv_at hl 1 rfl) ?_
  refine lv_ishl hx hb dX10_whenRest_47 ?_
  refine lv_icmp_ge (tgt := 136) hx hb dX10_whenRest_48 (by decide) (fun hv11 => ?_) (fun hv11 => ?_)
  · replace hF := (if_pos hv11).symm.trans hF
    refine lv_iload_n hx hb dX10_whenRest_136 rfl (lv_at hl 2 rfl) ?_
    refine lv_if_ne (tgt := 145) hx hb dX10_whenRest_137 (by decide) (fun hv12 => ?_) (fun hv12 => ?_)
    · replace hF := (if_neg hv12).symm.trans hF
      refine lv_iload_n hx hb dX10_whenRest_145 rfl (lv_at hl 3 rfl) ?_
      exact kb_X10_whenRest_b146 C hF hW hS (lv_sub hl [] rfl)
    · replace hF := (if_pos hv12).symm.trans hF
      refine lv_iload hx hb dX10_whenRest_140 (lv_at hl 4 rfl) ?_
      refine lv_goto (tgt := 146) hx hb dX10_whenRest_142 (by decide) ?_
      exact kb_X10_whenRest_b146 C hF hW hS (lv_sub hl [] rfl)
  · replace hF := (if_neg hv11).symm.trans hF
    refine lv_iconst (v := 0) hx hb dX10_whenRest_51 (by decide) ?_
    refine lv_istore (lv' := [(6, .int (0 : Int32)), (0, .ref (B + a0)), (1, .int x1), (2, .int x2), (3, .int x3), (4, .int x4), (5, .int x5)]) hx hb dX10_whenRest_52 hl (by decide) rfl (fun ls hl => ?_)
    refine lv_iconst (v := 0) hx hb dX10_whenRest_54 (by decide) ?_
    refine lv_istore (lv' := [(7, .int (0 : Int32)), (6, .int (0 : Int32)), (0, .ref (B + a0)), (1, .int x1), (2, .int x2), (3, .int x3), (4, .int x4), (5, .int x5)]) hx hb dX10_whenRest_55 hl (by decide) rfl (fun ls hl => ?_)
    exact kb_X10_whenRest_l57 C k43 hk43 ps_fu M _ _ _ a0 x1 x2 x3 x4 x5 (0 : Int32) (0 : Int32) hF hW hS (lv_sub hl [2, 3, 4, 5, 6, 7, 1, 0] rfl)
theorem kb_X10_whenRest_l43 (C : ps_C p s m args meth c cX10_whenRest 8 RX10 ((some .int)) "whenRest" D Y B) {q : Int32 × ps_M}  : ∀ (n : Nat) (M : ps_M) (H : Heap) (locs : List Loc) (ls : Array Slot) (a0 : Nat) (x1 : Int32) (x2 : Int32) (x3 : Int32) (x4 : Int32) (x5 : Int32), f_X10_whenRest_l43 n M a0 x1 x2 x3 x4 x5 = some q → ps_W D Y B M H → va_S (fun q => B ≤ q) s.heap H locs → lv_has ls 8 [(0, .ref (B + a0)), (1, .int x1), (2, .int x2), (3, .int x3), (4, .int x4), (5, .int x5)] → W p l e rm_X10_whenRest s m args below meth c H locs 0 0 (ps_Qi D Y B below args s 0 0 q) (F0 m 43 ls []) := by
  intro n
  induction n with
  | zero => intro M H locs ls a0 x1 x2 x3 x4 x5 hF; cases hF
  | succ n ih => intro M H locs ls a0 x1 x2 x3 x4 x5 hF hW hS hl; exact kb_X10_whenRest_w43 C  (f_X10_whenRest_l43 n) ih hF hW hS hl
set_option maxRecDepth 100000 in
set_option maxHeartbeats 4000000 in
theorem kb_X10_whenRest (C : ps_C p s m args meth c cX10_whenRest 8 RX10 ((some .int)) "whenRest" D Y B) {q : Int32 × ps_M}  {M : ps_M} {a0 : Nat} {x1 : Int32} {x2 : Int32} (hF : f_X10_whenRest M a0 x1 x2 = some q) (hW : ps_W D Y B M H) (hS : va_S (fun q => B ≤ q) s.heap H locs) (hl : lv_has ls 8 [(0, .ref (B + a0)), (1, .int x1), (2, .int x2)]) : W p l e rm_X10_whenRest s m args below meth c H locs 0 0 (ps_Qi D Y B below args s 0 0 q) (F0 m 0 ls []) := by
  have hx := C.1
  have hb := C.2.1
  have hml := C.2.2.1
  have hown := C.2.2.2.1
  have hts := C.2.2.2.2.1
  unfold f_X10_whenRest at hF
  refine lv_iload_n hx hb dX10_whenRest_0 rfl (lv_at hl 1 rfl) ?_
  refine lv_i2l hx hb dX10_whenRest_1 rfl ?_
  refine lv_lconst (v := 1) hx hb dX10_whenRest_2 (by decide) ?_
  refine lv_ldc2 (v := 10) hx hb hown (hts _ tq_1265) dX10_whenRest_3 ?_
  obtain ⟨xv13, M9, hc, hF⟩ := ps_b2_some hF
  refine ps_backI (x0 := xv13) (M' := M9) hS (ps_callS C hW mf_X10_in tq_1031 tq_1030 ⟨Nat.le_of_ble_eq_true rfl, Nat.le_of_ble_eq_true rfl⟩ rfl rfl (As := [.long (x1.toInt64), .long (1 : Int64), .long (10 : Int64)]) (rest := []) (c_X10_in hc) rfl hl.1 rfl (Nat.le_of_ble_eq_true rfl) dX10_whenRest_6 ⟨Nat.le_of_ble_eq_true rfl, Nat.le_of_ble_eq_true rfl⟩) (fun H locs hW hS => ?_)
  clear hc
  generalize M9 = M at hW hF
  refine lv_if_eq (tgt := 22) hx hb dX10_whenRest_9 (by decide) (fun hv14 => ?_) (fun hv14 => ?_)
  · replace hF := (if_pos hv14).symm.trans hF
    exact kb_X10_whenRest_b22 C hF hW hS (lv_sub hl [] rfl)
  · replace hF := (if_neg hv14).symm.trans hF
    refine lv_iload_n hx hb dX10_whenRest_12 rfl (lv_at hl 2 rfl) ?_
    refine lv_i2l hx hb dX10_whenRest_13 rfl ?_
    refine lv_lconst (v := 0) hx hb dX10_whenRest_14 (by decide) ?_
    refine lv_lconst (v := 1) hx hb dX10_whenRest_15 (by decide) ?_
    obtain ⟨xv15, M9, hc, hF⟩ := ps_b2_some hF
    refine ps_backI (x0 := xv15) (M' := M9) hS (ps_callS C hW mf_X10_in tq_1031 tq_1030 ⟨Nat.le_of_ble_eq_true rfl, Nat.le_of_ble_eq_true rfl⟩ rfl rfl (As := [.long (x2.toInt64), .long (0 : Int64), .long (1 : Int64)]) (rest := []) (c_X10_in hc) rfl hl.1 rfl (Nat.le_of_ble_eq_true rfl) dX10_whenRest_16 ⟨Nat.le_of_ble_eq_true rfl, Nat.le_of_ble_eq_true rfl⟩) (fun H locs hW hS => ?_)
    clear hc
    generalize M9 = M at hW hF
    refine lv_if_ne (tgt := 25) hx hb dX10_whenRest_19 (by decide) (fun hv16 => ?_) (fun hv16 => ?_)
    · replace hF := (if_neg hv16).symm.trans hF
      refine lv_aload_n hx hb dX10_whenRest_25 rfl (lv_at hl 0 rfl) ?_
      obtain ⟨hK, hF⟩ := ps_ck_some hF
      obtain ⟨xv17, M9, hc, hF⟩ := ps_b2_some hF
      refine ps_backI (x0 := xv17) (M' := M9) hS (ps_callV C hW pc_9 mf_X10_isPair tq_1120 tq_41 tq_1118 ⟨Nat.le_of_ble_eq_true rfl, Nat.le_of_ble_eq_true rfl⟩ rfl rfl (As := []) (rest := []) (c_X10_isPair hc) hK rfl hl.1 rfl (Nat.le_of_ble_eq_true rfl) dX10_whenRest_26 ⟨Nat.le_of_ble_eq_true rfl, Nat.le_of_ble_eq_true rfl⟩) (fun H locs hW hS => ?_)
      clear hc
      generalize M9 = M at hW hF
      refine lv_if_ne (tgt := 35) hx hb dX10_whenRest_29 (by decide) (fun hv18 => ?_) (fun hv18 => ?_)
      · replace hF := (if_neg hv18).symm.trans hF
        refine lv_iconst (v := 0) hx hb dX10_whenRest_35 (by decide) ?_
        refine lv_istore_n (lv' := [(3, .int (0 : Int32)), (0, .ref (B + a0)), (1, .int x1), (2, .int x2)]) hx hb dX10_whenRest_36 rfl hl (by decide) rfl (fun ls hl => ?_)
        refine lv_iconst (v := -1) hx hb dX10_whenRest_37 (by decide) ?_
        refine lv_istore (lv' := [(4, .int (-1 : Int32)), (3, .int (0 : Int32)), (0, .ref (B + a0)), (1, .int x1), (2, .int x2)]) hx hb dX10_whenRest_38 hl (by decide) rfl (fun ls hl => ?_)
        refine lv_iconst (v := 0) hx hb dX10_whenRest_40 (by decide) ?_
        refine lv_istore (lv' := [(5, .int (0 : Int32)), (4, .int (-1 : Int32)), (3, .int (0 : Int32)), (0, .ref (B + a0)), (1, .int x1), (2, .int x2)]) hx hb dX10_whenRest_41 hl (by decide) rfl (fun ls hl => ?_)
        exact kb_X10_whenRest_l43 C ps_fu M _ _ _ a0 x1 x2 (0 : Int32) (-1 : Int32) (0 : Int32) hF hW hS (lv_sub hl [3, 4, 5, 2, 1, 0] rfl)
      · replace hF := (if_pos hv18).symm.trans hF
        refine lv_ldc (v := -1000000003) hx hb hown (hts _ tq_1112) dX10_whenRest_32 ?_
        exact pw_iret C hW hS dX10_whenRest_34 hF
    · replace hF := (if_pos hv16).symm.trans hF
      exact kb_X10_whenRest_b22 C hF hW hS (lv_sub hl [] rfl)
theorem mf_X10_whenRest : ps_mf yX10_whenRest cX10_whenRest 8 ((some .int)) 2 := ⟨tq_1264, tq_71, by decide +kernel, by decide +kernel, by decide +kernel⟩
theorem c_X10_whenRest {l : Launch} {D : va_G} {Y : ps_A} {B : Nat} {M : ps_M} {a0 : Nat} {x1 : Int32} {x2 : Int32} {r : Int32} {M' : ps_M} (hF : f_X10_whenRest M a0 x1 x2 = some (r, M')) : Met l yX10_whenRest (Cond.code yX10_whenRest cX10_whenRest 8 ((some .int)) :: tb_G) rm_X10_whenRest (ps_PB D Y B M [.ref (B + a0), .int x1, .int x2]) (va_Qi (fun x (_ : Unit) => x = r) (fun _ t => ps_St D Y B M' t) (fun q => B ≤ q)) 0 0 (fun q => B ≤ q) :=
  pm_of (by decide +kernel) (Nat.le_of_ble_eq_true rfl) (fun p e s m args below meth c C hW hS ls hl => kb_X10_whenRest C hF hW hS hl)

abbrev rm_X10_worthFile : Room := { frames := 5, cells := 0, slots := 0, locals := 118 }
def f_X10_worthFile_b83 (M : ps_M) (t0 : Int32) (t1 : Int32) : Option (Int32 × ps_M) := some (((t0 - t1) - (20 : Int32)), M)
def f_X10_worthFile_b70 (M : ps_M) (x2 : Int32) (t0 : Int32) : Option (Int32 × ps_M) := if x2 = (99999999 : Int32) then (f_X10_worthFile_b83 M t0 (1000 : Int32)) else (f_X10_worthFile_b83 M t0 x2)
def f_X10_worthFile_b47 (M : ps_M) (a0 : Nat) (x1 : Int32) (t0 : Nat) (t1 : Int32) (t2 : Int32) (t3 : Int32) : Option (Int32 × ps_M) := ps_xI M t0 t1 (t2 + t3) (fun M => ps_ck M a0 9 (ps_b2 (f_X10_goOn M a0 (999 : Int32)) (fun xv2 M => if x1 = (99999999 : Int32) then (f_X10_worthFile_b70 M xv2 (1000 : Int32)) else (f_X10_worthFile_b70 M xv2 x1))))
def f_X10_worthFile (M : ps_M) (a0 : Nat) : Option (Int32 × ps_M) := ps_ck M a0 9 (ps_b2 (f_X10_isPair M a0 ) (fun xv4 M => if xv4 = 0 then (some ((-1000000003 : Int32), M)) else (ps_ck M a0 9 (ps_b2 (f_X10_goOnNow M a0 ) (fun xv6 M => ps_ck M a0 9 (ps_b1 (f_X10_copy M a0 (0 : Int32) (28 : Int32)) (fun M => ps_gR M a0 9 0 (fun av7 => ps_aI M av7 (52 : Int32) (fun xv8 => ps_gR M a0 9 0 (fun av9 => ps_aI M av9 (52 : Int32) (fun xv10 => if (9 : Int32) ≤ xv10 then (f_X10_worthFile_b47 M a0 xv6 av7 (52 : Int32) xv8 (0 : Int32)) else (f_X10_worthFile_b47 M a0 xv6 av7 (52 : Int32) xv8 (1 : Int32)))))))))))))
set_option maxRecDepth 100000 in
set_option maxHeartbeats 4000000 in
theorem kb_X10_worthFile_b83 (C : ps_C p s m args meth c cX10_worthFile 3 RX10 ((some .int)) "worthFile" D Y B) {q : Int32 × ps_M}  {M : ps_M} {t0 : Int32} {t1 : Int32} (hF : f_X10_worthFile_b83 M t0 t1 = some q) (hW : ps_W D Y B M H) (hS : va_S (fun q => B ≤ q) s.heap H locs) (hl : lv_has ls 3 []) : W p l e rm_X10_worthFile s m args below meth c H locs 0 0 (ps_Qi D Y B below args s 0 0 q) (F0 m 83 ls [.int t1, .int t0]) := by
  have hx := C.1
  have hb := C.2.1
  have hml := C.2.2.1
  have hown := C.2.2.2.1
  have hts := C.2.2.2.2.1
  unfold f_X10_worthFile_b83 at hF
  refine lv_isub hx hb dX10_worthFile_83 ?_
  refine lv_bipush (v := 20) hx hb dX10_worthFile_84 (by decide) ?_
  refine lv_isub hx hb dX10_worthFile_86 ?_
  exact pw_iret C hW hS dX10_worthFile_87 hF
set_option maxRecDepth 100000 in
set_option maxHeartbeats 4000000 in
theorem kb_X10_worthFile_b70 (C : ps_C p s m args meth c cX10_worthFile 3 RX10 ((some .int)) "worthFile" D Y B) {q : Int32 × ps_M}  {M : ps_M} {x2 : Int32} {t0 : Int32} (hF : f_X10_worthFile_b70 M x2 t0 = some q) (hW : ps_W D Y B M H) (hS : va_S (fun q => B ≤ q) s.heap H locs) (hl : lv_has ls 3 [(2, .int x2)]) : W p l e rm_X10_worthFile s m args below meth c H locs 0 0 (ps_Qi D Y B below args s 0 0 q) (F0 m 70 ls [.int t0]) := by
  have hx := C.1
  have hb := C.2.1
  have hml := C.2.2.1
  have hown := C.2.2.2.1
  have hts := C.2.2.2.2.1
  unfold f_X10_worthFile_b70 at hF
  refine lv_iload_n hx hb dX10_worthFile_70 rfl (lv_at hl 0 rfl) ?_
  refine lv_ldc (v := 99999999) hx hb hown (hts _ tq_1214) dX10_worthFile_71 ?_
  refine lv_icmp_ne (tgt := 82) hx hb dX10_worthFile_73 (by decide) (fun hv1 => ?_) (fun hv1 => ?_)
  · replace hF := (if_neg hv1).symm.trans hF
    refine lv_iload_n hx hb dX10_worthFile_82 rfl (lv_at hl 0 rfl) ?_
    exact kb_X10_worthFile_b83 C hF hW hS (lv_sub hl [] rfl)
  · replace hF := (if_pos hv1).symm.trans hF
    refine lv_sipush (v := 1000) hx hb dX10_worthFile_76 (by decide) ?_
    refine lv_goto (tgt := 83) hx hb dX10_worthFile_79 (by decide) ?_
    exact kb_X10_worthFile_b83 C hF hW hS (lv_sub hl [] rfl)
set_option maxRecDepth 100000 in
set_option maxHeartbeats 4000000 in
theorem kb_X10_worthFile_b47 (C : ps_C p s m args meth c cX10_worthFile 3 RX10 ((some .int)) "worthFile" D Y B) {q : Int32 × ps_M}  {M : ps_M} {a0 : Nat} {x1 : Int32} {t0 : Nat} {t1 : Int32} {t2 : Int32} {t3 : Int32} (hF : f_X10_worthFile_b47 M a0 x1 t0 t1 t2 t3 = some q) (hW : ps_W D Y B M H) (hS : va_S (fun q => B ≤ q) s.heap H locs) (hl : lv_has ls 3 [(0, .ref (B + a0)), (1, .int x1)]) : W p l e rm_X10_worthFile s m args below meth c H locs 0 0 (ps_Qi D Y B below args s 0 0 q) (F0 m 47 ls [.int t3, .int t2, .int t1, .ref (B + t0)]) := by
  have hx := C.1
  have hb := C.2.1
  have hml := C.2.2.1
  have hown := C.2.2.2.1
  have hts := C.2.2.2.2.1
  unfold f_X10_worthFile_b47 at hF
  refine lv_iadd hx hb dX10_worthFile_47 ?_
  refine pw_xI C hW hS dX10_worthFile_48 hF (fun M H locs hW hS hF => ?_)
  refine lv_aload_n hx hb dX10_worthFile_49 rfl (lv_at hl 0 rfl) ?_
  refine lv_sipush (v := 999) hx hb dX10_worthFile_50 (by decide) ?_
  obtain ⟨hK, hF⟩ := ps_ck_some hF
  obtain ⟨xv2, M9, hc, hF⟩ := ps_b2_some hF
  refine ps_backI (x0 := xv2) (M' := M9) hS (ps_callV C hW pc_9 mf_X10_goOn tq_1212 tq_52 tq_1210 ⟨Nat.le_of_ble_eq_true rfl, Nat.le_of_ble_eq_true rfl⟩ rfl rfl (As := [.int (999 : Int32)]) (rest := []) (c_X10_goOn hc) hK rfl hl.1 rfl (Nat.le_of_ble_eq_true rfl) dX10_worthFile_53 ⟨Nat.le_of_ble_eq_true rfl, Nat.le_of_ble_eq_true rfl⟩) (fun H locs hW hS => ?_)
  clear hc
  generalize M9 = M at hW hF
  refine lv_istore_n (lv' := [(2, .int xv2), (0, .ref (B + a0)), (1, .int x1)]) hx hb dX10_worthFile_56 rfl hl (by decide) rfl (fun ls hl => ?_)
  refine lv_iload_n hx hb dX10_worthFile_57 rfl (lv_at hl 2 rfl) ?_
  refine lv_ldc (v := 99999999) hx hb hown (hts _ tq_1214) dX10_worthFile_58 ?_
  refine lv_icmp_ne (tgt := 69) hx hb dX10_worthFile_60 (by decide) (fun hv3 => ?_) (fun hv3 => ?_)
  · replace hF := (if_neg hv3).symm.trans hF
    refine lv_iload_n hx hb dX10_worthFile_69 rfl (lv_at hl 2 rfl) ?_
    exact kb_X10_worthFile_b70 C hF hW hS (lv_sub hl [0] rfl)
  · replace hF := (if_pos hv3).symm.trans hF
    refine lv_sipush (v := 1000) hx hb dX10_worthFile_63 (by decide) ?_
    refine lv_goto (tgt := 70) hx hb dX10_worthFile_66 (by decide) ?_
    exact kb_X10_worthFile_b70 C hF hW hS (lv_sub hl [0] rfl)
set_option maxRecDepth 100000 in
set_option maxHeartbeats 4000000 in
theorem kb_X10_worthFile (C : ps_C p s m args meth c cX10_worthFile 3 RX10 ((some .int)) "worthFile" D Y B) {q : Int32 × ps_M}  {M : ps_M} {a0 : Nat} (hF : f_X10_worthFile M a0 = some q) (hW : ps_W D Y B M H) (hS : va_S (fun q => B ≤ q) s.heap H locs) (hl : lv_has ls 3 [(0, .ref (B + a0))]) : W p l e rm_X10_worthFile s m args below meth c H locs 0 0 (ps_Qi D Y B below args s 0 0 q) (F0 m 0 ls []) := by
  have hx := C.1
  have hb := C.2.1
  have hml := C.2.2.1
  have hown := C.2.2.2.1
  have hts := C.2.2.2.2.1
  unfold f_X10_worthFile at hF
  refine lv_aload_n hx hb dX10_worthFile_0 rfl (lv_at hl 0 rfl) ?_
  obtain ⟨hK, hF⟩ := ps_ck_some hF
  obtain ⟨xv4, M9, hc, hF⟩ := ps_b2_some hF
  refine ps_backI (x0 := xv4) (M' := M9) hS (ps_callV C hW pc_9 mf_X10_isPair tq_1120 tq_41 tq_1118 ⟨Nat.le_of_ble_eq_true rfl, Nat.le_of_ble_eq_true rfl⟩ rfl rfl (As := []) (rest := []) (c_X10_isPair hc) hK rfl hl.1 rfl (Nat.le_of_ble_eq_true rfl) dX10_worthFile_1 ⟨Nat.le_of_ble_eq_true rfl, Nat.le_of_ble_eq_true rfl⟩) (fun H locs hW hS => ?_)
  clear hc
  generalize M9 = M at hW hF
  refine lv_if_ne (tgt := 10) hx hb dX10_worthFile_4 (by decide) (fun hv5 => ?_) (fun hv5 => ?_)
  · replace hF := (if_neg hv5).symm.trans hF
    refine lv_aload_n hx hb dX10_worthFile_10 rfl (lv_at hl 0 rfl) ?_
    obtain ⟨hK, hF⟩ := ps_ck_some hF
    obtain ⟨xv6, M9, hc, hF⟩ := ps_b2_some hF
    refine ps_backI (x0 := xv6) (M' := M9) hS (ps_callV C hW pc_9 mf_X10_goOnNow tq_1208 tq_51 tq_1206 ⟨Nat.le_of_ble_eq_true rfl, Nat.le_of_ble_eq_true rfl⟩ rfl rfl (As := []) (rest := []) (c_X10_goOnNow hc) hK rfl hl.1 rfl (Nat.le_of_ble_eq_true rfl) dX10_worthFile_11 ⟨Nat.le_of_ble_eq_true rfl, Nat.le_of_ble_eq_true rfl⟩) (fun H locs hW hS => ?_)
    clear hc
    generalize M9 = M at hW hF
    refine lv_istore_n (lv' := [(1, .int xv6), (0, .ref (B + a0))]) hx hb dX10_worthFile_14 rfl hl (by decide) rfl (fun ls hl => ?_)
    refine lv_aload_n hx hb dX10_worthFile_15 rfl (lv_at hl 1 rfl) ?_
    refine lv_iconst (v := 0) hx hb dX10_worthFile_16 (by decide) ?_
    refine lv_bipush (v := 28) hx hb dX10_worthFile_17 (by decide) ?_
    obtain ⟨hK, hF⟩ := ps_ck_some hF
    obtain ⟨M9, hc, hF⟩ := ps_b1_some hF
    refine ps_backV (M' := M9) hS (ps_callV C hW pc_9 mf_X10_copy tq_1128 tq_43 tq_1126 ⟨Nat.le_of_ble_eq_true rfl, Nat.le_of_ble_eq_true rfl⟩ rfl rfl (As := [.int (0 : Int32), .int (28 : Int32)]) (rest := []) (c_X10_copy hc) hK rfl hl.1 rfl (Nat.le_of_ble_eq_true rfl) dX10_worthFile_19 ⟨Nat.le_of_ble_eq_true rfl, Nat.le_of_ble_eq_true rfl⟩) (fun H locs hW hS => ?_)
    clear hc
    generalize M9 = M at hW hF
    refine lv_aload_n hx hb dX10_worthFile_22 rfl (lv_at hl 1 rfl) ?_
    refine pw_gR C hW pc_9 (k := 0) (by decide) rfl tq_918 dX10_worthFile_23 hF (fun av7 hF => ?_)
    refine lv_bipush (v := 52) hx hb dX10_worthFile_26 (by decide) ?_
    refine lv_dup2_11 hx hb dX10_worthFile_28 rfl rfl ?_
    refine pw_aI C hW dX10_worthFile_29 hF (fun xv8 hF => ?_)
    refine lv_aload_n hx hb dX10_worthFile_30 rfl (lv_at hl 1 rfl) ?_
    refine pw_gR C hW pc_9 (k := 0) (by decide) rfl tq_918 dX10_worthFile_31 hF (fun av9 hF => ?_)
    refine lv_bipush (v := 52) hx hb dX10_worthFile_34 (by decide) ?_
    refine pw_aI C hW dX10_worthFile_36 hF (fun xv10 hF => ?_)
    refine lv_bipush (v := 9) hx hb dX10_worthFile_37 (by decide) ?_
    refine lv_icmp_ge (tgt := 46) hx hb dX10_worthFile_39 (by decide) (fun hv11 => ?_) (fun hv11 => ?_)
    · replace hF := (if_pos hv11).symm.trans hF
      refine lv_iconst (v := 0) hx hb dX10_worthFile_46 (by decide) ?_
      exact kb_X10_worthFile_b47 C hF hW hS (lv_sub hl [1, 0] rfl)
    · replace hF := (if_neg hv11).symm.trans hF
      refine lv_iconst (v := 1) hx hb dX10_worthFile_42 (by decide) ?_
      refine lv_goto (tgt := 47) hx hb dX10_worthFile_43 (by decide) ?_
      exact kb_X10_worthFile_b47 C hF hW hS (lv_sub hl [1, 0] rfl)
  · replace hF := (if_pos hv5).symm.trans hF
    refine lv_ldc (v := -1000000003) hx hb hown (hts _ tq_1112) dX10_worthFile_7 ?_
    exact pw_iret C hW hS dX10_worthFile_9 hF
theorem mf_X10_worthFile : ps_mf yX10_worthFile cX10_worthFile 3 ((some .int)) 0 := ⟨tq_1276, tq_71, by decide +kernel, by decide +kernel, by decide +kernel⟩
theorem c_X10_worthFile {l : Launch} {D : va_G} {Y : ps_A} {B : Nat} {M : ps_M} {a0 : Nat} {r : Int32} {M' : ps_M} (hF : f_X10_worthFile M a0 = some (r, M')) : Met l yX10_worthFile (Cond.code yX10_worthFile cX10_worthFile 3 ((some .int)) :: tb_G) rm_X10_worthFile (ps_PB D Y B M [.ref (B + a0)]) (va_Qi (fun x (_ : Unit) => x = r) (fun _ t => ps_St D Y B M' t) (fun q => B ≤ q)) 0 0 (fun q => B ≤ q) :=
  pm_of (by decide +kernel) (Nat.le_of_ble_eq_true rfl) (fun p e s m args below meth c C hW hS ls hl => kb_X10_worthFile C hF hW hS hl)

end
