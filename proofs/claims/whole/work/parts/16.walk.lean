section
variable {p : Program} {l : Launch} {e : Env} {s : State} {m : MethodId} {args : Array Value} {below : List Frame} {meth : Method} {c : Code} {H : Heap} {locs : List Loc} {ls : Array Slot} {D : va_G} {Y : ps_A} {B : Nat}
abbrev rm_X10_relax : Room := { frames := 1, cells := 0, slots := 0, locals := 23 }
def f_X10_relax (M : ps_M) (a0 : Nat) (x1 : Int32) (x2 : Int32) : Option (ps_M) := ps_gR M a0 9 0 (fun av1 => ps_aI M av1 (x1 + (16 : Int32)) (fun xv2 => ps_ck M a0 9 (ps_b1 (f_X10_tire M a0 ((x1 + (4 : Int32)) + xv2) ((-3 : Int32) * x2)) (fun M => ps_gR M a0 9 0 (fun av3 => ps_aI M av3 (x1 + (17 : Int32)) (fun xv4 => ps_ck M a0 9 (ps_b1 (f_X10_tire M a0 ((x1 + (4 : Int32)) + xv4) ((-3 : Int32) * x2)) (fun M => ps_gR M a0 9 0 (fun av5 => ps_aI M av5 (x1 + (20 : Int32)) (fun xv6 => ps_xI M av5 (x1 + (20 : Int32)) (xv6 + x2) (fun M => some M)))))))))))
set_option maxRecDepth 100000 in
set_option maxHeartbeats 4000000 in
theorem kb_X10_relax (C : ps_C p s m args meth c cX10_relax 3 RX10 none "relax" D Y B) {q : ps_M}  {M : ps_M} {a0 : Nat} {x1 : Int32} {x2 : Int32} (hF : f_X10_relax M a0 x1 x2 = some q) (hW : ps_W D Y B M H) (hS : va_S (fun q => B ≤ q) s.heap H locs) (hl : lv_has ls 3 [(0, .ref (B + a0)), (1, .int x1), (2, .int x2)]) : W p l e rm_X10_relax s m args below meth c H locs 0 0 (ps_Qv D Y B below args s 0 0 q) (F0 m 0 ls []) := by
  have hx := C.1
  have hb := C.2.1
  have hml := C.2.2.1
  have hown := C.2.2.2.1
  have hts := C.2.2.2.2.1
  unfold f_X10_relax at hF
  refine lv_aload_n hx hb dX10_relax_0 rfl (lv_at hl 0 rfl) ?_
  refine lv_iload_n hx hb dX10_relax_1 rfl (lv_at hl 1 rfl) ?_
  refine lv_iconst (v := 4) hx hb dX10_relax_2 (by decide) ?_
  refine lv_iadd hx hb dX10_relax_3 ?_
  refine lv_aload_n hx hb dX10_relax_4 rfl (lv_at hl 0 rfl) ?_
  refine pw_gR C hW pc_9 (k := 0) (by decide) rfl tq_918 dX10_relax_5 hF (fun av1 hF => ?_)
  refine lv_iload_n hx hb dX10_relax_8 rfl (lv_at hl 1 rfl) ?_
  refine lv_bipush (v := 16) hx hb dX10_relax_9 (by decide) ?_
  refine lv_iadd hx hb dX10_relax_11 ?_
  refine pw_aI C hW dX10_relax_12 hF (fun xv2 hF => ?_)
  refine lv_iadd hx hb dX10_relax_13 ?_
  refine lv_bipush (v := -3) hx hb dX10_relax_14 (by decide) ?_
  refine lv_iload_n hx hb dX10_relax_16 rfl (lv_at hl 2 rfl) ?_
  refine lv_imul hx hb dX10_relax_17 ?_
  obtain ⟨hK, hF⟩ := ps_ck_some hF
  obtain ⟨M9, hc, hF⟩ := ps_b1_some hF
  refine ps_backV (M' := M9) hS (ps_callV C hW pc_9 mf_X10_tire tq_1140 tq_46 tq_1138 ⟨Nat.le_of_ble_eq_true rfl, Nat.le_of_ble_eq_true rfl⟩ rfl rfl (As := [.int ((x1 + (4 : Int32)) + xv2), .int ((-3 : Int32) * x2)]) (rest := []) (c_X10_tire hc) hK rfl hl.1 rfl (Nat.le_of_ble_eq_true rfl) dX10_relax_18 ⟨Nat.le_of_ble_eq_true rfl, Nat.le_of_ble_eq_true rfl⟩) (fun H locs hW hS => ?_)
  clear hc
  generalize M9 = M at hW hF
  refine lv_aload_n hx hb dX10_relax_21 rfl (lv_at hl 0 rfl) ?_
  refine lv_iload_n hx hb dX10_relax_22 rfl (lv_at hl 1 rfl) ?_
  refine lv_iconst (v := 4) hx hb dX10_relax_23 (by decide) ?_
  refine lv_iadd hx hb dX10_relax_24 ?_
  refine lv_aload_n hx hb dX10_relax_25 rfl (lv_at hl 0 rfl) ?_
  refine pw_gR C hW pc_9 (k := 0) (by decide) rfl tq_918 dX10_relax_26 hF (fun av3 hF => ?_)
  refine lv_iload_n hx hb dX10_relax_29 rfl (lv_at hl 1 rfl) ?_
  refine lv_bipush (v := 17) hx hb dX10_relax_30 (by decide) ?_
  refine lv_iadd hx hb dX10_relax_32 ?_
  refine pw_aI C hW dX10_relax_33 hF (fun xv4 hF => ?_)
  refine lv_iadd hx hb dX10_relax_34 ?_
  refine lv_bipush (v := -3) hx hb dX10_relax_35 (by decide) ?_
  refine lv_iload_n hx hb dX10_relax_37 rfl (lv_at hl 2 rfl) ?_
  refine lv_imul hx hb dX10_relax_38 ?_
  obtain ⟨hK, hF⟩ := ps_ck_some hF
  obtain ⟨M9, hc, hF⟩ := ps_b1_some hF
  refine ps_backV (M' := M9) hS (ps_callV C hW pc_9 mf_X10_tire tq_1140 tq_46 tq_1138 ⟨Nat.le_of_ble_eq_true rfl, Nat.le_of_ble_eq_true rfl⟩ rfl rfl (As := [.int ((x1 + (4 : Int32)) + xv4), .int ((-3 : Int32) * x2)]) (rest := []) (c_X10_tire hc) hK rfl hl.1 rfl (Nat.le_of_ble_eq_true rfl) dX10_relax_39 ⟨Nat.le_of_ble_eq_true rfl, Nat.le_of_ble_eq_true rfl⟩) (fun H locs hW hS => ?_)
  clear hc
  generalize M9 = M at hW hF
  refine lv_aload_n hx hb dX10_relax_42 rfl (lv_at hl 0 rfl) ?_
  refine pw_gR C hW pc_9 (k := 0) (by decide) rfl tq_918 dX10_relax_43 hF (fun av5 hF => ?_)
  refine lv_iload_n hx hb dX10_relax_46 rfl (lv_at hl 1 rfl) ?_
  refine lv_bipush (v := 20) hx hb dX10_relax_47 (by decide) ?_
  refine lv_iadd hx hb dX10_relax_49 ?_
  refine lv_dup2_11 hx hb dX10_relax_50 rfl rfl ?_
  refine pw_aI C hW dX10_relax_51 hF (fun xv6 hF => ?_)
  refine lv_iload_n hx hb dX10_relax_52 rfl (lv_at hl 2 rfl) ?_
  refine lv_iadd hx hb dX10_relax_53 ?_
  refine pw_xI C hW hS dX10_relax_54 hF (fun M H locs hW hS hF => ?_)
  exact pw_vret C hW hS dX10_relax_55 hF
theorem mf_X10_relax : ps_mf yX10_relax cX10_relax 3 none 2 := ⟨tq_1154, tq_71, by decide +kernel, by decide +kernel, by decide +kernel⟩
theorem c_X10_relax {l : Launch} {D : va_G} {Y : ps_A} {B : Nat} {M : ps_M} {a0 : Nat} {x1 : Int32} {x2 : Int32} {M' : ps_M} (hF : f_X10_relax M a0 x1 x2 = some M') : Met l yX10_relax (Cond.code yX10_relax cX10_relax 3 none :: tb_G) rm_X10_relax (ps_PB D Y B M [.ref (B + a0), .int x1, .int x2]) (va_Qv (fun (_ : Unit) => True) (fun _ t => ps_St D Y B M' t) (fun q => B ≤ q)) 0 0 (fun q => B ≤ q) :=
  pm_of (by decide +kernel) (Nat.le_of_ble_eq_true rfl) (fun p e s m args below meth c C hW hS ls hl => kb_X10_relax C hF hW hS hl)

abbrev rm_X10_copy : Room := { frames := 0, cells := 0, slots := 0, locals := 0 }
def f_X10_copy_w2 (k2 : ps_M → Nat → Int32 → Int32 → Int32 → Option (ps_M)) (M : ps_M) (a0 : Nat) (x1 : Int32) (x2 : Int32) (x3 : Int32) : Option (ps_M) := if (28 : Int32) ≤ x3 then (some M) else (ps_gR M a0 9 0 (fun av2 => ps_gR M a0 9 0 (fun av3 => ps_aI M av3 (x1 + x3) (fun xv4 => ps_xI M av2 (x2 + x3) xv4 (fun M => ps_v (x3 + 1) (fun xv5 => k2 M a0 x1 x2 xv5))))))
def f_X10_copy_l2 : Nat → ps_M → Nat → Int32 → Int32 → Int32 → Option (ps_M)
  | 0, _, _, _, _, _ => none
  | n + 1, M, a0, x1, x2, x3 => f_X10_copy_w2 (f_X10_copy_l2 n) M a0 x1 x2 x3
def f_X10_copy (M : ps_M) (a0 : Nat) (x1 : Int32) (x2 : Int32) : Option (ps_M) := f_X10_copy_l2 ps_fu M a0 x1 x2 (0 : Int32)
set_option maxRecDepth 100000 in
set_option maxHeartbeats 4000000 in
theorem kb_X10_copy_w2 (C : ps_C p s m args meth c cX10_copy 4 RX10 none "copy" D Y B) {q : ps_M} (k2 : ps_M → Nat → Int32 → Int32 → Int32 → Option (ps_M)) (hk2 : ∀ (M : ps_M) (H : Heap) (locs : List Loc) (ls : Array Slot) (a0 : Nat) (x1 : Int32) (x2 : Int32) (x3 : Int32), k2 M a0 x1 x2 x3 = some q → ps_W D Y B M H → va_S (fun q => B ≤ q) s.heap H locs → lv_has ls 4 [(0, .ref (B + a0)), (1, .int x1), (2, .int x2), (3, .int x3)] → W p l e rm_X10_copy s m args below meth c H locs 0 0 (ps_Qv D Y B below args s 0 0 q) (F0 m 2 ls [])) {M : ps_M} {a0 : Nat} {x1 : Int32} {x2 : Int32} {x3 : Int32} (hF : f_X10_copy_w2 k2 M a0 x1 x2 x3 = some q) (hW : ps_W D Y B M H) (hS : va_S (fun q => B ≤ q) s.heap H locs) (hl : lv_has ls 4 [(0, .ref (B + a0)), (1, .int x1), (2, .int x2), (3, .int x3)]) : W p l e rm_X10_copy s m args below meth c H locs 0 0 (ps_Qv D Y B below args s 0 0 q) (F0 m 2 ls []) := by
  have hx := C.1
  have hb := C.2.1
  have hml := C.2.2.1
  have hown := C.2.2.2.1
  have hts := C.2.2.2.2.1
  unfold f_X10_copy_w2 at hF
  refine lv_iload_n hx hb dX10_copy_2 rfl (lv_at hl 3 rfl) ?_
  refine lv_bipush (v := 28) hx hb dX10_copy_3 (by decide) ?_
  refine lv_icmp_ge (tgt := 30) hx hb dX10_copy_5 (by decide) (fun hv1 => ?_) (fun hv1 => ?_)
  · replace hF := (if_pos hv1).symm.trans hF
    exact pw_vret C hW hS dX10_copy_30 hF
  · replace hF := (if_neg hv1).symm.trans hF
    refine lv_aload_n hx hb dX10_copy_8 rfl (lv_at hl 0 rfl) ?_
    refine pw_gR C hW pc_9 (k := 0) (by decide) rfl tq_918 dX10_copy_9 hF (fun av2 hF => ?_)
    refine lv_iload_n hx hb dX10_copy_12 rfl (lv_at hl 2 rfl) ?_
    refine lv_iload_n hx hb dX10_copy_13 rfl (lv_at hl 3 rfl) ?_
    refine lv_iadd hx hb dX10_copy_14 ?_
    refine lv_aload_n hx hb dX10_copy_15 rfl (lv_at hl 0 rfl) ?_
    refine pw_gR C hW pc_9 (k := 0) (by decide) rfl tq_918 dX10_copy_16 hF (fun av3 hF => ?_)
    refine lv_iload_n hx hb dX10_copy_19 rfl (lv_at hl 1 rfl) ?_
    refine lv_iload_n hx hb dX10_copy_20 rfl (lv_at hl 3 rfl) ?_
    refine lv_iadd hx hb dX10_copy_21 ?_
    refine pw_aI C hW dX10_copy_22 hF (fun xv4 hF => ?_)
    refine pw_xI C hW hS dX10_copy_23 hF (fun M H locs hW hS hF => ?_)
    obtain ⟨xv5, exv5, hF⟩ := ps_ve hF
    refine lv_iinc (v := xv5) (lv' := [(3, .int xv5), (0, .ref (B + a0)), (1, .int x1), (2, .int x2)]) hx hb dX10_copy_24 hl (k := 3) rfl (by rw [exv5]; rfl) (by decide) rfl (fun ls hl => ?_)
    clear exv5
    refine lv_goto (tgt := 2) hx hb dX10_copy_27 (by decide) ?_
    exact hk2 M _ _ _ a0 x1 x2 xv5 hF hW hS (lv_sub hl [1, 2, 3, 0] rfl)
theorem kb_X10_copy_l2 (C : ps_C p s m args meth c cX10_copy 4 RX10 none "copy" D Y B) {q : ps_M}  : ∀ (n : Nat) (M : ps_M) (H : Heap) (locs : List Loc) (ls : Array Slot) (a0 : Nat) (x1 : Int32) (x2 : Int32) (x3 : Int32), f_X10_copy_l2 n M a0 x1 x2 x3 = some q → ps_W D Y B M H → va_S (fun q => B ≤ q) s.heap H locs → lv_has ls 4 [(0, .ref (B + a0)), (1, .int x1), (2, .int x2), (3, .int x3)] → W p l e rm_X10_copy s m args below meth c H locs 0 0 (ps_Qv D Y B below args s 0 0 q) (F0 m 2 ls []) := by
  intro n
  induction n with
  | zero => intro M H locs ls a0 x1 x2 x3 hF; cases hF
  | succ n ih => intro M H locs ls a0 x1 x2 x3 hF hW hS hl; exact kb_X10_copy_w2 C  (f_X10_copy_l2 n) ih hF hW hS hl
set_option maxRecDepth 100000 in
set_option maxHeartbeats 4000000 in
theorem kb_X10_copy (C : ps_C p s m args meth c cX10_copy 4 RX10 none "copy" D Y B) {q : ps_M}  {M : ps_M} {a0 : Nat} {x1 : Int32} {x2 : Int32} (hF : f_X10_copy M a0 x1 x2 = some q) (hW : ps_W D Y B M H) (hS : va_S (fun q => B ≤ q) s.heap H locs) (hl : lv_has ls 4 [(0, .ref (B + a0)), (1, .int x1), (2, .int x2)]) : W p l e rm_X10_copy s m args below meth c H locs 0 0 (ps_Qv D Y B below args s 0 0 q) (F0 m 0 ls []) := by
  have hx := C.1
  have hb := C.2.1
  have hml := C.2.2.1
  have hown := C.2.2.2.1
  have hts := C.2.2.2.2.1
  unfold f_X10_copy at hF
  refine lv_iconst (v := 0) hx hb dX10_copy_0 (by decide) ?_
  refine lv_istore_n (lv' := [(3, .int (0 : Int32)), (0, .ref (B + a0)), (1, .int x1), (2, .int x2)]) hx hb dX10_copy_1 rfl hl (by decide) rfl (fun ls hl => ?_)
  exact kb_X10_copy_l2 C ps_fu M _ _ _ a0 x1 x2 (0 : Int32) hF hW hS (lv_sub hl [1, 2, 3, 0] rfl)
theorem mf_X10_copy : ps_mf yX10_copy cX10_copy 4 none 2 := ⟨tq_1129, tq_71, by decide +kernel, by decide +kernel, by decide +kernel⟩
theorem c_X10_copy {l : Launch} {D : va_G} {Y : ps_A} {B : Nat} {M : ps_M} {a0 : Nat} {x1 : Int32} {x2 : Int32} {M' : ps_M} (hF : f_X10_copy M a0 x1 x2 = some M') : Met l yX10_copy (Cond.code yX10_copy cX10_copy 4 none :: tb_G) rm_X10_copy (ps_PB D Y B M [.ref (B + a0), .int x1, .int x2]) (va_Qv (fun (_ : Unit) => True) (fun _ t => ps_St D Y B M' t) (fun q => B ≤ q)) 0 0 (fun q => B ≤ q) :=
  pm_of (by decide +kernel) (Nat.le_of_ble_eq_true rfl) (fun p e s m args below meth c C hW hS ls hl => kb_X10_copy C hF hW hS hl)

abbrev rm_X10_remember : Room := { frames := 1, cells := 0, slots := 0, locals := 23 }
def f_X10_remember_b53 (M : ps_M) (a0 : Nat) : Option (ps_M) := ps_gI M a0 9 26 (fun xv1 => ps_ck M a0 9 (ps_b1 (f_X10_copy M a0 (0 : Int32) ((112 : Int32) + ((28 : Int32) * xv1))) (fun M => ps_gI M a0 9 26 (fun xv2 => ps_pI M a0 9 26 (xv2 + (1 : Int32)) (fun M => some M)))))
def f_X10_remember_w11 (k11 : ps_M → Nat → Int32 → Option (ps_M)) (M : ps_M) (a0 : Nat) (x1 : Int32) : Option (ps_M) := if (30 : Int32) ≤ x1 then (ps_gI M a0 9 26 (fun xv4 => ps_pI M a0 9 26 (xv4 - (1 : Int32)) (fun M => f_X10_remember_b53 M a0))) else (ps_ck M a0 9 (ps_b1 (f_X10_copy M a0 ((112 : Int32) + ((28 : Int32) * x1)) ((112 : Int32) + ((28 : Int32) * (x1 - (1 : Int32))))) (fun M => ps_v (x1 + 1) (fun xv5 => k11 M a0 xv5))))
def f_X10_remember_l11 : Nat → ps_M → Nat → Int32 → Option (ps_M)
  | 0, _, _, _ => none
  | n + 1, M, a0, x1 => f_X10_remember_w11 (f_X10_remember_l11 n) M a0 x1
def f_X10_remember (M : ps_M) (a0 : Nat) : Option (ps_M) := ps_gI M a0 9 26 (fun xv6 => if xv6 = (30 : Int32) then (f_X10_remember_l11 ps_fu M a0 (1 : Int32)) else (f_X10_remember_b53 M a0))
set_option maxRecDepth 100000 in
set_option maxHeartbeats 4000000 in
theorem kb_X10_remember_b53 (C : ps_C p s m args meth c cX10_remember 2 RX10 none "remember" D Y B) {q : ps_M}  {M : ps_M} {a0 : Nat} (hF : f_X10_remember_b53 M a0 = some q) (hW : ps_W D Y B M H) (hS : va_S (fun q => B ≤ q) s.heap H locs) (hl : lv_has ls 2 [(0, .ref (B + a0))]) : W p l e rm_X10_remember s m args below meth c H locs 0 0 (ps_Qv D Y B below args s 0 0 q) (F0 m 53 ls []) := by
  have hx := C.1
  have hb := C.2.1
  have hml := C.2.2.1
  have hown := C.2.2.2.1
  have hts := C.2.2.2.2.1
  unfold f_X10_remember_b53 at hF
  refine lv_aload_n hx hb dX10_remember_53 rfl (lv_at hl 0 rfl) ?_
  refine lv_iconst (v := 0) hx hb dX10_remember_54 (by decide) ?_
  refine lv_bipush (v := 112) hx hb dX10_remember_55 (by decide) ?_
  refine lv_bipush (v := 28) hx hb dX10_remember_57 (by decide) ?_
  refine lv_aload_n hx hb dX10_remember_59 rfl (lv_at hl 0 rfl) ?_
  refine pw_gI C hW pc_9 (k := 26) (by decide) rfl tq_944 dX10_remember_60 hF (fun xv1 hF => ?_)
  refine lv_imul hx hb dX10_remember_63 ?_
  refine lv_iadd hx hb dX10_remember_64 ?_
  obtain ⟨hK, hF⟩ := ps_ck_some hF
  obtain ⟨M9, hc, hF⟩ := ps_b1_some hF
  refine ps_backV (M' := M9) hS (ps_callV C hW pc_9 mf_X10_copy tq_1128 tq_43 tq_1126 ⟨Nat.le_of_ble_eq_true rfl, Nat.le_of_ble_eq_true rfl⟩ rfl rfl (As := [.int (0 : Int32), .int ((112 : Int32) + ((28 : Int32) * xv1))]) (rest := []) (c_X10_copy hc) hK rfl hl.1 rfl (Nat.le_of_ble_eq_true rfl) dX10_remember_65 ⟨Nat.le_of_ble_eq_true rfl, Nat.le_of_ble_eq_true rfl⟩) (fun H locs hW hS => ?_)
  clear hc
  generalize M9 = M at hW hF
  refine lv_aload_n hx hb dX10_remember_68 rfl (lv_at hl 0 rfl) ?_
  refine lv_dup hx hb dX10_remember_69 rfl ?_
  refine pw_gI C hW pc_9 (k := 26) (by decide) rfl tq_944 dX10_remember_70 hF (fun xv2 hF => ?_)
  refine lv_iconst (v := 1) hx hb dX10_remember_73 (by decide) ?_
  refine lv_iadd hx hb dX10_remember_74 ?_
  refine pw_pI C hW hS pc_9 (k := 26) (by decide) rfl rfl tq_944 rfl dX10_remember_75 hF (fun M H locs hW hS hF => ?_)
  exact pw_vret C hW hS dX10_remember_78 hF
set_option maxRecDepth 100000 in
set_option maxHeartbeats 4000000 in
theorem kb_X10_remember_w11 (C : ps_C p s m args meth c cX10_remember 2 RX10 none "remember" D Y B) {q : ps_M} (k11 : ps_M → Nat → Int32 → Option (ps_M)) (hk11 : ∀ (M : ps_M) (H : Heap) (locs : List Loc) (ls : Array Slot) (a0 : Nat) (x1 : Int32), k11 M a0 x1 = some q → ps_W D Y B M H → va_S (fun q => B ≤ q) s.heap H locs → lv_has ls 2 [(0, .ref (B + a0)), (1, .int x1)] → W p l e rm_X10_remember s m args below meth c H locs 0 0 (ps_Qv D Y B below args s 0 0 q) (F0 m 11 ls [])) {M : ps_M} {a0 : Nat} {x1 : Int32} (hF : f_X10_remember_w11 k11 M a0 x1 = some q) (hW : ps_W D Y B M H) (hS : va_S (fun q => B ≤ q) s.heap H locs) (hl : lv_has ls 2 [(0, .ref (B + a0)), (1, .int x1)]) : W p l e rm_X10_remember s m args below meth c H locs 0 0 (ps_Qv D Y B below args s 0 0 q) (F0 m 11 ls []) := by
  have hx := C.1
  have hb := C.2.1
  have hml := C.2.2.1
  have hown := C.2.2.2.1
  have hts := C.2.2.2.2.1
  unfold f_X10_remember_w11 at hF
  refine lv_iload_n hx hb dX10_remember_11 rfl (lv_at hl 1 rfl) ?_
  refine lv_bipush (v := 30) hx hb dX10_remember_12 (by decide) ?_
  refine lv_icmp_ge (tgt := 43) hx hb dX10_remember_14 (by decide) (fun hv3 => ?_) (fun hv3 => ?_)
  · replace hF := (if_pos hv3).symm.trans hF
    refine lv_aload_n hx hb dX10_remember_43 rfl (lv_at hl 0 rfl) ?_
    refine lv_dup hx hb dX10_remember_44 rfl ?_
    refine pw_gI C hW pc_9 (k := 26) (by decide) rfl tq_944 dX10_remember_45 hF (fun xv4 hF => ?_)
    refine lv_iconst (v := 1) hx hb dX10_remember_48 (by decide) ?_
    refine lv_isub hx hb dX10_remember_49 ?_
    refine pw_pI C hW hS pc_9 (k := 26) (by decide) rfl rfl tq_944 rfl dX10_remember_50 hF (fun M H locs hW hS hF => ?_)
    exact kb_X10_remember_b53 C hF hW hS (lv_sub hl [0] rfl)
  · replace hF := (if_neg hv3).symm.trans hF
    refine lv_aload_n hx hb dX10_remember_17 rfl (lv_at hl 0 rfl) ?_
    refine lv_bipush (v := 112) hx hb dX10_remember_18 (by decide) ?_
    refine lv_bipush (v := 28) hx hb dX10_remember_20 (by decide) ?_
    refine lv_iload_n hx hb dX10_remember_22 rfl (lv_at hl 1 rfl) ?_
    refine lv_imul hx hb dX10_remember_23 ?_
    refine lv_iadd hx hb dX10_remember_24 ?_
    refine lv_bipush (v := 112) hx hb dX10_remember_25 (by decide) ?_
    refine lv_bipush (v := 28) hx hb dX10_remember_27 (by decide) ?_
    refine lv_iload_n hx hb dX10_remember_29 rfl (lv_at hl 1 rfl) ?_
    refine lv_iconst (v := 1) hx hb dX10_remember_30 (by decide) ?_
    refine lv_isub hx hb dX10_remember_31 ?_
    refine lv_imul hx hb dX10_remember_32 ?_
    refine lv_iadd hx hb dX10_remember_33 ?_
    obtain ⟨hK, hF⟩ := ps_ck_some hF
    obtain ⟨M9, hc, hF⟩ := ps_b1_some hF
    refine ps_backV (M' := M9) hS (ps_callV C hW pc_9 mf_X10_copy tq_1128 tq_43 tq_1126 ⟨Nat.le_of_ble_eq_true rfl, Nat.le_of_ble_eq_true rfl⟩ rfl rfl (As := [.int ((112 : Int32) + ((28 : Int32) * x1)), .int ((112 : Int32) + ((28 : Int32) * (x1 - (1 : Int32))))]) (rest := []) (c_X10_copy hc) hK rfl hl.1 rfl (Nat.le_of_ble_eq_true rfl) dX10_remember_34 ⟨Nat.le_of_ble_eq_true rfl, Nat.le_of_ble_eq_true rfl⟩) (fun H locs hW hS => ?_)
    clear hc
    generalize M9 = M at hW hF
    obtain ⟨xv5, exv5, hF⟩ := ps_ve hF
    refine lv_iinc (v := xv5) (lv' := [(1, .int xv5), (0, .ref (B + a0))]) hx hb dX10_remember_37 hl (k := 1) rfl (by rw [exv5]; rfl) (by decide) rfl (fun ls hl => ?_)
    clear exv5
    refine lv_goto (tgt := 11) hx hb dX10_remember_40 (by decide) ?_
    exact hk11 M _ _ _ a0 xv5 hF hW hS (lv_sub hl [1, 0] rfl)
theorem kb_X10_remember_l11 (C : ps_C p s m args meth c cX10_remember 2 RX10 none "remember" D Y B) {q : ps_M}  : ∀ (n : Nat) (M : ps_M) (H : Heap) (locs : List Loc) (ls : Array Slot) (a0 : Nat) (x1 : Int32), f_X10_remember_l11 n M a0 x1 = some q → ps_W D Y B M H → va_S (fun q => B ≤ q) s.heap H locs → lv_has ls 2 [(0, .ref (B + a0)), (1, .int x1)] → W p l e rm_X10_remember s m args below meth c H locs 0 0 (ps_Qv D Y B below args s 0 0 q) (F0 m 11 ls []) := by
  intro n
  induction n with
  | zero => intro M H locs ls a0 x1 hF; cases hF
  | succ n ih => intro M H locs ls a0 x1 hF hW hS hl; exact kb_X10_remember_w11 C  (f_X10_remember_l11 n) ih hF hW hS hl
set_option maxRecDepth 100000 in
set_option maxHeartbeats 4000000 in
theorem kb_X10_remember (C : ps_C p s m args meth c cX10_remember 2 RX10 none "remember" D Y B) {q : ps_M}  {M : ps_M} {a0 : Nat} (hF : f_X10_remember M a0 = some q) (hW : ps_W D Y B M H) (hS : va_S (fun q => B ≤ q) s.heap H locs) (hl : lv_has ls 2 [(0, .ref (B + a0))]) : W p l e rm_X10_remember s m args below meth c H locs 0 0 (ps_Qv D Y B below args s 0 0 q) (F0 m 0 ls []) := by
  have hx := C.1
  have hb := C.2.1
  have hml := C.2.2.1
  have hown := C.2.2.2.1
  have hts := C.2.2.2.2.1
  unfold f_X10_remember at hF
  refine lv_aload_n hx hb dX10_remember_0 rfl (lv_at hl 0 rfl) ?_
  refine pw_gI C hW pc_9 (k := 26) (by decide) rfl tq_944 dX10_remember_1 hF (fun xv6 hF => ?_)
  refine lv_bipush (v := 30) hx hb dX10_remember_4 (by decide) ?_
  refine lv_icmp_ne (tgt := 53) hx hb dX10_remember_6 (by decide) (fun hv7 => ?_) (fun hv7 => ?_)
  · replace hF := (if_neg hv7).symm.trans hF
    exact kb_X10_remember_b53 C hF hW hS (lv_sub hl [0] rfl)
  · replace hF := (if_pos hv7).symm.trans hF
    refine lv_iconst (v := 1) hx hb dX10_remember_9 (by decide) ?_
    refine lv_istore_n (lv' := [(1, .int (1 : Int32)), (0, .ref (B + a0))]) hx hb dX10_remember_10 rfl hl (by decide) rfl (fun ls hl => ?_)
    exact kb_X10_remember_l11 C ps_fu M _ _ _ a0 (1 : Int32) hF hW hS (lv_sub hl [1, 0] rfl)
theorem mf_X10_remember : ps_mf yX10_remember cX10_remember 2 none 0 := ⟨tq_1125, tq_71, by decide +kernel, by decide +kernel, by decide +kernel⟩
theorem c_X10_remember {l : Launch} {D : va_G} {Y : ps_A} {B : Nat} {M : ps_M} {a0 : Nat} {M' : ps_M} (hF : f_X10_remember M a0 = some M') : Met l yX10_remember (Cond.code yX10_remember cX10_remember 2 none :: tb_G) rm_X10_remember (ps_PB D Y B M [.ref (B + a0)]) (va_Qv (fun (_ : Unit) => True) (fun _ t => ps_St D Y B M' t) (fun q => B ≤ q)) 0 0 (fun q => B ≤ q) :=
  pm_of (by decide +kernel) (Nat.le_of_ble_eq_true rfl) (fun p e s m args below meth c C hW hS ls hl => kb_X10_remember C hF hW hS hl)

abbrev rm_X10_log : Room := { frames := 2, cells := 0, slots := 0, locals := 46 }
def f_X10_log_b21 (M : ps_M)  : Option (Int32 × ps_M) := some ((-1000000001 : Int32), M)
def f_X10_log (M : ps_M) (a0 : Nat) (x1 : Int32) (x2 : Int32) : Option (Int32 × ps_M) := ps_ck M a0 9 (ps_b2 (f_X10_isPerson M a0 x1) (fun xv1 M => if xv1 = 0 then (f_X10_log_b21 M ) else (ps_ck M a0 9 (ps_b2 (f_X10_isPerson M a0 x2) (fun xv3 M => if xv3 = 0 then (f_X10_log_b21 M ) else (if x1 = x2 then (f_X10_log_b21 M ) else (ps_gI M a0 9 2 (fun xv6 => if xv6 = 0 then (some ((-1000000003 : Int32), M)) else (ps_ck M a0 9 (ps_b1 (f_X10_begin M a0 (0 : Int32) x1 x2) (fun M => ps_pI M a0 9 26 (0 : Int32) (fun M => some (x1, M)))))))))))))
set_option maxRecDepth 100000 in
set_option maxHeartbeats 4000000 in
theorem kb_X10_log_b21 (C : ps_C p s m args meth c cX10_log 3 RX10 ((some .int)) "log" D Y B) {q : Int32 × ps_M}  {M : ps_M}  (hF : f_X10_log_b21 M  = some q) (hW : ps_W D Y B M H) (hS : va_S (fun q => B ≤ q) s.heap H locs) (hl : lv_has ls 3 []) : W p l e rm_X10_log s m args below meth c H locs 0 0 (ps_Qi D Y B below args s 0 0 q) (F0 m 21 ls []) := by
  have hx := C.1
  have hb := C.2.1
  have hml := C.2.2.1
  have hown := C.2.2.2.1
  have hts := C.2.2.2.2.1
  unfold f_X10_log_b21 at hF
  refine lv_ldc (v := -1000000001) hx hb hown (hts _ tq_1099) dX10_log_21 ?_
  exact pw_iret C hW hS dX10_log_23 hF
set_option maxRecDepth 100000 in
set_option maxHeartbeats 4000000 in
theorem kb_X10_log (C : ps_C p s m args meth c cX10_log 3 RX10 ((some .int)) "log" D Y B) {q : Int32 × ps_M}  {M : ps_M} {a0 : Nat} {x1 : Int32} {x2 : Int32} (hF : f_X10_log M a0 x1 x2 = some q) (hW : ps_W D Y B M H) (hS : va_S (fun q => B ≤ q) s.heap H locs) (hl : lv_has ls 3 [(0, .ref (B + a0)), (1, .int x1), (2, .int x2)]) : W p l e rm_X10_log s m args below meth c H locs 0 0 (ps_Qi D Y B below args s 0 0 q) (F0 m 0 ls []) := by
  have hx := C.1
  have hb := C.2.1
  have hml := C.2.2.1
  have hown := C.2.2.2.1
  have hts := C.2.2.2.2.1
  unfold f_X10_log at hF
  refine lv_aload_n hx hb dX10_log_0 rfl (lv_at hl 0 rfl) ?_
  refine lv_iload_n hx hb dX10_log_1 rfl (lv_at hl 1 rfl) ?_
  obtain ⟨hK, hF⟩ := ps_ck_some hF
  obtain ⟨xv1, M9, hc, hF⟩ := ps_b2_some hF
  refine ps_backI (x0 := xv1) (M' := M9) hS (ps_callV C hW pc_9 mf_X10_isPerson tq_1106 tq_40 tq_1104 ⟨Nat.le_of_ble_eq_true rfl, Nat.le_of_ble_eq_true rfl⟩ rfl rfl (As := [.int x1]) (rest := []) (c_X10_isPerson hc) hK rfl hl.1 rfl (Nat.le_of_ble_eq_true rfl) dX10_log_2 ⟨Nat.le_of_ble_eq_true rfl, Nat.le_of_ble_eq_true rfl⟩) (fun H locs hW hS => ?_)
  clear hc
  generalize M9 = M at hW hF
  refine lv_if_eq (tgt := 21) hx hb dX10_log_5 (by decide) (fun hv2 => ?_) (fun hv2 => ?_)
  · replace hF := (if_pos hv2).symm.trans hF
    exact kb_X10_log_b21 C hF hW hS (lv_sub hl [] rfl)
  · replace hF := (if_neg hv2).symm.trans hF
    refine lv_aload_n hx hb dX10_log_8 rfl (lv_at hl 0 rfl) ?_
    refine lv_iload_n hx hb dX10_log_9 rfl (lv_at hl 2 rfl) ?_
    obtain ⟨hK, hF⟩ := ps_ck_some hF
    obtain ⟨xv3, M9, hc, hF⟩ := ps_b2_some hF
    refine ps_backI (x0 := xv3) (M' := M9) hS (ps_callV C hW pc_9 mf_X10_isPerson tq_1106 tq_40 tq_1104 ⟨Nat.le_of_ble_eq_true rfl, Nat.le_of_ble_eq_true rfl⟩ rfl rfl (As := [.int x2]) (rest := []) (c_X10_isPerson hc) hK rfl hl.1 rfl (Nat.le_of_ble_eq_true rfl) dX10_log_10 ⟨Nat.le_of_ble_eq_true rfl, Nat.le_of_ble_eq_true rfl⟩) (fun H locs hW hS => ?_)
    clear hc
    generalize M9 = M at hW hF
    refine lv_if_eq (tgt := 21) hx hb dX10_log_13 (by decide) (fun hv4 => ?_) (fun hv4 => ?_)
    · replace hF := (if_pos hv4).symm.trans hF
      exact kb_X10_log_b21 C hF hW hS (lv_sub hl [] rfl)
    · replace hF := (if_neg hv4).symm.trans hF
      refine lv_iload_n hx hb dX10_log_16 rfl (lv_at hl 1 rfl) ?_
      refine lv_iload_n hx hb dX10_log_17 rfl (lv_at hl 2 rfl) ?_
      refine lv_icmp_ne (tgt := 24) hx hb dX10_log_18 (by decide) (fun hv5 => ?_) (fun hv5 => ?_)
      · replace hF := (if_neg hv5).symm.trans hF
        refine lv_aload_n hx hb dX10_log_24 rfl (lv_at hl 0 rfl) ?_
        refine pw_gI C hW pc_9 (k := 2) (by decide) rfl tq_920 dX10_log_25 hF (fun xv6 hF => ?_)
        refine lv_if_ne (tgt := 34) hx hb dX10_log_28 (by decide) (fun hv7 => ?_) (fun hv7 => ?_)
        · replace hF := (if_neg hv7).symm.trans hF
          refine lv_aload_n hx hb dX10_log_34 rfl (lv_at hl 0 rfl) ?_
          refine lv_iconst (v := 0) hx hb dX10_log_35 (by decide) ?_
          refine lv_iload_n hx hb dX10_log_36 rfl (lv_at hl 1 rfl) ?_
          refine lv_iload_n hx hb dX10_log_37 rfl (lv_at hl 2 rfl) ?_
          obtain ⟨hK, hF⟩ := ps_ck_some hF
          obtain ⟨M9, hc, hF⟩ := ps_b1_some hF
          refine ps_backV (M' := M9) hS (ps_callV C hW pc_9 mf_X10_begin tq_1078 tq_38 tq_1076 ⟨Nat.le_of_ble_eq_true rfl, Nat.le_of_ble_eq_true rfl⟩ rfl rfl (As := [.int (0 : Int32), .int x1, .int x2]) (rest := []) (c_X10_begin hc) hK rfl hl.1 rfl (Nat.le_of_ble_eq_true rfl) dX10_log_38 ⟨Nat.le_of_ble_eq_true rfl, Nat.le_of_ble_eq_true rfl⟩) (fun H locs hW hS => ?_)
          clear hc
          generalize M9 = M at hW hF
          refine lv_aload_n hx hb dX10_log_41 rfl (lv_at hl 0 rfl) ?_
          refine lv_iconst (v := 0) hx hb dX10_log_42 (by decide) ?_
          refine pw_pI C hW hS pc_9 (k := 26) (by decide) rfl rfl tq_944 rfl dX10_log_43 hF (fun M H locs hW hS hF => ?_)
          refine lv_iload_n hx hb dX10_log_46 rfl (lv_at hl 1 rfl) ?_
          exact pw_iret C hW hS dX10_log_47 hF
        · replace hF := (if_pos hv7).symm.trans hF
          refine lv_ldc (v := -1000000003) hx hb hown (hts _ tq_1112) dX10_log_31 ?_
          exact pw_iret C hW hS dX10_log_33 hF
      · replace hF := (if_pos hv5).symm.trans hF
        exact kb_X10_log_b21 C hF hW hS (lv_sub hl [] rfl)
theorem mf_X10_log : ps_mf yX10_log cX10_log 3 ((some .int)) 2 := ⟨tq_1111, tq_71, by decide +kernel, by decide +kernel, by decide +kernel⟩
theorem c_X10_log {l : Launch} {D : va_G} {Y : ps_A} {B : Nat} {M : ps_M} {a0 : Nat} {x1 : Int32} {x2 : Int32} {r : Int32} {M' : ps_M} (hF : f_X10_log M a0 x1 x2 = some (r, M')) : Met l yX10_log (Cond.code yX10_log cX10_log 3 ((some .int)) :: tb_G) rm_X10_log (ps_PB D Y B M [.ref (B + a0), .int x1, .int x2]) (va_Qi (fun x (_ : Unit) => x = r) (fun _ t => ps_St D Y B M' t) (fun q => B ≤ q)) 0 0 (fun q => B ≤ q) :=
  pm_of (by decide +kernel) (Nat.le_of_ble_eq_true rfl) (fun p e s m args below meth c C hW hS ls hl => kb_X10_log C hF hW hS hl)

abbrev rm_X10_stroke : Room := { frames := 3, cells := 0, slots := 0, locals := 75 }
def f_X10_stroke_b30 (M : ps_M)  : Option (Int32 × ps_M) := some ((-1000000003 : Int32), M)
def f_X10_stroke_b68 (M : ps_M) (x2 : Int32) : Option (Int32 × ps_M) := some (x2, M)
def f_X10_stroke_w41 (k41 : ps_M → Nat → Int32 → Int32 → Int32 → Option (Int32 × ps_M)) (M : ps_M) (a0 : Nat) (x1 : Int32) (x2 : Int32) (x3 : Int32) : Option (Int32 × ps_M) := if x1 ≤ x3 then (f_X10_stroke_b68 M x2) else (ps_ck M a0 9 (ps_b2 (f_X10_isThrough M a0 (0 : Int32)) (fun xv2 M => if xv2 = 0 then (ps_ck M a0 9 (ps_b2 (f_X10_pull M a0 (0 : Int32)) (fun xv4 M => ps_v ((x2 + xv4)) (fun xv5 => ps_v (x3 + 1) (fun xv6 => k41 M a0 x1 xv5 xv6))))) else (f_X10_stroke_b68 M x2))))
def f_X10_stroke_l41 : Nat → ps_M → Nat → Int32 → Int32 → Int32 → Option (Int32 × ps_M)
  | 0, _, _, _, _, _ => none
  | n + 1, M, a0, x1, x2, x3 => f_X10_stroke_w41 (f_X10_stroke_l41 n) M a0 x1 x2 x3
def f_X10_stroke (M : ps_M) (a0 : Nat) (x1 : Int32) : Option (Int32 × ps_M) := ps_b2 (f_X10_in M (x1.toInt64) (1 : Int64) (99 : Int64)) (fun xv7 M => if xv7 = 0 then (some ((-1000000002 : Int32), M)) else (ps_ck M a0 9 (ps_b2 (f_X10_isPair M a0 ) (fun xv9 M => if xv9 = 0 then (f_X10_stroke_b30 M ) else (ps_ck M a0 9 (ps_b2 (f_X10_isThrough M a0 (0 : Int32)) (fun xv11 M => if xv11 = 0 then (ps_ck M a0 9 (ps_b1 (f_X10_remember M a0 ) (fun M => f_X10_stroke_l41 ps_fu M a0 x1 (0 : Int32) (0 : Int32)))) else (f_X10_stroke_b30 M ))))))))
set_option maxRecDepth 100000 in
set_option maxHeartbeats 4000000 in
theorem kb_X10_stroke_b30 (C : ps_C p s m args meth c cX10_stroke 4 RX10 ((some .int)) "stroke" D Y B) {q : Int32 × ps_M}  {M : ps_M}  (hF : f_X10_stroke_b30 M  = some q) (hW : ps_W D Y B M H) (hS : va_S (fun q => B ≤ q) s.heap H locs) (hl : lv_has ls 4 []) : W p l e rm_X10_stroke s m args below meth c H locs 0 0 (ps_Qi D Y B below args s 0 0 q) (F0 m 30 ls []) := by
  have hx := C.1
  have hb := C.2.1
  have hml := C.2.2.1
  have hown := C.2.2.2.1
  have hts := C.2.2.2.2.1
  unfold f_X10_stroke_b30 at hF
  refine lv_ldc (v := -1000000003) hx hb hown (hts _ tq_1112) dX10_stroke_30 ?_
  exact pw_iret C hW hS dX10_stroke_32 hF
set_option maxRecDepth 100000 in
set_option maxHeartbeats 4000000 in
theorem kb_X10_stroke_b68 (C : ps_C p s m args meth c cX10_stroke 4 RX10 ((some .int)) "stroke" D Y B) {q : Int32 × ps_M}  {M : ps_M} {x2 : Int32} (hF : f_X10_stroke_b68 M x2 = some q) (hW : ps_W D Y B M H) (hS : va_S (fun q => B ≤ q) s.heap H locs) (hl : lv_has ls 4 [(2, .int x2)]) : W p l e rm_X10_stroke s m args below meth c H locs 0 0 (ps_Qi D Y B below args s 0 0 q) (F0 m 68 ls []) := by
  have hx := C.1
  have hb := C.2.1
  have hml := C.2.2.1
  have hown := C.2.2.2.1
  have hts := C.2.2.2.2.1
  unfold f_X10_stroke_b68 at hF
  refine lv_iload_n hx hb dX10_stroke_68 rfl (lv_at hl 0 rfl) ?_
  exact pw_iret C hW hS dX10_stroke_69 hF
set_option maxRecDepth 100000 in
set_option maxHeartbeats 4000000 in
theorem kb_X10_stroke_w41 (C : ps_C p s m args meth c cX10_stroke 4 RX10 ((some .int)) "stroke" D Y B) {q : Int32 × ps_M} (k41 : ps_M → Nat → Int32 → Int32 → Int32 → Option (Int32 × ps_M)) (hk41 : ∀ (M : ps_M) (H : Heap) (locs : List Loc) (ls : Array Slot) (a0 : Nat) (x1 : Int32) (x2 : Int32) (x3 : Int32), k41 M a0 x1 x2 x3 = some q → ps_W D Y B M H → va_S (fun q => B ≤ q) s.heap H locs → lv_has ls 4 [(0, .ref (B + a0)), (1, .int x1), (2, .int x2), (3, .int x3)] → W p l e rm_X10_stroke s m args below meth c H locs 0 0 (ps_Qi D Y B below args s 0 0 q) (F0 m 41 ls [])) {M : ps_M} {a0 : Nat} {x1 : Int32} {x2 : Int32} {x3 : Int32} (hF : f_X10_stroke_w41 k41 M a0 x1 x2 x3 = some q) (hW : ps_W D Y B M H) (hS : va_S (fun q => B ≤ q) s.heap H locs) (hl : lv_has ls 4 [(0, .ref (B + a0)), (1, .int x1), (2, .int x2), (3, .int x3)]) : W p l e rm_X10_stroke s m args below meth c H locs 0 0 (ps_Qi D Y B below args s 0 0 q) (F0 m 41 ls []) := by
  have hx := C.1
  have hb := C.2.1
  have hml := C.2.2.1
  have hown := C.2.2.2.1
  have hts := C.2.2.2.2.1
  unfold f_X10_stroke_w41 at hF
  refine lv_iload_n hx hb dX10_stroke_41 rfl (lv_at hl 3 rfl) ?_
  refine lv_iload_n hx hb dX10_stroke_42 rfl (lv_at hl 1 rfl) ?_
  refine lv_icmp_ge (tgt := 68) hx hb dX10_stroke_43 (by decide) (fun hv1 => ?_) (fun hv1 => ?_)
  · replace hF := (if_pos hv1).symm.trans hF
    exact kb_X10_stroke_b68 C hF hW hS (lv_sub hl [2] rfl)
  · replace hF := (if_neg hv1).symm.trans hF
    refine lv_aload_n hx hb dX10_stroke_46 rfl (lv_at hl 0 rfl) ?_
    refine lv_iconst (v := 0) hx hb dX10_stroke_47 (by decide) ?_
    obtain ⟨hK, hF⟩ := ps_ck_some hF
    obtain ⟨xv2, M9, hc, hF⟩ := ps_b2_some hF
    refine ps_backI (x0 := xv2) (M' := M9) hS (ps_callV C hW pc_9 mf_X10_isThrough tq_1090 tq_39 tq_1088 ⟨Nat.le_of_ble_eq_true rfl, Nat.le_of_ble_eq_true rfl⟩ rfl rfl (As := [.int (0 : Int32)]) (rest := []) (c_X10_isThrough hc) hK rfl hl.1 rfl (Nat.le_of_ble_eq_true rfl) dX10_stroke_48 ⟨Nat.le_of_ble_eq_true rfl, Nat.le_of_ble_eq_true rfl⟩) (fun H locs hW hS => ?_)
    clear hc
    generalize M9 = M at hW hF
    refine lv_if_ne (tgt := 68) hx hb dX10_stroke_51 (by decide) (fun hv3 => ?_) (fun hv3 => ?_)
    · replace hF := (if_neg hv3).symm.trans hF
      exact kb_X10_stroke_b68 C hF hW hS (lv_sub hl [2] rfl)
    · replace hF := (if_pos hv3).symm.trans hF
      refine lv_iload_n hx hb dX10_stroke_54 rfl (lv_at hl 2 rfl) ?_
      refine lv_aload_n hx hb dX10_stroke_55 rfl (lv_at hl 0 rfl) ?_
      refine lv_iconst (v := 0) hx hb dX10_stroke_56 (by decide) ?_
      obtain ⟨hK, hF⟩ := ps_ck_some hF
      obtain ⟨xv4, M9, hc, hF⟩ := ps_b2_some hF
      refine ps_backI (x0 := xv4) (M' := M9) hS (ps_callV C hW pc_9 mf_X10_pull tq_1132 tq_44 tq_1130 ⟨Nat.le_of_ble_eq_true rfl, Nat.le_of_ble_eq_true rfl⟩ rfl rfl (As := [.int (0 : Int32)]) (rest := [.int x2]) (c_X10_pull hc) hK rfl hl.1 rfl (Nat.le_of_ble_eq_true rfl) dX10_stroke_57 ⟨Nat.le_of_ble_eq_true rfl, Nat.le_of_ble_eq_true rfl⟩) (fun H locs hW hS => ?_)
      clear hc
      generalize M9 = M at hW hF
      refine lv_iadd hx hb dX10_stroke_60 ?_
      refine pw_v hF (fun xv5 hF => ?_)
      refine lv_istore_n (lv' := [(2, .int xv5), (0, .ref (B + a0)), (1, .int x1), (3, .int x3)]) hx hb dX10_stroke_61 rfl hl (by decide) rfl (fun ls hl => ?_)
      obtain ⟨xv6, exv6, hF⟩ := ps_ve hF
      refine lv_iinc (v := xv6) (lv' := [(3, .int xv6), (2, .int xv5), (0, .ref (B + a0)), (1, .int x1)]) hx hb dX10_stroke_62 hl (k := 3) rfl (by rw [exv6]; rfl) (by decide) rfl (fun ls hl => ?_)
      clear exv6
      refine lv_goto (tgt := 41) hx hb dX10_stroke_65 (by decide) ?_
      exact hk41 M _ _ _ a0 x1 xv5 xv6 hF hW hS (lv_sub hl [2, 3, 1, 0] rfl)
theorem kb_X10_stroke_l41 (C : ps_C p s m args meth c cX10_stroke 4 RX10 ((some .int)) "stroke" D Y B) {q : Int32 × ps_M}  : ∀ (n : Nat) (M : ps_M) (H : Heap) (locs : List Loc) (ls : Array Slot) (a0 : Nat) (x1 : Int32) (x2 : Int32) (x3 : Int32), f_X10_stroke_l41 n M a0 x1 x2 x3 = some q → ps_W D Y B M H → va_S (fun q => B ≤ q) s.heap H locs → lv_has ls 4 [(0, .ref (B + a0)), (1, .int x1), (2, .int x2), (3, .int x3)] → W p l e rm_X10_stroke s m args below meth c H locs 0 0 (ps_Qi D Y B below args s 0 0 q) (F0 m 41 ls []) := by
  intro n
  induction n with
  | zero => intro M H locs ls a0 x1 x2 x3 hF; cases hF
  | succ n ih => intro M H locs ls a0 x1 x2 x3 hF hW hS hl; exact kb_X10_stroke_w41 C  (f_X10_stroke_l41 n) ih hF hW hS hl
set_option maxRecDepth 100000 in
set_option maxHeartbeats 4000000 in
theorem kb_X10_stroke (C : ps_C p s m args meth c cX10_stroke 4 RX10 ((some .int)) "stroke" D Y B) {q : Int32 × ps_M}  {M : ps_M} {a0 : Nat} {x1 : Int32} (hF : f_X10_stroke M a0 x1 = some q) (hW : ps_W D Y B M H) (hS : va_S (fun q => B ≤ q) s.heap H locs) (hl : lv_has ls 4 [(0, .ref (B + a0)), (1, .int x1)]) : W p l e rm_X10_stroke s m args below meth c H locs 0 0 (ps_Qi D Y B below args s 0 0 q) (F0 m 0 ls []) := by
  have hx := C.1
  have hb := C.2.1
  have hml := C.2.2.1
  have hown := C.2.2.2.1
  have hts := C.2.2.2.2.1
  unfold f_X10_stroke at hF
  refine lv_iload_n hx hb dX10_stroke_0 rfl (lv_at hl 1 rfl) ?_
  refine lv_i2l hx hb dX10_stroke_1 rfl ?_
  refine lv_lconst (v := 1) hx hb dX10_stroke_2 (by decide) ?_
  refine lv_ldc2 (v := 99) hx hb hown (hts _ tq_1117) dX10_stroke_3 ?_
  obtain ⟨xv7, M9, hc, hF⟩ := ps_b2_some hF
  refine ps_backI (x0 := xv7) (M' := M9) hS (ps_callS C hW mf_X10_in tq_1031 tq_1030 ⟨Nat.le_of_ble_eq_true rfl, Nat.le_of_ble_eq_true rfl⟩ rfl rfl (As := [.long (x1.toInt64), .long (1 : Int64), .long (99 : Int64)]) (rest := []) (c_X10_in hc) rfl hl.1 rfl (Nat.le_of_ble_eq_true rfl) dX10_stroke_6 ⟨Nat.le_of_ble_eq_true rfl, Nat.le_of_ble_eq_true rfl⟩) (fun H locs hW hS => ?_)
  clear hc
  generalize M9 = M at hW hF
  refine lv_if_ne (tgt := 15) hx hb dX10_stroke_9 (by decide) (fun hv8 => ?_) (fun hv8 => ?_)
  · replace hF := (if_neg hv8).symm.trans hF
    refine lv_aload_n hx hb dX10_stroke_15 rfl (lv_at hl 0 rfl) ?_
    obtain ⟨hK, hF⟩ := ps_ck_some hF
    obtain ⟨xv9, M9, hc, hF⟩ := ps_b2_some hF
    refine ps_backI (x0 := xv9) (M' := M9) hS (ps_callV C hW pc_9 mf_X10_isPair tq_1120 tq_41 tq_1118 ⟨Nat.le_of_ble_eq_true rfl, Nat.le_of_ble_eq_true rfl⟩ rfl rfl (As := []) (rest := []) (c_X10_isPair hc) hK rfl hl.1 rfl (Nat.le_of_ble_eq_true rfl) dX10_stroke_16 ⟨Nat.le_of_ble_eq_true rfl, Nat.le_of_ble_eq_true rfl⟩) (fun H locs hW hS => ?_)
    clear hc
    generalize M9 = M at hW hF
    refine lv_if_eq (tgt := 30) hx hb dX10_stroke_19 (by decide) (fun hv10 => ?_) (fun hv10 => ?_)
    · replace hF := (if_pos hv10).symm.trans hF
      exact kb_X10_stroke_b30 C hF hW hS (lv_sub hl [] rfl)
    · replace hF := (if_neg hv10).symm.trans hF
      refine lv_aload_n hx hb dX10_stroke_22 rfl (lv_at hl 0 rfl) ?_
      refine lv_iconst (v := 0) hx hb dX10_stroke_23 (by decide) ?_
      obtain ⟨hK, hF⟩ := ps_ck_some hF
      obtain ⟨xv11, M9, hc, hF⟩ := ps_b2_some hF
      refine ps_backI (x0 := xv11) (M' := M9) hS (ps_callV C hW pc_9 mf_X10_isThrough tq_1090 tq_39 tq_1088 ⟨Nat.le_of_ble_eq_true rfl, Nat.le_of_ble_eq_true rfl⟩ rfl rfl (As := [.int (0 : Int32)]) (rest := []) (c_X10_isThrough hc) hK rfl hl.1 rfl (Nat.le_of_ble_eq_true rfl) dX10_stroke_24 ⟨Nat.le_of_ble_eq_true rfl, Nat.le_of_ble_eq_true rfl⟩) (fun H locs hW hS => ?_)
      clear hc
      generalize M9 = M at hW hF
      refine lv_if_eq (tgt := 33) hx hb dX10_stroke_27 (by decide) (fun hv12 => ?_) (fun hv12 => ?_)
      · replace hF := (if_pos hv12).symm.trans hF
        refine lv_aload_n hx hb dX10_stroke_33 rfl (lv_at hl 0 rfl) ?_
        obtain ⟨hK, hF⟩ := ps_ck_some hF
        obtain ⟨M9, hc, hF⟩ := ps_b1_some hF
        refine ps_backV (M' := M9) hS (ps_callV C hW pc_9 mf_X10_remember tq_1124 tq_42 tq_1122 ⟨Nat.le_of_ble_eq_true rfl, Nat.le_of_ble_eq_true rfl⟩ rfl rfl (As := []) (rest := []) (c_X10_remember hc) hK rfl hl.1 rfl (Nat.le_of_ble_eq_true rfl) dX10_stroke_34 ⟨Nat.le_of_ble_eq_true rfl, Nat.le_of_ble_eq_true rfl⟩) (fun H locs hW hS => ?_)
        clear hc
        generalize M9 = M at hW hF
        refine lv_iconst (v := 0) hx hb dX10_stroke_37 (by decide) ?_
        refine lv_istore_n (lv' := [(2, .int (0 : Int32)), (0, .ref (B + a0)), (1, .int x1)]) hx hb dX10_stroke_38 rfl hl (by decide) rfl (fun ls hl => ?_)
        refine lv_iconst (v := 0) hx hb dX10_stroke_39 (by decide) ?_
        refine lv_istore_n (lv' := [(3, .int (0 : Int32)), (2, .int (0 : Int32)), (0, .ref (B + a0)), (1, .int x1)]) hx hb dX10_stroke_40 rfl hl (by decide) rfl (fun ls hl => ?_)
        exact kb_X10_stroke_l41 C ps_fu M _ _ _ a0 x1 (0 : Int32) (0 : Int32) hF hW hS (lv_sub hl [2, 3, 1, 0] rfl)
      · replace hF := (if_neg hv12).symm.trans hF
        exact kb_X10_stroke_b30 C hF hW hS (lv_sub hl [] rfl)
  · replace hF := (if_pos hv8).symm.trans hF
    refine lv_ldc (v := -1000000002) hx hb hown (hts _ tq_1033) dX10_stroke_12 ?_
    exact pw_iret C hW hS dX10_stroke_14 hF
theorem mf_X10_stroke : ps_mf yX10_stroke cX10_stroke 4 ((some .int)) 1 := ⟨tq_1116, tq_71, by decide +kernel, by decide +kernel, by decide +kernel⟩
theorem c_X10_stroke {l : Launch} {D : va_G} {Y : ps_A} {B : Nat} {M : ps_M} {a0 : Nat} {x1 : Int32} {r : Int32} {M' : ps_M} (hF : f_X10_stroke M a0 x1 = some (r, M')) : Met l yX10_stroke (Cond.code yX10_stroke cX10_stroke 4 ((some .int)) :: tb_G) rm_X10_stroke (ps_PB D Y B M [.ref (B + a0), .int x1]) (va_Qi (fun x (_ : Unit) => x = r) (fun _ t => ps_St D Y B M' t) (fun q => B ≤ q)) 0 0 (fun q => B ≤ q) :=
  pm_of (by decide +kernel) (Nat.le_of_ble_eq_true rfl) (fun p e s m args below meth c C hW hS ls hl => kb_X10_stroke C hF hW hS hl)

abbrev rm_X10_rest : Room := { frames := 2, cells := 0, slots := 0, locals := 45 }
def f_X10_rest_b30 (M : ps_M)  : Option (Int32 × ps_M) := some ((-1000000003 : Int32), M)
def f_X10_rest (M : ps_M) (a0 : Nat) (x1 : Int32) : Option (Int32 × ps_M) := ps_b2 (f_X10_in M (x1.toInt64) (1 : Int64) (99 : Int64)) (fun xv1 M => if xv1 = 0 then (some ((-1000000002 : Int32), M)) else (ps_ck M a0 9 (ps_b2 (f_X10_isPair M a0 ) (fun xv3 M => if xv3 = 0 then (f_X10_rest_b30 M ) else (ps_ck M a0 9 (ps_b2 (f_X10_isThrough M a0 (0 : Int32)) (fun xv5 M => if xv5 = 0 then (ps_ck M a0 9 (ps_b1 (f_X10_remember M a0 ) (fun M => ps_ck M a0 9 (ps_b1 (f_X10_relax M a0 (0 : Int32) x1) (fun M => ps_gR M a0 9 0 (fun av7 => ps_aI M av7 (20 : Int32) (fun xv8 => some (xv8, M)))))))) else (f_X10_rest_b30 M ))))))))
set_option maxRecDepth 100000 in
set_option maxHeartbeats 4000000 in
theorem kb_X10_rest_b30 (C : ps_C p s m args meth c cX10_rest 2 RX10 ((some .int)) "rest" D Y B) {q : Int32 × ps_M}  {M : ps_M}  (hF : f_X10_rest_b30 M  = some q) (hW : ps_W D Y B M H) (hS : va_S (fun q => B ≤ q) s.heap H locs) (hl : lv_has ls 2 []) : W p l e rm_X10_rest s m args below meth c H locs 0 0 (ps_Qi D Y B below args s 0 0 q) (F0 m 30 ls []) := by
  have hx := C.1
  have hb := C.2.1
  have hml := C.2.2.1
  have hown := C.2.2.2.1
  have hts := C.2.2.2.2.1
  unfold f_X10_rest_b30 at hF
  refine lv_ldc (v := -1000000003) hx hb hown (hts _ tq_1112) dX10_rest_30 ?_
  exact pw_iret C hW hS dX10_rest_32 hF
set_option maxRecDepth 100000 in
set_option maxHeartbeats 4000000 in
theorem kb_X10_rest (C : ps_C p s m args meth c cX10_rest 2 RX10 ((some .int)) "rest" D Y B) {q : Int32 × ps_M}  {M : ps_M} {a0 : Nat} {x1 : Int32} (hF : f_X10_rest M a0 x1 = some q) (hW : ps_W D Y B M H) (hS : va_S (fun q => B ≤ q) s.heap H locs) (hl : lv_has ls 2 [(0, .ref (B + a0)), (1, .int x1)]) : W p l e rm_X10_rest s m args below meth c H locs 0 0 (ps_Qi D Y B below args s 0 0 q) (F0 m 0 ls []) := by
  have hx := C.1
  have hb := C.2.1
  have hml := C.2.2.1
  have hown := C.2.2.2.1
  have hts := C.2.2.2.2.1
  unfold f_X10_rest at hF
  refine lv_iload_n hx hb dX10_rest_0 rfl (lv_at hl 1 rfl) ?_
  refine lv_i2l hx hb dX10_rest_1 rfl ?_
  refine lv_lconst (v := 1) hx hb dX10_rest_2 (by decide) ?_
  refine lv_ldc2 (v := 99) hx hb hown (hts _ tq_1117) dX10_rest_3 ?_
  obtain ⟨xv1, M9, hc, hF⟩ := ps_b2_some hF
  refine ps_backI (x0 := xv1) (M' := M9) hS (ps_callS C hW mf_X10_in tq_1031 tq_1030 ⟨Nat.le_of_ble_eq_true rfl, Nat.le_of_ble_eq_true rfl⟩ rfl rfl (As := [.long (x1.toInt64), .long (1 : Int64), .long (99 : Int64)]) (rest := []) (c_X10_in hc) rfl hl.1 rfl (Nat.le_of_ble_eq_true rfl) dX10_rest_6 ⟨Nat.le_of_ble_eq_true rfl, Nat.le_of_ble_eq_true rfl⟩) (fun H locs hW hS => ?_)
  clear hc
  generalize M9 = M at hW hF
  refine lv_if_ne (tgt := 15) hx hb dX10_rest_9 (by decide) (fun hv2 => ?_) (fun hv2 => ?_)
  · replace hF := (if_neg hv2).symm.trans hF
    refine lv_aload_n hx hb dX10_rest_15 rfl (lv_at hl 0 rfl) ?_
    obtain ⟨hK, hF⟩ := ps_ck_some hF
    obtain ⟨xv3, M9, hc, hF⟩ := ps_b2_some hF
    refine ps_backI (x0 := xv3) (M' := M9) hS (ps_callV C hW pc_9 mf_X10_isPair tq_1120 tq_41 tq_1118 ⟨Nat.le_of_ble_eq_true rfl, Nat.le_of_ble_eq_true rfl⟩ rfl rfl (As := []) (rest := []) (c_X10_isPair hc) hK rfl hl.1 rfl (Nat.le_of_ble_eq_true rfl) dX10_rest_16 ⟨Nat.le_of_ble_eq_true rfl, Nat.le_of_ble_eq_true rfl⟩) (fun H locs hW hS => ?_)
    clear hc
    generalize M9 = M at hW hF
    refine lv_if_eq (tgt := 30) hx hb dX10_rest_19 (by decide) (fun hv4 => ?_) (fun hv4 => ?_)
    · replace hF := (if_pos hv4).symm.trans hF
      exact kb_X10_rest_b30 C hF hW hS (lv_sub hl [] rfl)
    · replace hF := (if_neg hv4).symm.trans hF
      refine lv_aload_n hx hb dX10_rest_22 rfl (lv_at hl 0 rfl) ?_
      refine lv_iconst (v := 0) hx hb dX10_rest_23 (by decide) ?_
      obtain ⟨hK, hF⟩ := ps_ck_some hF
      obtain ⟨xv5, M9, hc, hF⟩ := ps_b2_some hF
      refine ps_backI (x0 := xv5) (M' := M9) hS (ps_callV C hW pc_9 mf_X10_isThrough tq_1090 tq_39 tq_1088 ⟨Nat.le_of_ble_eq_true rfl, Nat.le_of_ble_eq_true rfl⟩ rfl rfl (As := [.int (0 : Int32)]) (rest := []) (c_X10_isThrough hc) hK rfl hl.1 rfl (Nat.le_of_ble_eq_true rfl) dX10_rest_24 ⟨Nat.le_of_ble_eq_true rfl, Nat.le_of_ble_eq_true rfl⟩) (fun H locs hW hS => ?_)
      clear hc
      generalize M9 = M at hW hF
      refine lv_if_eq (tgt := 33) hx hb dX10_rest_27 (by decide) (fun hv6 => ?_) (fun hv6 => ?_)
      · replace hF := (if_pos hv6).symm.trans hF
        refine lv_aload_n hx hb dX10_rest_33 rfl (lv_at hl 0 rfl) ?_
        obtain ⟨hK, hF⟩ := ps_ck_some hF
        obtain ⟨M9, hc, hF⟩ := ps_b1_some hF
        refine ps_backV (M' := M9) hS (ps_callV C hW pc_9 mf_X10_remember tq_1124 tq_42 tq_1122 ⟨Nat.le_of_ble_eq_true rfl, Nat.le_of_ble_eq_true rfl⟩ rfl rfl (As := []) (rest := []) (c_X10_remember hc) hK rfl hl.1 rfl (Nat.le_of_ble_eq_true rfl) dX10_rest_34 ⟨Nat.le_of_ble_eq_true rfl, Nat.le_of_ble_eq_true rfl⟩) (fun H locs hW hS => ?_)
        clear hc
        generalize M9 = M at hW hF
        refine lv_aload_n hx hb dX10_rest_37 rfl (lv_at hl 0 rfl) ?_
        refine lv_iconst (v := 0) hx hb dX10_rest_38 (by decide) ?_
        refine lv_iload_n hx hb dX10_rest_39 rfl (lv_at hl 1 rfl) ?_
        obtain ⟨hK, hF⟩ := ps_ck_some hF
        obtain ⟨M9, hc, hF⟩ := ps_b1_some hF
        refine ps_backV (M' := M9) hS (ps_callV C hW pc_9 mf_X10_relax tq_1153 tq_48 tq_1151 ⟨Nat.le_of_ble_eq_true rfl, Nat.le_of_ble_eq_true rfl⟩ rfl rfl (As := [.int (0 : Int32), .int x1]) (rest := []) (c_X10_relax hc) hK rfl hl.1 rfl (Nat.le_of_ble_eq_true rfl) dX10_rest_40 ⟨Nat.le_of_ble_eq_true rfl, Nat.le_of_ble_eq_true rfl⟩) (fun H locs hW hS => ?_)
        clear hc
        generalize M9 = M at hW hF
        refine lv_aload_n hx hb dX10_rest_43 rfl (lv_at hl 0 rfl) ?_
        refine pw_gR C hW pc_9 (k := 0) (by decide) rfl tq_918 dX10_rest_44 hF (fun av7 hF => ?_)
        refine lv_bipush (v := 20) hx hb dX10_rest_47 (by decide) ?_
        refine pw_aI C hW dX10_rest_49 hF (fun xv8 hF => ?_)
        exact pw_iret C hW hS dX10_rest_50 hF
      · replace hF := (if_neg hv6).symm.trans hF
        exact kb_X10_rest_b30 C hF hW hS (lv_sub hl [] rfl)
  · replace hF := (if_pos hv2).symm.trans hF
    refine lv_ldc (v := -1000000002) hx hb hown (hts _ tq_1033) dX10_rest_12 ?_
    exact pw_iret C hW hS dX10_rest_14 hF
theorem mf_X10_rest : ps_mf yX10_rest cX10_rest 2 ((some .int)) 1 := ⟨tq_1150, tq_71, by decide +kernel, by decide +kernel, by decide +kernel⟩
theorem c_X10_rest {l : Launch} {D : va_G} {Y : ps_A} {B : Nat} {M : ps_M} {a0 : Nat} {x1 : Int32} {r : Int32} {M' : ps_M} (hF : f_X10_rest M a0 x1 = some (r, M')) : Met l yX10_rest (Cond.code yX10_rest cX10_rest 2 ((some .int)) :: tb_G) rm_X10_rest (ps_PB D Y B M [.ref (B + a0), .int x1]) (va_Qi (fun x (_ : Unit) => x = r) (fun _ t => ps_St D Y B M' t) (fun q => B ≤ q)) 0 0 (fun q => B ≤ q) :=
  pm_of (by decide +kernel) (Nat.le_of_ble_eq_true rfl) (fun p e s m args below meth c C hW hS ls hl => kb_X10_rest C hF hW hS hl)

abbrev rm_X10_sides : Room := { frames := 2, cells := 0, slots := 0, locals := 44 }
def f_X10_sides (M : ps_M) (a0 : Nat) : Option (Int32 × ps_M) := ps_ck M a0 9 (ps_b2 (f_X10_isPair M a0 ) (fun xv1 M => if xv1 = 0 then (some ((-1000000003 : Int32), M)) else (ps_ck M a0 9 (ps_b1 (f_X10_remember M a0 ) (fun M => ps_gR M a0 9 0 (fun av3 => ps_aI M av3 (16 : Int32) (fun xv4 => ps_gR M a0 9 0 (fun av5 => ps_gR M a0 9 0 (fun av6 => ps_aI M av6 (17 : Int32) (fun xv7 => ps_xI M av5 (16 : Int32) xv7 (fun M => ps_gR M a0 9 0 (fun av8 => ps_xI M av8 (17 : Int32) xv4 (fun M => ps_gR M a0 9 0 (fun av9 => ps_aI M av9 (16 : Int32) (fun xv10 => some (xv10, M))))))))))))))))
set_option maxRecDepth 100000 in
set_option maxHeartbeats 4000000 in
theorem kb_X10_sides (C : ps_C p s m args meth c cX10_sides 2 RX10 ((some .int)) "sides" D Y B) {q : Int32 × ps_M}  {M : ps_M} {a0 : Nat} (hF : f_X10_sides M a0 = some q) (hW : ps_W D Y B M H) (hS : va_S (fun q => B ≤ q) s.heap H locs) (hl : lv_has ls 2 [(0, .ref (B + a0))]) : W p l e rm_X10_sides s m args below meth c H locs 0 0 (ps_Qi D Y B below args s 0 0 q) (F0 m 0 ls []) := by
  have hx := C.1
  have hb := C.2.1
  have hml := C.2.2.1
  have hown := C.2.2.2.1
  have hts := C.2.2.2.2.1
  unfold f_X10_sides at hF
  refine lv_aload_n hx hb dX10_sides_0 rfl (lv_at hl 0 rfl) ?_
  obtain ⟨hK, hF⟩ := ps_ck_some hF
  obtain ⟨xv1, M9, hc, hF⟩ := ps_b2_some hF
  refine ps_backI (x0 := xv1) (M' := M9) hS (ps_callV C hW pc_9 mf_X10_isPair tq_1120 tq_41 tq_1118 ⟨Nat.le_of_ble_eq_true rfl, Nat.le_of_ble_eq_true rfl⟩ rfl rfl (As := []) (rest := []) (c_X10_isPair hc) hK rfl hl.1 rfl (Nat.le_of_ble_eq_true rfl) dX10_sides_1 ⟨Nat.le_of_ble_eq_true rfl, Nat.le_of_ble_eq_true rfl⟩) (fun H locs hW hS => ?_)
  clear hc
  generalize M9 = M at hW hF
  refine lv_if_ne (tgt := 10) hx hb dX10_sides_4 (by decide) (fun hv2 => ?_) (fun hv2 => ?_)
  · replace hF := (if_neg hv2).symm.trans hF
    refine lv_aload_n hx hb dX10_sides_10 rfl (lv_at hl 0 rfl) ?_
    obtain ⟨hK, hF⟩ := ps_ck_some hF
    obtain ⟨M9, hc, hF⟩ := ps_b1_some hF
    refine ps_backV (M' := M9) hS (ps_callV C hW pc_9 mf_X10_remember tq_1124 tq_42 tq_1122 ⟨Nat.le_of_ble_eq_true rfl, Nat.le_of_ble_eq_true rfl⟩ rfl rfl (As := []) (rest := []) (c_X10_remember hc) hK rfl hl.1 rfl (Nat.le_of_ble_eq_true rfl) dX10_sides_11 ⟨Nat.le_of_ble_eq_true rfl, Nat.le_of_ble_eq_true rfl⟩) (fun H locs hW hS => ?_)
    clear hc
    generalize M9 = M at hW hF
    refine lv_aload_n hx hb dX10_sides_14 rfl (lv_at hl 0 rfl) ?_
    refine pw_gR C hW pc_9 (k := 0) (by decide) rfl tq_918 dX10_sides_15 hF (fun av3 hF => ?_)
    refine lv_bipush (v := 16) hx hb dX10_sides_18 (by decide) ?_
    refine pw_aI C hW dX10_sides_20 hF (fun xv4 hF => ?_)
    refine lv_istore_n (lv' := [(1, .int xv4), (0, .ref (B + a0))]) hx hb dX10_sides_21 rfl hl (by decide) rfl (fun ls hl => ?_)
    refine lv_aload_n hx hb dX10_sides_22 rfl (lv_at hl 1 rfl) ?_
    refine pw_gR C hW pc_9 (k := 0) (by decide) rfl tq_918 dX10_sides_23 hF (fun av5 hF => ?_)
    refine lv_bipush (v := 16) hx hb dX10_sides_26 (by decide) ?_
    refine lv_aload_n hx hb dX10_sides_28 rfl (lv_at hl 1 rfl) ?_
    refine pw_gR C hW pc_9 (k := 0) (by decide) rfl tq_918 dX10_sides_29 hF (fun av6 hF => ?_)
    refine lv_bipush (v := 17) hx hb dX10_sides_32 (by decide) ?_
    refine pw_aI C hW dX10_sides_34 hF (fun xv7 hF => ?_)
    refine pw_xI C hW hS dX10_sides_35 hF (fun M H locs hW hS hF => ?_)
    refine lv_aload_n hx hb dX10_sides_36 rfl (lv_at hl 1 rfl) ?_
    refine pw_gR C hW pc_9 (k := 0) (by decide) rfl tq_918 dX10_sides_37 hF (fun av8 hF => ?_)
    refine lv_bipush (v := 17) hx hb dX10_sides_40 (by decide) ?_
    refine lv_iload_n hx hb dX10_sides_42 rfl (lv_at hl 0 rfl) ?_
    refine pw_xI C hW hS dX10_sides_43 hF (fun M H locs hW hS hF => ?_)
    refine lv_aload_n hx hb dX10_sides_44 rfl (lv_at hl 1 rfl) ?_
    refine pw_gR C hW pc_9 (k := 0) (by decide) rfl tq_918 dX10_sides_45 hF (fun av9 hF => ?_)
    refine lv_bipush (v := 16) hx hb dX10_sides_48 (by decide) ?_
    refine pw_aI C hW dX10_sides_50 hF (fun xv10 hF => ?_)
    exact pw_iret C hW hS dX10_sides_51 hF
  · replace hF := (if_pos hv2).symm.trans hF
    refine lv_ldc (v := -1000000003) hx hb hown (hts _ tq_1112) dX10_sides_7 ?_
    exact pw_iret C hW hS dX10_sides_9 hF
theorem mf_X10_sides : ps_mf yX10_sides cX10_sides 2 ((some .int)) 0 := ⟨tq_1158, tq_71, by decide +kernel, by decide +kernel, by decide +kernel⟩
theorem c_X10_sides {l : Launch} {D : va_G} {Y : ps_A} {B : Nat} {M : ps_M} {a0 : Nat} {r : Int32} {M' : ps_M} (hF : f_X10_sides M a0 = some (r, M')) : Met l yX10_sides (Cond.code yX10_sides cX10_sides 2 ((some .int)) :: tb_G) rm_X10_sides (ps_PB D Y B M [.ref (B + a0)]) (va_Qi (fun x (_ : Unit) => x = r) (fun _ t => ps_St D Y B M' t) (fun q => B ≤ q)) 0 0 (fun q => B ≤ q) :=
  pm_of (by decide +kernel) (Nat.le_of_ble_eq_true rfl) (fun p e s m args below meth c C hW hS ls hl => kb_X10_sides C hF hW hS hl)

abbrev rm_X10_oil : Room := { frames := 2, cells := 0, slots := 0, locals := 44 }
def f_X10_oil_b26 (M : ps_M) (a0 : Nat) (x1 : Int32) : Option (Int32 × ps_M) := ps_gR M a0 9 0 (fun av1 => ps_xI M av1 (22 : Int32) (0 : Int32) (fun M => some (x1, M)))
def f_X10_oil (M : ps_M) (a0 : Nat) : Option (Int32 × ps_M) := ps_ck M a0 9 (ps_b2 (f_X10_isPair M a0 ) (fun xv2 M => if xv2 = 0 then (some ((-1000000003 : Int32), M)) else (ps_gR M a0 9 0 (fun av4 => ps_aI M av4 (22 : Int32) (fun xv5 => if xv5 ≤ 0 then (f_X10_oil_b26 M a0 xv5) else (ps_ck M a0 9 (ps_b1 (f_X10_remember M a0 ) (fun M => f_X10_oil_b26 M a0 xv5))))))))
set_option maxRecDepth 100000 in
set_option maxHeartbeats 4000000 in
theorem kb_X10_oil_b26 (C : ps_C p s m args meth c cX10_oil 2 RX10 ((some .int)) "oil" D Y B) {q : Int32 × ps_M}  {M : ps_M} {a0 : Nat} {x1 : Int32} (hF : f_X10_oil_b26 M a0 x1 = some q) (hW : ps_W D Y B M H) (hS : va_S (fun q => B ≤ q) s.heap H locs) (hl : lv_has ls 2 [(0, .ref (B + a0)), (1, .int x1)]) : W p l e rm_X10_oil s m args below meth c H locs 0 0 (ps_Qi D Y B below args s 0 0 q) (F0 m 26 ls []) := by
  have hx := C.1
  have hb := C.2.1
  have hml := C.2.2.1
  have hown := C.2.2.2.1
  have hts := C.2.2.2.2.1
  unfold f_X10_oil_b26 at hF
  refine lv_aload_n hx hb dX10_oil_26 rfl (lv_at hl 0 rfl) ?_
  refine pw_gR C hW pc_9 (k := 0) (by decide) rfl tq_918 dX10_oil_27 hF (fun av1 hF => ?_)
  refine lv_bipush (v := 22) hx hb dX10_oil_30 (by decide) ?_
  refine lv_iconst (v := 0) hx hb dX10_oil_32 (by decide) ?_
  refine pw_xI C hW hS dX10_oil_33 hF (fun M H locs hW hS hF => ?_)
  refine lv_iload_n hx hb dX10_oil_34 rfl (lv_at hl 1 rfl) ?_
  exact pw_iret C hW hS dX10_oil_35 hF
set_option maxRecDepth 100000 in
set_option maxHeartbeats 4000000 in
theorem kb_X10_oil (C : ps_C p s m args meth c cX10_oil 2 RX10 ((some .int)) "oil" D Y B) {q : Int32 × ps_M}  {M : ps_M} {a0 : Nat} (hF : f_X10_oil M a0 = some q) (hW : ps_W D Y B M H) (hS : va_S (fun q => B ≤ q) s.heap H locs) (hl : lv_has ls 2 [(0, .ref (B + a0))]) : W p l e rm_X10_oil s m args below meth c H locs 0 0 (ps_Qi D Y B below args s 0 0 q) (F0 m 0 ls []) := by
  have hx := C.1
  have hb := C.2.1
  have hml := C.2.2.1
  have hown := C.2.2.2.1
  have hts := C.2.2.2.2.1
  unfold f_X10_oil at hF
  refine lv_aload_n hx hb dX10_oil_0 rfl (lv_at hl 0 rfl) ?_
  obtain ⟨hK, hF⟩ := ps_ck_some hF
  obtain ⟨xv2, M9, hc, hF⟩ := ps_b2_some hF
  refine ps_backI (x0 := xv2) (M' := M9) hS (ps_callV C hW pc_9 mf_X10_isPair tq_1120 tq_41 tq_1118 ⟨Nat.le_of_ble_eq_true rfl, Nat.le_of_ble_eq_true rfl⟩ rfl rfl (As := []) (rest := []) (c_X10_isPair hc) hK rfl hl.1 rfl (Nat.le_of_ble_eq_true rfl) dX10_oil_1 ⟨Nat.le_of_ble_eq_true rfl, Nat.le_of_ble_eq_true rfl⟩) (fun H locs hW hS => ?_)
  clear hc
  generalize M9 = M at hW hF
  refine lv_if_ne (tgt := 10) hx hb dX10_oil_4 (by decide) (fun hv3 => ?_) (fun hv3 => ?_)
  · replace hF := (if_neg hv3).symm.trans hF
    refine lv_aload_n hx hb dX10_oil_10 rfl (lv_at hl 0 rfl) ?_
    refine pw_gR C hW pc_9 (k := 0) (by decide) rfl tq_918 dX10_oil_11 hF (fun av4 hF => ?_)
    refine lv_bipush (v := 22) hx hb dX10_oil_14 (by decide) ?_
    refine pw_aI C hW dX10_oil_16 hF (fun xv5 hF => ?_)
    refine lv_istore_n (lv' := [(1, .int xv5), (0, .ref (B + a0))]) hx hb dX10_oil_17 rfl hl (by decide) rfl (fun ls hl => ?_)
    refine lv_iload_n hx hb dX10_oil_18 rfl (lv_at hl 0 rfl) ?_
    refine lv_if_le (tgt := 26) hx hb dX10_oil_19 (by decide) (fun hv6 => ?_) (fun hv6 => ?_)
    · replace hF := (if_pos hv6).symm.trans hF
      exact kb_X10_oil_b26 C hF hW hS (lv_sub hl [1, 0] rfl)
    · replace hF := (if_neg hv6).symm.trans hF
      refine lv_aload_n hx hb dX10_oil_22 rfl (lv_at hl 1 rfl) ?_
      obtain ⟨hK, hF⟩ := ps_ck_some hF
      obtain ⟨M9, hc, hF⟩ := ps_b1_some hF
      refine ps_backV (M' := M9) hS (ps_callV C hW pc_9 mf_X10_remember tq_1124 tq_42 tq_1122 ⟨Nat.le_of_ble_eq_true rfl, Nat.le_of_ble_eq_true rfl⟩ rfl rfl (As := []) (rest := []) (c_X10_remember hc) hK rfl hl.1 rfl (Nat.le_of_ble_eq_true rfl) dX10_oil_23 ⟨Nat.le_of_ble_eq_true rfl, Nat.le_of_ble_eq_true rfl⟩) (fun H locs hW hS => ?_)
      clear hc
      generalize M9 = M at hW hF
      exact kb_X10_oil_b26 C hF hW hS (lv_sub hl [1, 0] rfl)
  · replace hF := (if_pos hv3).symm.trans hF
    refine lv_ldc (v := -1000000003) hx hb hown (hts _ tq_1112) dX10_oil_7 ?_
    exact pw_iret C hW hS dX10_oil_9 hF
theorem mf_X10_oil : ps_mf yX10_oil cX10_oil 2 ((some .int)) 0 := ⟨tq_1162, tq_71, by decide +kernel, by decide +kernel, by decide +kernel⟩
theorem c_X10_oil {l : Launch} {D : va_G} {Y : ps_A} {B : Nat} {M : ps_M} {a0 : Nat} {r : Int32} {M' : ps_M} (hF : f_X10_oil M a0 = some (r, M')) : Met l yX10_oil (Cond.code yX10_oil cX10_oil 2 ((some .int)) :: tb_G) rm_X10_oil (ps_PB D Y B M [.ref (B + a0)]) (va_Qi (fun x (_ : Unit) => x = r) (fun _ t => ps_St D Y B M' t) (fun q => B ≤ q)) 0 0 (fun q => B ≤ q) :=
  pm_of (by decide +kernel) (Nat.le_of_ble_eq_true rfl) (fun p e s m args below meth c C hW hS ls hl => kb_X10_oil C hF hW hS hl)

abbrev rm_X10_wedge : Room := { frames := 2, cells := 0, slots := 0, locals := 44 }
def f_X10_wedge_b18 (M : ps_M)  : Option (Int32 × ps_M) := some ((-1000000003 : Int32), M)
def f_X10_wedge (M : ps_M) (a0 : Nat) : Option (Int32 × ps_M) := ps_ck M a0 9 (ps_b2 (f_X10_isPair M a0 ) (fun xv1 M => if xv1 = 0 then (f_X10_wedge_b18 M ) else (ps_gR M a0 9 0 (fun av3 => ps_aI M av3 (23 : Int32) (fun xv4 => if xv4 = (1 : Int32) then (f_X10_wedge_b18 M ) else (ps_ck M a0 9 (ps_b1 (f_X10_remember M a0 ) (fun M => ps_gR M a0 9 0 (fun av6 => ps_xI M av6 (23 : Int32) (1 : Int32) (fun M => ps_gR M a0 9 0 (fun av7 => ps_aI M av7 (20 : Int32) (fun xv8 => ps_xI M av7 (20 : Int32) (xv8 + (3 : Int32)) (fun M => ps_gR M a0 9 0 (fun av9 => ps_aI M av9 (20 : Int32) (fun xv10 => some (xv10, M))))))))))))))))
set_option maxRecDepth 100000 in
set_option maxHeartbeats 4000000 in
theorem kb_X10_wedge_b18 (C : ps_C p s m args meth c cX10_wedge 1 RX10 ((some .int)) "wedge" D Y B) {q : Int32 × ps_M}  {M : ps_M}  (hF : f_X10_wedge_b18 M  = some q) (hW : ps_W D Y B M H) (hS : va_S (fun q => B ≤ q) s.heap H locs) (hl : lv_has ls 1 []) : W p l e rm_X10_wedge s m args below meth c H locs 0 0 (ps_Qi D Y B below args s 0 0 q) (F0 m 18 ls []) := by
  have hx := C.1
  have hb := C.2.1
  have hml := C.2.2.1
  have hown := C.2.2.2.1
  have hts := C.2.2.2.2.1
  unfold f_X10_wedge_b18 at hF
  refine lv_ldc (v := -1000000003) hx hb hown (hts _ tq_1112) dX10_wedge_18 ?_
  exact pw_iret C hW hS dX10_wedge_20 hF
set_option maxRecDepth 100000 in
set_option maxHeartbeats 4000000 in
theorem kb_X10_wedge (C : ps_C p s m args meth c cX10_wedge 1 RX10 ((some .int)) "wedge" D Y B) {q : Int32 × ps_M}  {M : ps_M} {a0 : Nat} (hF : f_X10_wedge M a0 = some q) (hW : ps_W D Y B M H) (hS : va_S (fun q => B ≤ q) s.heap H locs) (hl : lv_has ls 1 [(0, .ref (B + a0))]) : W p l e rm_X10_wedge s m args below meth c H locs 0 0 (ps_Qi D Y B below args s 0 0 q) (F0 m 0 ls []) := by
  have hx := C.1
  have hb := C.2.1
  have hml := C.2.2.1
  have hown := C.2.2.2.1
  have hts := C.2.2.2.2.1
  unfold f_X10_wedge at hF
  refine lv_aload_n hx hb dX10_wedge_0 rfl (lv_at hl 0 rfl) ?_
  obtain ⟨hK, hF⟩ := ps_ck_some hF
  obtain ⟨xv1, M9, hc, hF⟩ := ps_b2_some hF
  refine ps_backI (x0 := xv1) (M' := M9) hS (ps_callV C hW pc_9 mf_X10_isPair tq_1120 tq_41 tq_1118 ⟨Nat.le_of_ble_eq_true rfl, Nat.le_of_ble_eq_true rfl⟩ rfl rfl (As := []) (rest := []) (c_X10_isPair hc) hK rfl hl.1 rfl (Nat.le_of_ble_eq_true rfl) dX10_wedge_1 ⟨Nat.le_of_ble_eq_true rfl, Nat.le_of_ble_eq_true rfl⟩) (fun H locs hW hS => ?_)
  clear hc
  generalize M9 = M at hW hF
  refine lv_if_eq (tgt := 18) hx hb dX10_wedge_4 (by decide) (fun hv2 => ?_) (fun hv2 => ?_)
  · replace hF := (if_pos hv2).symm.trans hF
    exact kb_X10_wedge_b18 C hF hW hS (lv_sub hl [] rfl)
  · replace hF := (if_neg hv2).symm.trans hF
    refine lv_aload_n hx hb dX10_wedge_7 rfl (lv_at hl 0 rfl) ?_
    refine pw_gR C hW pc_9 (k := 0) (by decide) rfl tq_918 dX10_wedge_8 hF (fun av3 hF => ?_)
    refine lv_bipush (v := 23) hx hb dX10_wedge_11 (by decide) ?_
    refine pw_aI C hW dX10_wedge_13 hF (fun xv4 hF => ?_)
    refine lv_iconst (v := 1) hx hb dX10_wedge_14 (by decide) ?_
    refine lv_icmp_ne (tgt := 21) hx hb dX10_wedge_15 (by decide) (fun hv5 => ?_) (fun hv5 => ?_)
    · replace hF := (if_neg hv5).symm.trans hF
      refine lv_aload_n hx hb dX10_wedge_21 rfl (lv_at hl 0 rfl) ?_
      obtain ⟨hK, hF⟩ := ps_ck_some hF
      obtain ⟨M9, hc, hF⟩ := ps_b1_some hF
      refine ps_backV (M' := M9) hS (ps_callV C hW pc_9 mf_X10_remember tq_1124 tq_42 tq_1122 ⟨Nat.le_of_ble_eq_true rfl, Nat.le_of_ble_eq_true rfl⟩ rfl rfl (As := []) (rest := []) (c_X10_remember hc) hK rfl hl.1 rfl (Nat.le_of_ble_eq_true rfl) dX10_wedge_22 ⟨Nat.le_of_ble_eq_true rfl, Nat.le_of_ble_eq_true rfl⟩) (fun H locs hW hS => ?_)
      clear hc
      generalize M9 = M at hW hF
      refine lv_aload_n hx hb dX10_wedge_25 rfl (lv_at hl 0 rfl) ?_
      refine pw_gR C hW pc_9 (k := 0) (by decide) rfl tq_918 dX10_wedge_26 hF (fun av6 hF => ?_)
      refine lv_bipush (v := 23) hx hb dX10_wedge_29 (by decide) ?_
      refine lv_iconst (v := 1) hx hb dX10_wedge_31 (by decide) ?_
      refine pw_xI C hW hS dX10_wedge_32 hF (fun M H locs hW hS hF => ?_)
      refine lv_aload_n hx hb dX10_wedge_33 rfl (lv_at hl 0 rfl) ?_
      refine pw_gR C hW pc_9 (k := 0) (by decide) rfl tq_918 dX10_wedge_34 hF (fun av7 hF => ?_)
      refine lv_bipush (v := 20) hx hb dX10_wedge_37 (by decide) ?_
      refine lv_dup2_11 hx hb dX10_wedge_39 rfl rfl ?_
      refine pw_aI C hW dX10_wedge_40 hF (fun xv8 hF => ?_)
      refine lv_iconst (v := 3) hx hb dX10_wedge_41 (by decide) ?_
      refine lv_iadd hx hb dX10_wedge_42 ?_
      refine pw_xI C hW hS dX10_wedge_43 hF (fun M H locs hW hS hF => ?_)
      refine lv_aload_n hx hb dX10_wedge_44 rfl (lv_at hl 0 rfl) ?_
      refine pw_gR C hW pc_9 (k := 0) (by decide) rfl tq_918 dX10_wedge_45 hF (fun av9 hF => ?_)
      refine lv_bipush (v := 20) hx hb dX10_wedge_48 (by decide) ?_
      refine pw_aI C hW dX10_wedge_50 hF (fun xv10 hF => ?_)
      exact pw_iret C hW hS dX10_wedge_51 hF
    · replace hF := (if_pos hv5).symm.trans hF
      exact kb_X10_wedge_b18 C hF hW hS (lv_sub hl [] rfl)
theorem mf_X10_wedge : ps_mf yX10_wedge cX10_wedge 1 ((some .int)) 0 := ⟨tq_1166, tq_71, by decide +kernel, by decide +kernel, by decide +kernel⟩
theorem c_X10_wedge {l : Launch} {D : va_G} {Y : ps_A} {B : Nat} {M : ps_M} {a0 : Nat} {r : Int32} {M' : ps_M} (hF : f_X10_wedge M a0 = some (r, M')) : Met l yX10_wedge (Cond.code yX10_wedge cX10_wedge 1 ((some .int)) :: tb_G) rm_X10_wedge (ps_PB D Y B M [.ref (B + a0)]) (va_Qi (fun x (_ : Unit) => x = r) (fun _ t => ps_St D Y B M' t) (fun q => B ≤ q)) 0 0 (fun q => B ≤ q) :=
  pm_of (by decide +kernel) (Nat.le_of_ble_eq_true rfl) (fun p e s m args below meth c C hW hS ls hl => kb_X10_wedge C hF hW hS hl)

abbrev rm_X10_file : Room := { frames := 2, cells := 0, slots := 0, locals := 44 }
def f_X10_file_b19 (M : ps_M)  : Option (Int32 × ps_M) := some ((-1000000003 : Int32), M)
def f_X10_file (M : ps_M) (a0 : Nat) : Option (Int32 × ps_M) := ps_ck M a0 9 (ps_b2 (f_X10_isPair M a0 ) (fun xv1 M => if xv1 = 0 then (f_X10_file_b19 M ) else (ps_gR M a0 9 0 (fun av3 => ps_aI M av3 (24 : Int32) (fun xv4 => if xv4 = (9 : Int32) then (f_X10_file_b19 M ) else (ps_ck M a0 9 (ps_b1 (f_X10_remember M a0 ) (fun M => ps_gR M a0 9 0 (fun av6 => ps_aI M av6 (24 : Int32) (fun xv7 => ps_xI M av6 (24 : Int32) (xv7 + (1 : Int32)) (fun M => ps_gR M a0 9 0 (fun av8 => ps_aI M av8 (20 : Int32) (fun xv9 => ps_xI M av8 (20 : Int32) (xv9 + (20 : Int32)) (fun M => ps_gR M a0 9 0 (fun av10 => ps_aI M av10 (24 : Int32) (fun xv11 => some (xv11, M)))))))))))))))))
set_option maxRecDepth 100000 in
set_option maxHeartbeats 4000000 in
theorem kb_X10_file_b19 (C : ps_C p s m args meth c cX10_file 1 RX10 ((some .int)) "file" D Y B) {q : Int32 × ps_M}  {M : ps_M}  (hF : f_X10_file_b19 M  = some q) (hW : ps_W D Y B M H) (hS : va_S (fun q => B ≤ q) s.heap H locs) (hl : lv_has ls 1 []) : W p l e rm_X10_file s m args below meth c H locs 0 0 (ps_Qi D Y B below args s 0 0 q) (F0 m 19 ls []) := by
  have hx := C.1
  have hb := C.2.1
  have hml := C.2.2.1
  have hown := C.2.2.2.1
  have hts := C.2.2.2.2.1
  unfold f_X10_file_b19 at hF
  refine lv_ldc (v := -1000000003) hx hb hown (hts _ tq_1112) dX10_file_19 ?_
  exact pw_iret C hW hS dX10_file_21 hF
set_option maxRecDepth 100000 in
set_option maxHeartbeats 4000000 in
theorem kb_X10_file (C : ps_C p s m args meth c cX10_file 1 RX10 ((some .int)) "file" D Y B) {q : Int32 × ps_M}  {M : ps_M} {a0 : Nat} (hF : f_X10_file M a0 = some q) (hW : ps_W D Y B M H) (hS : va_S (fun q => B ≤ q) s.heap H locs) (hl : lv_has ls 1 [(0, .ref (B + a0))]) : W p l e rm_X10_file s m args below meth c H locs 0 0 (ps_Qi D Y B below args s 0 0 q) (F0 m 0 ls []) := by
  have hx := C.1
  have hb := C.2.1
  have hml := C.2.2.1
  have hown := C.2.2.2.1
  have hts := C.2.2.2.2.1
  unfold f_X10_file at hF
  refine lv_aload_n hx hb dX10_file_0 rfl (lv_at hl 0 rfl) ?_
  obtain ⟨hK, hF⟩ := ps_ck_some hF
  obtain ⟨xv1, M9, hc, hF⟩ := ps_b2_some hF
  refine ps_backI (x0 := xv1) (M' := M9) hS (ps_callV C hW pc_9 mf_X10_isPair tq_1120 tq_41 tq_1118 ⟨Nat.le_of_ble_eq_true rfl, Nat.le_of_ble_eq_true rfl⟩ rfl rfl (As := []) (rest := []) (c_X10_isPair hc) hK rfl hl.1 rfl (Nat.le_of_ble_eq_true rfl) dX10_file_1 ⟨Nat.le_of_ble_eq_true rfl, Nat.le_of_ble_eq_true rfl⟩) (fun H locs hW hS => ?_)
  clear hc
  generalize M9 = M at hW hF
  refine lv_if_eq (tgt := 19) hx hb dX10_file_4 (by decide) (fun hv2 => ?_) (fun hv2 => ?_)
  · replace hF := (if_pos hv2).symm.trans hF
    exact kb_X10_file_b19 C hF hW hS (lv_sub hl [] rfl)
  · replace hF := (if_neg hv2).symm.trans hF
    refine lv_aload_n hx hb dX10_file_7 rfl (lv_at hl 0 rfl) ?_
    refine pw_gR C hW pc_9 (k := 0) (by decide) rfl tq_918 dX10_file_8 hF (fun av3 hF => ?_)
    refine lv_bipush (v := 24) hx hb dX10_file_11 (by decide) ?_
    refine pw_aI C hW dX10_file_13 hF (fun xv4 hF => ?_)
    refine lv_bipush (v := 9) hx hb dX10_file_14 (by decide) ?_
    refine lv_icmp_ne (tgt := 22) hx hb dX10_file_16 (by decide) (fun hv5 => ?_) (fun hv5 => ?_)
    · replace hF := (if_neg hv5).symm.trans hF
      refine lv_aload_n hx hb dX10_file_22 rfl (lv_at hl 0 rfl) ?_
      obtain ⟨hK, hF⟩ := ps_ck_some hF
      obtain ⟨M9, hc, hF⟩ := ps_b1_some hF
      refine ps_backV (M' := M9) hS (ps_callV C hW pc_9 mf_X10_remember tq_1124 tq_42 tq_1122 ⟨Nat.le_of_ble_eq_true rfl, Nat.le_of_ble_eq_true rfl⟩ rfl rfl (As := []) (rest := []) (c_X10_remember hc) hK rfl hl.1 rfl (Nat.le_of_ble_eq_true rfl) dX10_file_23 ⟨Nat.le_of_ble_eq_true rfl, Nat.le_of_ble_eq_true rfl⟩) (fun H locs hW hS => ?_)
      clear hc
      generalize M9 = M at hW hF
      refine lv_aload_n hx hb dX10_file_26 rfl (lv_at hl 0 rfl) ?_
      refine pw_gR C hW pc_9 (k := 0) (by decide) rfl tq_918 dX10_file_27 hF (fun av6 hF => ?_)
      refine lv_bipush (v := 24) hx hb dX10_file_30 (by decide) ?_
      refine lv_dup2_11 hx hb dX10_file_32 rfl rfl ?_
      refine pw_aI C hW dX10_file_33 hF (fun xv7 hF => ?_)
      refine lv_iconst (v := 1) hx hb dX10_file_34 (by decide) ?_
      refine lv_iadd hx hb dX10_file_35 ?_
      refine pw_xI C hW hS dX10_file_36 hF (fun M H locs hW hS hF => ?_)
      refine lv_aload_n hx hb dX10_file_37 rfl (lv_at hl 0 rfl) ?_
      refine pw_gR C hW pc_9 (k := 0) (by decide) rfl tq_918 dX10_file_38 hF (fun av8 hF => ?_)
      refine lv_bipush (v := 20) hx hb dX10_file_41 (by decide) ?_
      refine lv_dup2_11 hx hb dX10_file_43 rfl rfl ?_
      refine pw_aI C hW dX10_file_44 hF (fun xv9 hF => ?_)
      refine lv_bipush (v := 20) hx hb dX10_file_45 (by decide) ?_
      refine lv_iadd hx hb dX10_file_47 ?_
      refine pw_xI C hW hS dX10_file_48 hF (fun M H locs hW hS hF => ?_)
      refine lv_aload_n hx hb dX10_file_49 rfl (lv_at hl 0 rfl) ?_
      refine pw_gR C hW pc_9 (k := 0) (by decide) rfl tq_918 dX10_file_50 hF (fun av10 hF => ?_)
      refine lv_bipush (v := 24) hx hb dX10_file_53 (by decide) ?_
      refine pw_aI C hW dX10_file_55 hF (fun xv11 hF => ?_)
      exact pw_iret C hW hS dX10_file_56 hF
    · replace hF := (if_pos hv5).symm.trans hF
      exact kb_X10_file_b19 C hF hW hS (lv_sub hl [] rfl)
theorem mf_X10_file : ps_mf yX10_file cX10_file 1 ((some .int)) 0 := ⟨tq_1170, tq_71, by decide +kernel, by decide +kernel, by decide +kernel⟩
theorem c_X10_file {l : Launch} {D : va_G} {Y : ps_A} {B : Nat} {M : ps_M} {a0 : Nat} {r : Int32} {M' : ps_M} (hF : f_X10_file M a0 = some (r, M')) : Met l yX10_file (Cond.code yX10_file cX10_file 1 ((some .int)) :: tb_G) rm_X10_file (ps_PB D Y B M [.ref (B + a0)]) (va_Qi (fun x (_ : Unit) => x = r) (fun _ t => ps_St D Y B M' t) (fun q => B ≤ q)) 0 0 (fun q => B ≤ q) :=
  pm_of (by decide +kernel) (Nat.le_of_ble_eq_true rfl) (fun p e s m args below meth c C hW hS ls hl => kb_X10_file C hF hW hS hl)

abbrev rm_X10_become : Room := { frames := 2, cells := 0, slots := 0, locals := 44 }
def f_X10_become_b16 (M : ps_M) (a0 : Nat) (x1 : Int32) (x2 : Int32) (x3 : Int32) : Option (Int32 × ps_M) := ps_gR M a0 9 0 (fun av1 => ps_xI M av1 x1 x2 (fun M => some (x3, M)))
def f_X10_become (M : ps_M) (a0 : Nat) (x1 : Int32) (x2 : Int32) : Option (Int32 × ps_M) := ps_gR M a0 9 0 (fun av2 => ps_aI M av2 x1 (fun xv3 => if xv3 = x2 then (f_X10_become_b16 M a0 x1 x2 xv3) else (ps_ck M a0 9 (ps_b1 (f_X10_remember M a0 ) (fun M => f_X10_become_b16 M a0 x1 x2 xv3)))))
set_option maxRecDepth 100000 in
set_option maxHeartbeats 4000000 in
theorem kb_X10_become_b16 (C : ps_C p s m args meth c cX10_become 4 RX10 ((some .int)) "become" D Y B) {q : Int32 × ps_M}  {M : ps_M} {a0 : Nat} {x1 : Int32} {x2 : Int32} {x3 : Int32} (hF : f_X10_become_b16 M a0 x1 x2 x3 = some q) (hW : ps_W D Y B M H) (hS : va_S (fun q => B ≤ q) s.heap H locs) (hl : lv_has ls 4 [(0, .ref (B + a0)), (1, .int x1), (2, .int x2), (3, .int x3)]) : W p l e rm_X10_become s m args below meth c H locs 0 0 (ps_Qi D Y B below args s 0 0 q) (F0 m 16 ls []) := by
  have hx := C.1
  have hb := C.2.1
  have hml := C.2.2.1
  have hown := C.2.2.2.1
  have hts := C.2.2.2.2.1
  unfold f_X10_become_b16 at hF
  refine lv_aload_n hx hb dX10_become_16 rfl (lv_at hl 0 rfl) ?_
  refine pw_gR C hW pc_9 (k := 0) (by decide) rfl tq_918 dX10_become_17 hF (fun av1 hF => ?_)
  refine lv_iload_n hx hb dX10_become_20 rfl (lv_at hl 1 rfl) ?_
  refine lv_iload_n hx hb dX10_become_21 rfl (lv_at hl 2 rfl) ?_
  refine pw_xI C hW hS dX10_become_22 hF (fun M H locs hW hS hF => ?_)
  refine lv_iload_n hx hb dX10_become_23 rfl (lv_at hl 3 rfl) ?_
  exact pw_iret C hW hS dX10_become_24 hF
set_option maxRecDepth 100000 in
set_option maxHeartbeats 4000000 in
theorem kb_X10_become (C : ps_C p s m args meth c cX10_become 4 RX10 ((some .int)) "become" D Y B) {q : Int32 × ps_M}  {M : ps_M} {a0 : Nat} {x1 : Int32} {x2 : Int32} (hF : f_X10_become M a0 x1 x2 = some q) (hW : ps_W D Y B M H) (hS : va_S (fun q => B ≤ q) s.heap H locs) (hl : lv_has ls 4 [(0, .ref (B + a0)), (1, .int x1), (2, .int x2)]) : W p l e rm_X10_become s m args below meth c H locs 0 0 (ps_Qi D Y B below args s 0 0 q) (F0 m 0 ls []) := by
  have hx := C.1
  have hb := C.2.1
  have hml := C.2.2.1
  have hown := C.2.2.2.1
  have hts := C.2.2.2.2.1
  unfold f_X10_become at hF
  refine lv_aload_n hx hb dX10_become_0 rfl (lv_at hl 0 rfl) ?_
  refine pw_gR C hW pc_9 (k := 0) (by decide) rfl tq_918 dX10_become_1 hF (fun av2 hF => ?_)
  refine lv_iload_n hx hb dX10_become_4 rfl (lv_at hl 1 rfl) ?_
  refine pw_aI C hW dX10_become_5 hF (fun xv3 hF => ?_)
  refine lv_istore_n (lv' := [(3, .int xv3), (0, .ref (B + a0)), (1, .int x1), (2, .int x2)]) hx hb dX10_become_6 rfl hl (by decide) rfl (fun ls hl => ?_)
  refine lv_iload_n hx hb dX10_become_7 rfl (lv_at hl 0 rfl) ?_
  refine lv_iload_n hx hb dX10_become_8 rfl (lv_at hl 3 rfl) ?_
  refine lv_icmp_eq (tgt := 16) hx hb dX10_become_9 (by decide) (fun hv4 => ?_) (fun hv4 => ?_)
  · replace hF := (if_pos hv4).symm.trans hF
    exact kb_X10_become_b16 C hF hW hS (lv_sub hl [1, 2, 3, 0] rfl)
  · replace hF := (if_neg hv4).symm.trans hF
    refine lv_aload_n hx hb dX10_become_12 rfl (lv_at hl 1 rfl) ?_
    obtain ⟨hK, hF⟩ := ps_ck_some hF
    obtain ⟨M9, hc, hF⟩ := ps_b1_some hF
    refine ps_backV (M' := M9) hS (ps_callV C hW pc_9 mf_X10_remember tq_1124 tq_42 tq_1122 ⟨Nat.le_of_ble_eq_true rfl, Nat.le_of_ble_eq_true rfl⟩ rfl rfl (As := []) (rest := []) (c_X10_remember hc) hK rfl hl.1 rfl (Nat.le_of_ble_eq_true rfl) dX10_become_13 ⟨Nat.le_of_ble_eq_true rfl, Nat.le_of_ble_eq_true rfl⟩) (fun H locs hW hS => ?_)
    clear hc
    generalize M9 = M at hW hF
    exact kb_X10_become_b16 C hF hW hS (lv_sub hl [1, 2, 3, 0] rfl)
theorem mf_X10_become : ps_mf yX10_become cX10_become 4 ((some .int)) 2 := ⟨tq_1179, tq_71, by decide +kernel, by decide +kernel, by decide +kernel⟩
theorem c_X10_become {l : Launch} {D : va_G} {Y : ps_A} {B : Nat} {M : ps_M} {a0 : Nat} {x1 : Int32} {x2 : Int32} {r : Int32} {M' : ps_M} (hF : f_X10_become M a0 x1 x2 = some (r, M')) : Met l yX10_become (Cond.code yX10_become cX10_become 4 ((some .int)) :: tb_G) rm_X10_become (ps_PB D Y B M [.ref (B + a0), .int x1, .int x2]) (va_Qi (fun x (_ : Unit) => x = r) (fun _ t => ps_St D Y B M' t) (fun q => B ≤ q)) 0 0 (fun q => B ≤ q) :=
  pm_of (by decide +kernel) (Nat.le_of_ble_eq_true rfl) (fun p e s m args below meth c C hW hS ls hl => kb_X10_become C hF hW hS hl)

abbrev rm_X10_wish : Room := { frames := 3, cells := 0, slots := 0, locals := 67 }
def f_X10_wish_b36 (M : ps_M) (t0 : Int32) : Option (Int32 × ps_M) := some (t0, M)
def f_X10_wish (M : ps_M) (a0 : Nat) (x1 : Int32) (x2 : Int32) : Option (Int32 × ps_M) := ps_ck M a0 9 (ps_b2 (f_X10_isPerson M a0 x1) (fun xv1 M => if xv1 = 0 then (f_X10_wish_b36 M (-1000000001 : Int32)) else (ps_b2 (f_X10_in M (x2.toInt64) (1 : Int64) (20 : Int64)) (fun xv3 M => if xv3 = 0 then (f_X10_wish_b36 M (-1000000002 : Int32)) else (ps_ck M a0 9 (ps_b2 (f_X10_become M a0 x1 x2) (fun xv5 M => f_X10_wish_b36 M xv5)))))))
set_option maxRecDepth 100000 in
set_option maxHeartbeats 4000000 in
theorem kb_X10_wish_b36 (C : ps_C p s m args meth c cX10_wish 3 RX10 ((some .int)) "wish" D Y B) {q : Int32 × ps_M}  {M : ps_M} {t0 : Int32} (hF : f_X10_wish_b36 M t0 = some q) (hW : ps_W D Y B M H) (hS : va_S (fun q => B ≤ q) s.heap H locs) (hl : lv_has ls 3 []) : W p l e rm_X10_wish s m args below meth c H locs 0 0 (ps_Qi D Y B below args s 0 0 q) (F0 m 36 ls [.int t0]) := by
  have hx := C.1
  have hb := C.2.1
  have hml := C.2.2.1
  have hown := C.2.2.2.1
  have hts := C.2.2.2.2.1
  unfold f_X10_wish_b36 at hF
  exact pw_iret C hW hS dX10_wish_36 hF
set_option maxRecDepth 100000 in
set_option maxHeartbeats 4000000 in
theorem kb_X10_wish (C : ps_C p s m args meth c cX10_wish 3 RX10 ((some .int)) "wish" D Y B) {q : Int32 × ps_M}  {M : ps_M} {a0 : Nat} {x1 : Int32} {x2 : Int32} (hF : f_X10_wish M a0 x1 x2 = some q) (hW : ps_W D Y B M H) (hS : va_S (fun q => B ≤ q) s.heap H locs) (hl : lv_has ls 3 [(0, .ref (B + a0)), (1, .int x1), (2, .int x2)]) : W p l e rm_X10_wish s m args below meth c H locs 0 0 (ps_Qi D Y B below args s 0 0 q) (F0 m 0 ls []) := by
  have hx := C.1
  have hb := C.2.1
  have hml := C.2.2.1
  have hown := C.2.2.2.1
  have hts := C.2.2.2.2.1
  unfold f_X10_wish at hF
  refine lv_aload_n hx hb dX10_wish_0 rfl (lv_at hl 0 rfl) ?_
  refine lv_iload_n hx hb dX10_wish_1 rfl (lv_at hl 1 rfl) ?_
  obtain ⟨hK, hF⟩ := ps_ck_some hF
  obtain ⟨xv1, M9, hc, hF⟩ := ps_b2_some hF
  refine ps_backI (x0 := xv1) (M' := M9) hS (ps_callV C hW pc_9 mf_X10_isPerson tq_1106 tq_40 tq_1104 ⟨Nat.le_of_ble_eq_true rfl, Nat.le_of_ble_eq_true rfl⟩ rfl rfl (As := [.int x1]) (rest := []) (c_X10_isPerson hc) hK rfl hl.1 rfl (Nat.le_of_ble_eq_true rfl) dX10_wish_2 ⟨Nat.le_of_ble_eq_true rfl, Nat.le_of_ble_eq_true rfl⟩) (fun H locs hW hS => ?_)
  clear hc
  generalize M9 = M at hW hF
  refine lv_if_ne (tgt := 13) hx hb dX10_wish_5 (by decide) (fun hv2 => ?_) (fun hv2 => ?_)
  · replace hF := (if_neg hv2).symm.trans hF
    refine lv_iload_n hx hb dX10_wish_13 rfl (lv_at hl 2 rfl) ?_
    refine lv_i2l hx hb dX10_wish_14 rfl ?_
    refine lv_lconst (v := 1) hx hb dX10_wish_15 (by decide) ?_
    refine lv_ldc2 (v := 20) hx hb hown (hts _ tq_1175) dX10_wish_16 ?_
    obtain ⟨xv3, M9, hc, hF⟩ := ps_b2_some hF
    refine ps_backI (x0 := xv3) (M' := M9) hS (ps_callS C hW mf_X10_in tq_1031 tq_1030 ⟨Nat.le_of_ble_eq_true rfl, Nat.le_of_ble_eq_true rfl⟩ rfl rfl (As := [.long (x2.toInt64), .long (1 : Int64), .long (20 : Int64)]) (rest := []) (c_X10_in hc) rfl hl.1 rfl (Nat.le_of_ble_eq_true rfl) dX10_wish_19 ⟨Nat.le_of_ble_eq_true rfl, Nat.le_of_ble_eq_true rfl⟩) (fun H locs hW hS => ?_)
    clear hc
    generalize M9 = M at hW hF
    refine lv_if_eq (tgt := 34) hx hb dX10_wish_22 (by decide) (fun hv4 => ?_) (fun hv4 => ?_)
    · replace hF := (if_pos hv4).symm.trans hF
      refine lv_ldc (v := -1000000002) hx hb hown (hts _ tq_1033) dX10_wish_34 ?_
      exact kb_X10_wish_b36 C hF hW hS (lv_sub hl [] rfl)
    · replace hF := (if_neg hv4).symm.trans hF
      refine lv_aload_n hx hb dX10_wish_25 rfl (lv_at hl 0 rfl) ?_
      refine lv_iload_n hx hb dX10_wish_26 rfl (lv_at hl 1 rfl) ?_
      refine lv_iload_n hx hb dX10_wish_27 rfl (lv_at hl 2 rfl) ?_
      obtain ⟨hK, hF⟩ := ps_ck_some hF
      obtain ⟨xv5, M9, hc, hF⟩ := ps_b2_some hF
      refine ps_backI (x0 := xv5) (M' := M9) hS (ps_callV C hW pc_9 mf_X10_become tq_1178 tq_49 tq_1176 ⟨Nat.le_of_ble_eq_true rfl, Nat.le_of_ble_eq_true rfl⟩ rfl rfl (As := [.int x1, .int x2]) (rest := []) (c_X10_become hc) hK rfl hl.1 rfl (Nat.le_of_ble_eq_true rfl) dX10_wish_28 ⟨Nat.le_of_ble_eq_true rfl, Nat.le_of_ble_eq_true rfl⟩) (fun H locs hW hS => ?_)
      clear hc
      generalize M9 = M at hW hF
      refine lv_goto (tgt := 36) hx hb dX10_wish_31 (by decide) ?_
      exact kb_X10_wish_b36 C hF hW hS (lv_sub hl [] rfl)
  · replace hF := (if_pos hv2).symm.trans hF
    refine lv_ldc (v := -1000000001) hx hb hown (hts _ tq_1099) dX10_wish_8 ?_
    refine lv_goto (tgt := 36) hx hb dX10_wish_10 (by decide) ?_
    exact kb_X10_wish_b36 C hF hW hS (lv_sub hl [] rfl)
theorem mf_X10_wish : ps_mf yX10_wish cX10_wish 3 ((some .int)) 2 := ⟨tq_1174, tq_71, by decide +kernel, by decide +kernel, by decide +kernel⟩
theorem c_X10_wish {l : Launch} {D : va_G} {Y : ps_A} {B : Nat} {M : ps_M} {a0 : Nat} {x1 : Int32} {x2 : Int32} {r : Int32} {M' : ps_M} (hF : f_X10_wish M a0 x1 x2 = some (r, M')) : Met l yX10_wish (Cond.code yX10_wish cX10_wish 3 ((some .int)) :: tb_G) rm_X10_wish (ps_PB D Y B M [.ref (B + a0), .int x1, .int x2]) (va_Qi (fun x (_ : Unit) => x = r) (fun _ t => ps_St D Y B M' t) (fun q => B ≤ q)) 0 0 (fun q => B ≤ q) :=
  pm_of (by decide +kernel) (Nat.le_of_ble_eq_true rfl) (fun p e s m args below meth c C hW hS ls hl => kb_X10_wish C hF hW hS hl)

abbrev rm_X10_habit : Room := { frames := 3, cells := 0, slots := 0, locals := 67 }
def f_X10_habit_b39 (M : ps_M) (t0 : Int32) : Option (Int32 × ps_M) := some (t0, M)
def f_X10_habit (M : ps_M) (a0 : Nat) (x1 : Int32) (x2 : Int32) : Option (Int32 × ps_M) := ps_ck M a0 9 (ps_b2 (f_X10_isPerson M a0 x1) (fun xv1 M => if xv1 = 0 then (f_X10_habit_b39 M (-1000000001 : Int32)) else (ps_b2 (f_X10_in M (x2.toInt64) (0 : Int64) (9 : Int64)) (fun xv3 M => if xv3 = 0 then (f_X10_habit_b39 M (-1000000002 : Int32)) else (ps_ck M a0 9 (ps_b2 (f_X10_become M a0 ((12 : Int32) + x1) x2) (fun xv5 M => f_X10_habit_b39 M xv5)))))))
set_option maxRecDepth 100000 in
set_option maxHeartbeats 4000000 in
theorem kb_X10_habit_b39 (C : ps_C p s m args meth c cX10_habit 3 RX10 ((some .int)) "habit" D Y B) {q : Int32 × ps_M}  {M : ps_M} {t0 : Int32} (hF : f_X10_habit_b39 M t0 = some q) (hW : ps_W D Y B M H) (hS : va_S (fun q => B ≤ q) s.heap H locs) (hl : lv_has ls 3 []) : W p l e rm_X10_habit s m args below meth c H locs 0 0 (ps_Qi D Y B below args s 0 0 q) (F0 m 39 ls [.int t0]) := by
  have hx := C.1
  have hb := C.2.1
  have hml := C.2.2.1
  have hown := C.2.2.2.1
  have hts := C.2.2.2.2.1
  unfold f_X10_habit_b39 at hF
  exact pw_iret C hW hS dX10_habit_39 hF
set_option maxRecDepth 100000 in
set_option maxHeartbeats 4000000 in
theorem kb_X10_habit (C : ps_C p s m args meth c cX10_habit 3 RX10 ((some .int)) "habit" D Y B) {q : Int32 × ps_M}  {M : ps_M} {a0 : Nat} {x1 : Int32} {x2 : Int32} (hF : f_X10_habit M a0 x1 x2 = some q) (hW : ps_W D Y B M H) (hS : va_S (fun q => B ≤ q) s.heap H locs) (hl : lv_has ls 3 [(0, .ref (B + a0)), (1, .int x1), (2, .int x2)]) : W p l e rm_X10_habit s m args below meth c H locs 0 0 (ps_Qi D Y B below args s 0 0 q) (F0 m 0 ls []) := by
  have hx := C.1
  have hb := C.2.1
  have hml := C.2.2.1
  have hown := C.2.2.2.1
  have hts := C.2.2.2.2.1
  unfold f_X10_habit at hF
  refine lv_aload_n hx hb dX10_habit_0 rfl (lv_at hl 0 rfl) ?_
  refine lv_iload_n hx hb dX10_habit_1 rfl (lv_at hl 1 rfl) ?_
  obtain ⟨hK, hF⟩ := ps_ck_some hF
  obtain ⟨xv1, M9, hc, hF⟩ := ps_b2_some hF
  refine ps_backI (x0 := xv1) (M' := M9) hS (ps_callV C hW pc_9 mf_X10_isPerson tq_1106 tq_40 tq_1104 ⟨Nat.le_of_ble_eq_true rfl, Nat.le_of_ble_eq_true rfl⟩ rfl rfl (As := [.int x1]) (rest := []) (c_X10_isPerson hc) hK rfl hl.1 rfl (Nat.le_of_ble_eq_true rfl) dX10_habit_2 ⟨Nat.le_of_ble_eq_true rfl, Nat.le_of_ble_eq_true rfl⟩) (fun H locs hW hS => ?_)
  clear hc
  generalize M9 = M at hW hF
  refine lv_if_ne (tgt := 13) hx hb dX10_habit_5 (by decide) (fun hv2 => ?_) (fun hv2 => ?_)
  · replace hF := (if_neg hv2).symm.trans hF
    refine lv_iload_n hx hb dX10_habit_13 rfl (lv_at hl 2 rfl) ?_
    refine lv_i2l hx hb dX10_habit_14 rfl ?_
    refine lv_lconst (v := 0) hx hb dX10_habit_15 (by decide) ?_
    refine lv_ldc2 (v := 9) hx hb hown (hts _ tq_1184) dX10_habit_16 ?_
    obtain ⟨xv3, M9, hc, hF⟩ := ps_b2_some hF
    refine ps_backI (x0 := xv3) (M' := M9) hS (ps_callS C hW mf_X10_in tq_1031 tq_1030 ⟨Nat.le_of_ble_eq_true rfl, Nat.le_of_ble_eq_true rfl⟩ rfl rfl (As := [.long (x2.toInt64), .long (0 : Int64), .long (9 : Int64)]) (rest := []) (c_X10_in hc) rfl hl.1 rfl (Nat.le_of_ble_eq_true rfl) dX10_habit_19 ⟨Nat.le_of_ble_eq_true rfl, Nat.le_of_ble_eq_true rfl⟩) (fun H locs hW hS => ?_)
    clear hc
    generalize M9 = M at hW hF
    refine lv_if_eq (tgt := 37) hx hb dX10_habit_22 (by decide) (fun hv4 => ?_) (fun hv4 => ?_)
    · replace hF := (if_pos hv4).symm.trans hF
      refine lv_ldc (v := -1000000002) hx hb hown (hts _ tq_1033) dX10_habit_37 ?_
      exact kb_X10_habit_b39 C hF hW hS (lv_sub hl [] rfl)
    · replace hF := (if_neg hv4).symm.trans hF
      refine lv_aload_n hx hb dX10_habit_25 rfl (lv_at hl 0 rfl) ?_
      refine lv_bipush (v := 12) hx hb dX10_habit_26 (by decide) ?_
      refine lv_iload_n hx hb dX10_habit_28 rfl (lv_at hl 1 rfl) ?_
      refine lv_iadd hx hb dX10_habit_29 ?_
      refine lv_iload_n hx hb dX10_habit_30 rfl (lv_at hl 2 rfl) ?_
      obtain ⟨hK, hF⟩ := ps_ck_some hF
      obtain ⟨xv5, M9, hc, hF⟩ := ps_b2_some hF
      refine ps_backI (x0 := xv5) (M' := M9) hS (ps_callV C hW pc_9 mf_X10_become tq_1178 tq_49 tq_1176 ⟨Nat.le_of_ble_eq_true rfl, Nat.le_of_ble_eq_true rfl⟩ rfl rfl (As := [.int ((12 : Int32) + x1), .int x2]) (rest := []) (c_X10_become hc) hK rfl hl.1 rfl (Nat.le_of_ble_eq_true rfl) dX10_habit_31 ⟨Nat.le_of_ble_eq_true rfl, Nat.le_of_ble_eq_true rfl⟩) (fun H locs hW hS => ?_)
      clear hc
      generalize M9 = M at hW hF
      refine lv_goto (tgt := 39) hx hb dX10_habit_34 (by decide) ?_
      exact kb_X10_habit_b39 C hF hW hS (lv_sub hl [] rfl)
  · replace hF := (if_pos hv2).symm.trans hF
    refine lv_ldc (v := -1000000001) hx hb hown (hts _ tq_1099) dX10_habit_8 ?_
    refine lv_goto (tgt := 39) hx hb dX10_habit_10 (by decide) ?_
    exact kb_X10_habit_b39 C hF hW hS (lv_sub hl [] rfl)
theorem mf_X10_habit : ps_mf yX10_habit cX10_habit 3 ((some .int)) 2 := ⟨tq_1183, tq_71, by decide +kernel, by decide +kernel, by decide +kernel⟩
theorem c_X10_habit {l : Launch} {D : va_G} {Y : ps_A} {B : Nat} {M : ps_M} {a0 : Nat} {x1 : Int32} {x2 : Int32} {r : Int32} {M' : ps_M} (hF : f_X10_habit M a0 x1 x2 = some (r, M')) : Met l yX10_habit (Cond.code yX10_habit cX10_habit 3 ((some .int)) :: tb_G) rm_X10_habit (ps_PB D Y B M [.ref (B + a0), .int x1, .int x2]) (va_Qi (fun x (_ : Unit) => x = r) (fun _ t => ps_St D Y B M' t) (fun q => B ≤ q)) 0 0 (fun q => B ≤ q) :=
  pm_of (by decide +kernel) (Nat.le_of_ble_eq_true rfl) (fun p e s m args below meth c C hW hS ls hl => kb_X10_habit C hF hW hS hl)

abbrev rm_X10_draw : Room := { frames := 0, cells := 0, slots := 0, locals := 0 }
def f_X10_draw (M : ps_M) (a0 : Nat) (x1 : Int32) : Option (Int32 × ps_M) := ps_gR M a0 9 0 (fun av1 => ps_gR M a0 9 0 (fun av2 => ps_aI M av2 (25 : Int32) (fun xv3 => ps_xI M av1 (25 : Int32) (((((xv3.toInt64) * (1103515245 : Int64)) + (12345 : Int64)) - (((xv3.toInt64) * (1103515245 : Int64)) + (12345 : Int64)) / (2147483648 : Int64) * (2147483648 : Int64)).toInt32) (fun M => ps_gR M a0 9 0 (fun av4 => ps_aI M av4 (25 : Int32) (fun xv5 => ps_dv x1 (some (((xv5 / (65536 : Int32)) - (xv5 / (65536 : Int32)) / x1 * x1), M))))))))
set_option maxRecDepth 100000 in
set_option maxHeartbeats 4000000 in
theorem kb_X10_draw (C : ps_C p s m args meth c cX10_draw 2 RX10 ((some .int)) "draw" D Y B) {q : Int32 × ps_M}  {M : ps_M} {a0 : Nat} {x1 : Int32} (hF : f_X10_draw M a0 x1 = some q) (hW : ps_W D Y B M H) (hS : va_S (fun q => B ≤ q) s.heap H locs) (hl : lv_has ls 2 [(0, .ref (B + a0)), (1, .int x1)]) : W p l e rm_X10_draw s m args below meth c H locs 0 0 (ps_Qi D Y B below args s 0 0 q) (F0 m 0 ls []) := by
  have hx := C.1
  have hb := C.2.1
  have hml := C.2.2.1
  have hown := C.2.2.2.1
  have hts := C.2.2.2.2.1
  unfold f_X10_draw at hF
  refine lv_aload_n hx hb dX10_draw_0 rfl (lv_at hl 0 rfl) ?_
  refine pw_gR C hW pc_9 (k := 0) (by decide) rfl tq_918 dX10_draw_1 hF (fun av1 hF => ?_)
  refine lv_bipush (v := 25) hx hb dX10_draw_4 (by decide) ?_
  refine lv_aload_n hx hb dX10_draw_6 rfl (lv_at hl 0 rfl) ?_
  refine pw_gR C hW pc_9 (k := 0) (by decide) rfl tq_918 dX10_draw_7 hF (fun av2 hF => ?_)
  refine lv_bipush (v := 25) hx hb dX10_draw_10 (by decide) ?_
  refine pw_aI C hW dX10_draw_12 hF (fun xv3 hF => ?_)
  refine lv_i2l hx hb dX10_draw_13 rfl ?_
  refine lv_ldc2 (v := 1103515245) hx hb hown (hts _ tq_1193) dX10_draw_14 ?_
  refine lv_lmul hx hb dX10_draw_17 ?_
  refine lv_ldc2 (v := 12345) hx hb hown (hts _ tq_1194) dX10_draw_18 ?_
  refine lv_ladd hx hb dX10_draw_21 ?_
  refine lv_ldc2 (v := 2147483648) hx hb hown (hts _ tq_1195) dX10_draw_22 ?_
  refine lv_lrem hx hb dX10_draw_25 (by decide) ?_
  refine lv_l2i hx hb dX10_draw_26 rfl ?_
  refine pw_xI C hW hS dX10_draw_27 hF (fun M H locs hW hS hF => ?_)
  refine lv_aload_n hx hb dX10_draw_28 rfl (lv_at hl 0 rfl) ?_
  refine pw_gR C hW pc_9 (k := 0) (by decide) rfl tq_918 dX10_draw_29 hF (fun av4 hF => ?_)
  refine lv_bipush (v := 25) hx hb dX10_draw_32 (by decide) ?_
  refine pw_aI C hW dX10_draw_34 hF (fun xv5 hF => ?_)
  refine lv_ldc (v := 65536) hx hb hown (hts _ tq_1196) dX10_draw_35 ?_
  refine lv_idiv hx hb dX10_draw_37 (by decide) ?_
  refine lv_iload_n hx hb dX10_draw_38 rfl (lv_at hl 1 rfl) ?_
  obtain ⟨hne, hF⟩ := ps_dv_some hF
  refine lv_irem hx hb dX10_draw_39 hne ?_
  clear hne
  exact pw_iret C hW hS dX10_draw_40 hF
theorem mf_X10_draw : ps_mf yX10_draw cX10_draw 2 ((some .int)) 1 := ⟨tq_1192, tq_71, by decide +kernel, by decide +kernel, by decide +kernel⟩
theorem c_X10_draw {l : Launch} {D : va_G} {Y : ps_A} {B : Nat} {M : ps_M} {a0 : Nat} {x1 : Int32} {r : Int32} {M' : ps_M} (hF : f_X10_draw M a0 x1 = some (r, M')) : Met l yX10_draw (Cond.code yX10_draw cX10_draw 2 ((some .int)) :: tb_G) rm_X10_draw (ps_PB D Y B M [.ref (B + a0), .int x1]) (va_Qi (fun x (_ : Unit) => x = r) (fun _ t => ps_St D Y B M' t) (fun q => B ≤ q)) 0 0 (fun q => B ≤ q) :=
  pm_of (by decide +kernel) (Nat.le_of_ble_eq_true rfl) (fun p e s m args below meth c C hW hS ls hl => kb_X10_draw C hF hW hS hl)

abbrev rm_X10_drift : Room := { frames := 3, cells := 0, slots := 0, locals := 75 }
def f_X10_drift_b30 (M : ps_M)  : Option (Int32 × ps_M) := some ((-1000000003 : Int32), M)
def f_X10_drift_b95 (k39 : ps_M → Nat → Int32 → Int32 → Option (Int32 × ps_M)) (M : ps_M) (a0 : Nat) (x1 : Int32) (x2 : Int32) : Option (Int32 × ps_M) := ps_v (x2 + 1) (fun xv1 => k39 M a0 x1 xv1)
def f_X10_drift_b101 (M : ps_M) (a0 : Nat) : Option (Int32 × ps_M) := ps_gR M a0 9 0 (fun av2 => ps_aI M av2 (19 : Int32) (fun xv3 => some (xv3, M)))
def f_X10_drift_w39 (k39 : ps_M → Nat → Int32 → Int32 → Option (Int32 × ps_M)) (M : ps_M) (a0 : Nat) (x1 : Int32) (x2 : Int32) : Option (Int32 × ps_M) := if x1 ≤ x2 then (f_X10_drift_b101 M a0) else (ps_ck M a0 9 (ps_b2 (f_X10_isThrough M a0 (0 : Int32)) (fun xv5 M => if xv5 = 0 then (ps_ck M a0 9 (ps_b2 (f_X10_draw M a0 (8 : Int32)) (fun xv7 M => if xv7 = 0 then (ps_ck M a0 9 (ps_b1 (f_X10_relax M a0 (0 : Int32) (1 : Int32)) (fun M => f_X10_drift_b95 k39 M a0 x1 x2))) else (if xv7 = (1 : Int32) then (ps_gR M a0 9 0 (fun av11 => ps_xI M av11 (22 : Int32) (0 : Int32) (fun M => f_X10_drift_b95 k39 M a0 x1 x2))) else (ps_ck M a0 9 (ps_b2 (f_X10_pull M a0 (0 : Int32)) (fun xv10 M => f_X10_drift_b95 k39 M a0 x1 x2))))))) else (f_X10_drift_b101 M a0))))
def f_X10_drift_l39 : Nat → ps_M → Nat → Int32 → Int32 → Option (Int32 × ps_M)
  | 0, _, _, _, _ => none
  | n + 1, M, a0, x1, x2 => f_X10_drift_w39 (f_X10_drift_l39 n) M a0 x1 x2
def f_X10_drift (M : ps_M) (a0 : Nat) (x1 : Int32) : Option (Int32 × ps_M) := ps_b2 (f_X10_in M (x1.toInt64) (1 : Int64) (99 : Int64)) (fun xv12 M => if xv12 = 0 then (some ((-1000000002 : Int32), M)) else (ps_ck M a0 9 (ps_b2 (f_X10_isPair M a0 ) (fun xv14 M => if xv14 = 0 then (f_X10_drift_b30 M ) else (ps_ck M a0 9 (ps_b2 (f_X10_isThrough M a0 (0 : Int32)) (fun xv16 M => if xv16 = 0 then (ps_ck M a0 9 (ps_b1 (f_X10_remember M a0 ) (fun M => f_X10_drift_l39 ps_fu M a0 x1 (0 : Int32)))) else (f_X10_drift_b30 M ))))))))
set_option maxRecDepth 100000 in
set_option maxHeartbeats 4000000 in
theorem kb_X10_drift_b30 (C : ps_C p s m args meth c cX10_drift 5 RX10 ((some .int)) "drift" D Y B) {q : Int32 × ps_M}  {M : ps_M}  (hF : f_X10_drift_b30 M  = some q) (hW : ps_W D Y B M H) (hS : va_S (fun q => B ≤ q) s.heap H locs) (hl : lv_has ls 5 []) : W p l e rm_X10_drift s m args below meth c H locs 0 0 (ps_Qi D Y B below args s 0 0 q) (F0 m 30 ls []) := by
  have hx := C.1
  have hb := C.2.1
  have hml := C.2.2.1
  have hown := C.2.2.2.1
  have hts := C.2.2.2.2.1
  unfold f_X10_drift_b30 at hF
  refine lv_ldc (v := -1000000003) hx hb hown (hts _ tq_1112) dX10_drift_30 ?_
  exact pw_iret C hW hS dX10_drift_32 hF
set_option maxRecDepth 100000 in
set_option maxHeartbeats 4000000 in
theorem kb_X10_drift_b95 (C : ps_C p s m args meth c cX10_drift 5 RX10 ((some .int)) "drift" D Y B) {q : Int32 × ps_M} (k39 : ps_M → Nat → Int32 → Int32 → Option (Int32 × ps_M)) (hk39 : ∀ (M : ps_M) (H : Heap) (locs : List Loc) (ls : Array Slot) (a0 : Nat) (x1 : Int32) (x2 : Int32), k39 M a0 x1 x2 = some q → ps_W D Y B M H → va_S (fun q => B ≤ q) s.heap H locs → lv_has ls 5 [(0, .ref (B + a0)), (1, .int x1), (2, .int x2)] → W p l e rm_X10_drift s m args below meth c H locs 0 0 (ps_Qi D Y B below args s 0 0 q) (F0 m 39 ls [])) {M : ps_M} {a0 : Nat} {x1 : Int32} {x2 : Int32} (hF : f_X10_drift_b95 k39 M a0 x1 x2 = some q) (hW : ps_W D Y B M H) (hS : va_S (fun q => B ≤ q) s.heap H locs) (hl : lv_has ls 5 [(0, .ref (B + a0)), (1, .int x1), (2, .int x2)]) : W p l e rm_X10_drift s m args below meth c H locs 0 0 (ps_Qi D Y B below args s 0 0 q) (F0 m 95 ls []) := by
  have hx := C.1
  have hb := C.2.1
  have hml := C.2.2.1
  have hown := C.2.2.2.1
  have hts := C.2.2.2.2.1
  unfold f_X10_drift_b95 at hF
  obtain ⟨xv1, exv1, hF⟩ := ps_ve hF
  refine lv_iinc (v := xv1) (lv' := [(2, .int xv1), (0, .ref (B + a0)), (1, .int x1)]) hx hb dX10_drift_95 hl (k := 2) rfl (by rw [exv1]; rfl) (by decide) rfl (fun ls hl => ?_)
  clear exv1
  refine lv_goto (tgt := 39) hx hb dX10_drift_98 (by decide) ?_
  exact hk39 M _ _ _ a0 x1 xv1 hF hW hS (lv_sub hl [1, 2, 0] rfl)
set_option maxRecDepth 100000 in
set_option maxHeartbeats 4000000 in
theorem kb_X10_drift_b101 (C : ps_C p s m args meth c cX10_drift 5 RX10 ((some .int)) "drift" D Y B) {q : Int32 × ps_M}  {M : ps_M} {a0 : Nat} (hF : f_X10_drift_b101 M a0 = some q) (hW : ps_W D Y B M H) (hS : va_S (fun q => B ≤ q) s.heap H locs) (hl : lv_has ls 5 [(0, .ref (B + a0))]) : W p l e rm_X10_drift s m args below meth c H locs 0 0 (ps_Qi D Y B below args s 0 0 q) (F0 m 101 ls []) := by
  have hx := C.1
  have hb := C.2.1
  have hml := C.2.2.1
  have hown := C.2.2.2.1
  have hts := C.2.2.2.2.1
  unfold f_X10_drift_b101 at hF
  refine lv_aload_n hx hb dX10_drift_101 rfl (lv_at hl 0 rfl) ?_
  refine pw_gR C hW pc_9 (k := 0) (by decide) rfl tq_918 dX10_drift_102 hF (fun av2 hF => ?_)
  refine lv_bipush (v := 19) hx hb dX10_drift_105 (by decide) ?_
  refine pw_aI C hW dX10_drift_107 hF (fun xv3 hF => ?_)
  exact pw_iret C hW hS dX10_drift_108 hF
set_option maxRecDepth 100000 in
set_option maxHeartbeats 4000000 in
theorem kb_X10_drift_w39 (C : ps_C p s m args meth c cX10_drift 5 RX10 ((some .int)) "drift" D Y B) {q : Int32 × ps_M} (k39 : ps_M → Nat → Int32 → Int32 → Option (Int32 × ps_M)) (hk39 : ∀ (M : ps_M) (H : Heap) (locs : List Loc) (ls : Array Slot) (a0 : Nat) (x1 : Int32) (x2 : Int32), k39 M a0 x1 x2 = some q → ps_W D Y B M H → va_S (fun q => B ≤ q) s.heap H locs → lv_has ls 5 [(0, .ref (B + a0)), (1, .int x1), (2, .int x2)] → W p l e rm_X10_drift s m args below meth c H locs 0 0 (ps_Qi D Y B below args s 0 0 q) (F0 m 39 ls [])) {M : ps_M} {a0 : Nat} {x1 : Int32} {x2 : Int32} (hF : f_X10_drift_w39 k39 M a0 x1 x2 = some q) (hW : ps_W D Y B M H) (hS : va_S (fun q => B ≤ q) s.heap H locs) (hl : lv_has ls 5 [(0, .ref (B + a0)), (1, .int x1), (2, .int x2)]) : W p l e rm_X10_drift s m args below meth c H locs 0 0 (ps_Qi D Y B below args s 0 0 q) (F0 m 39 ls []) := by
  have hx := C.1
  have hb := C.2.1
  have hml := C.2.2.1
  have hown := C.2.2.2.1
  have hts := C.2.2.2.2.1
  unfold f_X10_drift_w39 at hF
  refine lv_iload_n hx hb dX10_drift_39 rfl (lv_at hl 2 rfl) ?_
  refine lv_iload_n hx hb dX10_drift_40 rfl (lv_at hl 1 rfl) ?_
  refine lv_icmp_ge (tgt := 101) hx hb dX10_drift_41 (by decide) (fun hv4 => ?_) (fun hv4 => ?_)
  · replace hF := (if_pos hv4).symm.trans hF
    exact kb_X10_drift_b101 C hF hW hS (lv_sub hl [0] rfl)
  · replace hF := (if_neg hv4).symm.trans hF
    refine lv_aload_n hx hb dX10_drift_44 rfl (lv_at hl 0 rfl) ?_
    refine lv_iconst (v := 0) hx hb dX10_drift_45 (by decide) ?_
    obtain ⟨hK, hF⟩ := ps_ck_some hF
    obtain ⟨xv5, M9, hc, hF⟩ := ps_b2_some hF
    refine ps_backI (x0 := xv5) (M' := M9) hS (ps_callV C hW pc_9 mf_X10_isThrough tq_1090 tq_39 tq_1088 ⟨Nat.le_of_ble_eq_true rfl, Nat.le_of_ble_eq_true rfl⟩ rfl rfl (As := [.int (0 : Int32)]) (rest := []) (c_X10_isThrough hc) hK rfl hl.1 rfl (Nat.le_of_ble_eq_true rfl) dX10_drift_46 ⟨Nat.le_of_ble_eq_true rfl, Nat.le_of_ble_eq_true rfl⟩) (fun H locs hW hS => ?_)
    clear hc
    generalize M9 = M at hW hF
    refine lv_if_ne (tgt := 101) hx hb dX10_drift_49 (by decide) (fun hv6 => ?_) (fun hv6 => ?_)
    · replace hF := (if_neg hv6).symm.trans hF
      exact kb_X10_drift_b101 C hF hW hS (lv_sub hl [0] rfl)
    · replace hF := (if_pos hv6).symm.trans hF
      refine lv_aload_n hx hb dX10_drift_52 rfl (lv_at hl 0 rfl) ?_
      refine lv_bipush (v := 8) hx hb dX10_drift_53 (by decide) ?_
      obtain ⟨hK, hF⟩ := ps_ck_some hF
      obtain ⟨xv7, M9, hc, hF⟩ := ps_b2_some hF
      refine ps_backI (x0 := xv7) (M' := M9) hS (ps_callV C hW pc_9 mf_X10_draw tq_1191 tq_50 tq_1189 ⟨Nat.le_of_ble_eq_true rfl, Nat.le_of_ble_eq_true rfl⟩ rfl rfl (As := [.int (8 : Int32)]) (rest := []) (c_X10_draw hc) hK rfl hl.1 rfl (Nat.le_of_ble_eq_true rfl) dX10_drift_55 ⟨Nat.le_of_ble_eq_true rfl, Nat.le_of_ble_eq_true rfl⟩) (fun H locs hW hS => ?_)
      clear hc
      generalize M9 = M at hW hF
      refine lv_istore_n (lv' := [(3, .int xv7), (0, .ref (B + a0)), (1, .int x1), (2, .int x2)]) hx hb dX10_drift_58 rfl hl (by decide) rfl (fun ls hl => ?_)
      refine lv_iload_n hx hb dX10_drift_59 rfl (lv_at hl 0 rfl) ?_
      refine lv_if_ne (tgt := 72) hx hb dX10_drift_60 (by decide) (fun hv8 => ?_) (fun hv8 => ?_)
      · replace hF := (if_neg hv8).symm.trans hF
        refine lv_iload_n hx hb dX10_drift_72 rfl (lv_at hl 0 rfl) ?_
        refine lv_iconst (v := 1) hx hb dX10_drift_73 (by decide) ?_
        refine lv_icmp_ne (tgt := 88) hx hb dX10_drift_74 (by decide) (fun hv9 => ?_) (fun hv9 => ?_)
        · replace hF := (if_neg hv9).symm.trans hF
          refine lv_aload_n hx hb dX10_drift_88 rfl (lv_at hl 1 rfl) ?_
          refine lv_iconst (v := 0) hx hb dX10_drift_89 (by decide) ?_
          obtain ⟨hK, hF⟩ := ps_ck_some hF
          obtain ⟨xv10, M9, hc, hF⟩ := ps_b2_some hF
          refine ps_backI (x0 := xv10) (M' := M9) hS (ps_callV C hW pc_9 mf_X10_pull tq_1132 tq_44 tq_1130 ⟨Nat.le_of_ble_eq_true rfl, Nat.le_of_ble_eq_true rfl⟩ rfl rfl (As := [.int (0 : Int32)]) (rest := []) (c_X10_pull hc) hK rfl hl.1 rfl (Nat.le_of_ble_eq_true rfl) dX10_drift_90 ⟨Nat.le_of_ble_eq_true rfl, Nat.le_of_ble_eq_true rfl⟩) (fun H locs hW hS => ?_)
          clear hc
          generalize M9 = M at hW hF
          refine lv_istore (lv' := [(4, .int xv10), (3, .int xv7), (0, .ref (B + a0)), (1, .int x1), (2, .int x2)]) hx hb dX10_drift_93 hl (by decide) rfl (fun ls hl => ?_)
          exact kb_X10_drift_b95 C k39 hk39 hF hW hS (lv_sub hl [2, 3, 4] rfl)
        · replace hF := (if_pos hv9).symm.trans hF
          refine lv_aload_n hx hb dX10_drift_77 rfl (lv_at hl 1 rfl) ?_
          refine pw_gR C hW pc_9 (k := 0) (by decide) rfl tq_918 dX10_drift_78 hF (fun av11 hF => ?_)
          refine lv_bipush (v := 22) hx hb dX10_drift_81 (by decide) ?_
          refine lv_iconst (v := 0) hx hb dX10_drift_83 (by decide) ?_
          refine pw_xI C hW hS dX10_drift_84 hF (fun M H locs hW hS hF => ?_)
          refine lv_goto (tgt := 95) hx hb dX10_drift_85 (by decide) ?_
          exact kb_X10_drift_b95 C k39 hk39 hF hW hS (lv_sub hl [1, 2, 3] rfl)
      · replace hF := (if_pos hv8).symm.trans hF
        refine lv_aload_n hx hb dX10_drift_63 rfl (lv_at hl 1 rfl) ?_
        refine lv_iconst (v := 0) hx hb dX10_drift_64 (by decide) ?_
        refine lv_iconst (v := 1) hx hb dX10_drift_65 (by decide) ?_
        obtain ⟨hK, hF⟩ := ps_ck_some hF
        obtain ⟨M9, hc, hF⟩ := ps_b1_some hF
        refine ps_backV (M' := M9) hS (ps_callV C hW pc_9 mf_X10_relax tq_1153 tq_48 tq_1151 ⟨Nat.le_of_ble_eq_true rfl, Nat.le_of_ble_eq_true rfl⟩ rfl rfl (As := [.int (0 : Int32), .int (1 : Int32)]) (rest := []) (c_X10_relax hc) hK rfl hl.1 rfl (Nat.le_of_ble_eq_true rfl) dX10_drift_66 ⟨Nat.le_of_ble_eq_true rfl, Nat.le_of_ble_eq_true rfl⟩) (fun H locs hW hS => ?_)
        clear hc
        generalize M9 = M at hW hF
        refine lv_goto (tgt := 95) hx hb dX10_drift_69 (by decide) ?_
        exact kb_X10_drift_b95 C k39 hk39 hF hW hS (lv_sub hl [1, 2, 3] rfl)
theorem kb_X10_drift_l39 (C : ps_C p s m args meth c cX10_drift 5 RX10 ((some .int)) "drift" D Y B) {q : Int32 × ps_M}  : ∀ (n : Nat) (M : ps_M) (H : Heap) (locs : List Loc) (ls : Array Slot) (a0 : Nat) (x1 : Int32) (x2 : Int32), f_X10_drift_l39 n M a0 x1 x2 = some q → ps_W D Y B M H → va_S (fun q => B ≤ q) s.heap H locs → lv_has ls 5 [(0, .ref (B + a0)), (1, .int x1), (2, .int x2)] → W p l e rm_X10_drift s m args below meth c H locs 0 0 (ps_Qi D Y B below args s 0 0 q) (F0 m 39 ls []) := by
  intro n
  induction n with
  | zero => intro M H locs ls a0 x1 x2 hF; cases hF
  | succ n ih => intro M H locs ls a0 x1 x2 hF hW hS hl; exact kb_X10_drift_w39 C  (f_X10_drift_l39 n) ih hF hW hS hl
set_option maxRecDepth 100000 in
set_option maxHeartbeats 4000000 in
theorem kb_X10_drift (C : ps_C p s m args meth c cX10_drift 5 RX10 ((some .int)) "drift" D Y B) {q : Int32 × ps_M}  {M : ps_M} {a0 : Nat} {x1 : Int32} (hF : f_X10_drift M a0 x1 = some q) (hW : ps_W D Y B M H) (hS : va_S (fun q => B ≤ q) s.heap H locs) (hl : lv_has ls 5 [(0, .ref (B + a0)), (1, .int x1)]) : W p l e rm_X10_drift s m args below meth c H locs 0 0 (ps_Qi D Y B below args s 0 0 q) (F0 m 0 ls []) := by
  have hx := C.1
  have hb := C.2.1
  have hml := C.2.2.1
  have hown := C.2.2.2.1
  have hts := C.2.2.2.2.1
  unfold f_X10_drift at hF
  refine lv_iload_n hx hb dX10_drift_0 rfl (lv_at hl 1 rfl) ?_
  refine lv_i2l hx hb dX10_drift_1 rfl ?_
  refine lv_lconst (v := 1) hx hb dX10_drift_2 (by decide) ?_
  refine lv_ldc2 (v := 99) hx hb hown (hts _ tq_1117) dX10_drift_3 ?_
  obtain ⟨xv12, M9, hc, hF⟩ := ps_b2_some hF
  refine ps_backI (x0 := xv12) (M' := M9) hS (ps_callS C hW mf_X10_in tq_1031 tq_1030 ⟨Nat.le_of_ble_eq_true rfl, Nat.le_of_ble_eq_true rfl⟩ rfl rfl (As := [.long (x1.toInt64), .long (1 : Int64), .long (99 : Int64)]) (rest := []) (c_X10_in hc) rfl hl.1 rfl (Nat.le_of_ble_eq_true rfl) dX10_drift_6 ⟨Nat.le_of_ble_eq_true rfl, Nat.le_of_ble_eq_true rfl⟩) (fun H locs hW hS => ?_)
  clear hc
  generalize M9 = M at hW hF
  refine lv_if_ne (tgt := 15) hx hb dX10_drift_9 (by decide) (fun hv13 => ?_) (fun hv13 => ?_)
  · replace hF := (if_neg hv13).symm.trans hF
    refine lv_aload_n hx hb dX10_drift_15 rfl (lv_at hl 0 rfl) ?_
    obtain ⟨hK, hF⟩ := ps_ck_some hF
    obtain ⟨xv14, M9, hc, hF⟩ := ps_b2_some hF
    refine ps_backI (x0 := xv14) (M' := M9) hS (ps_callV C hW pc_9 mf_X10_isPair tq_1120 tq_41 tq_1118 ⟨Nat.le_of_ble_eq_true rfl, Nat.le_of_ble_eq_true rfl⟩ rfl rfl (As := []) (rest := []) (c_X10_isPair hc) hK rfl hl.1 rfl (Nat.le_of_ble_eq_true rfl) dX10_drift_16 ⟨Nat.le_of_ble_eq_true rfl, Nat.le_of_ble_eq_true rfl⟩) (fun H locs hW hS => ?_)
    clear hc
    generalize M9 = M at hW hF
    refine lv_if_eq (tgt := 30) hx hb dX10_drift_19 (by decide) (fun hv15 => ?_) (fun hv15 => ?_)
    · replace hF := (if_pos hv15).symm.trans hF
      exact kb_X10_drift_b30 C hF hW hS (lv_sub hl [] rfl)
    · replace hF := (if_neg hv15).symm.trans hF
      refine lv_aload_n hx hb dX10_drift_22 rfl (lv_at hl 0 rfl) ?_
      refine lv_iconst (v := 0) hx hb dX10_drift_23 (by decide) ?_
      obtain ⟨hK, hF⟩ := ps_ck_some hF
      obtain ⟨xv16, M9, hc, hF⟩ := ps_b2_some hF
      refine ps_backI (x0 := xv16) (M' := M9) hS (ps_callV C hW pc_9 mf_X10_isThrough tq_1090 tq_39 tq_1088 ⟨Nat.le_of_ble_eq_true rfl, Nat.le_of_ble_eq_true rfl⟩ rfl rfl (As := [.int (0 : Int32)]) (rest := []) (c_X10_isThrough hc) hK rfl hl.1 rfl (Nat.le_of_ble_eq_true rfl) dX10_drift_24 ⟨Nat.le_of_ble_eq_true rfl, Nat.le_of_ble_eq_true rfl⟩) (fun H locs hW hS => ?_)
      clear hc
      generalize M9 = M at hW hF
      refine lv_if_eq (tgt := 33) hx hb dX10_drift_27 (by decide) (fun hv17 => ?_) (fun hv17 => ?_)
      · replace hF := (if_pos hv17).symm.trans hF
        refine lv_aload_n hx hb dX10_drift_33 rfl (lv_at hl 0 rfl) ?_
        obtain ⟨hK, hF⟩ := ps_ck_some hF
        obtain ⟨M9, hc, hF⟩ := ps_b1_some hF
        refine ps_backV (M' := M9) hS (ps_callV C hW pc_9 mf_X10_remember tq_1124 tq_42 tq_1122 ⟨Nat.le_of_ble_eq_true rfl, Nat.le_of_ble_eq_true rfl⟩ rfl rfl (As := []) (rest := []) (c_X10_remember hc) hK rfl hl.1 rfl (Nat.le_of_ble_eq_true rfl) dX10_drift_34 ⟨Nat.le_of_ble_eq_true rfl, Nat.le_of_ble_eq_true rfl⟩) (fun H locs hW hS => ?_)
        clear hc
        generalize M9 = M at hW hF
        refine lv_iconst (v := 0) hx hb dX10_drift_37 (by decide) ?_
        refine lv_istore_n (lv' := [(2, .int (0 : Int32)), (0, .ref (B + a0)), (1, .int x1)]) hx hb dX10_drift_38 rfl hl (by decide) rfl (fun ls hl => ?_)
        exact kb_X10_drift_l39 C ps_fu M _ _ _ a0 x1 (0 : Int32) hF hW hS (lv_sub hl [1, 2, 0] rfl)
      · replace hF := (if_neg hv17).symm.trans hF
        exact kb_X10_drift_b30 C hF hW hS (lv_sub hl [] rfl)
  · replace hF := (if_pos hv13).symm.trans hF
    refine lv_ldc (v := -1000000002) hx hb hown (hts _ tq_1033) dX10_drift_12 ?_
    exact pw_iret C hW hS dX10_drift_14 hF
theorem mf_X10_drift : ps_mf yX10_drift cX10_drift 5 ((some .int)) 1 := ⟨tq_1188, tq_71, by decide +kernel, by decide +kernel, by decide +kernel⟩
theorem c_X10_drift {l : Launch} {D : va_G} {Y : ps_A} {B : Nat} {M : ps_M} {a0 : Nat} {x1 : Int32} {r : Int32} {M' : ps_M} (hF : f_X10_drift M a0 x1 = some (r, M')) : Met l yX10_drift (Cond.code yX10_drift cX10_drift 5 ((some .int)) :: tb_G) rm_X10_drift (ps_PB D Y B M [.ref (B + a0), .int x1]) (va_Qi (fun x (_ : Unit) => x = r) (fun _ t => ps_St D Y B M' t) (fun q => B ≤ q)) 0 0 (fun q => B ≤ q) :=
  pm_of (by decide +kernel) (Nat.le_of_ble_eq_true rfl) (fun p e s m args below meth c C hW hS ls hl => kb_X10_drift C hF hW hS hl)

abbrev rm_X10_undo : Room := { frames := 1, cells := 0, slots := 0, locals := 25 }
def f_X10_undo (M : ps_M) (a0 : Nat) (x1 : Int32) : Option (Int32 × ps_M) := ps_b2 (f_X10_in M (x1.toInt64) (1 : Int64) (30 : Int64)) (fun xv1 M => if xv1 = 0 then (some ((-1000000002 : Int32), M)) else (ps_gI M a0 9 26 (fun xv3 => if x1 ≤ xv3 then (ps_gI M a0 9 26 (fun xv5 => ps_pI M a0 9 26 (xv5 - x1) (fun M => ps_gR M a0 9 0 (fun av6 => ps_aI M av6 (25 : Int32) (fun xv7 => ps_gI M a0 9 26 (fun xv8 => ps_ck M a0 9 (ps_b1 (f_X10_copy M a0 ((112 : Int32) + ((28 : Int32) * xv8)) (0 : Int32)) (fun M => ps_gR M a0 9 0 (fun av9 => ps_xI M av9 (25 : Int32) xv7 (fun M => ps_gR M a0 9 0 (fun av10 => ps_aI M av10 (20 : Int32) (fun xv11 => some (xv11, M))))))))))))) else (some ((-1000000003 : Int32), M)))))
set_option maxRecDepth 100000 in
set_option maxHeartbeats 4000000 in
theorem kb_X10_undo (C : ps_C p s m args meth c cX10_undo 3 RX10 ((some .int)) "undo" D Y B) {q : Int32 × ps_M}  {M : ps_M} {a0 : Nat} {x1 : Int32} (hF : f_X10_undo M a0 x1 = some q) (hW : ps_W D Y B M H) (hS : va_S (fun q => B ≤ q) s.heap H locs) (hl : lv_has ls 3 [(0, .ref (B + a0)), (1, .int x1)]) : W p l e rm_X10_undo s m args below meth c H locs 0 0 (ps_Qi D Y B below args s 0 0 q) (F0 m 0 ls []) := by
  have hx := C.1
  have hb := C.2.1
  have hml := C.2.2.1
  have hown := C.2.2.2.1
  have hts := C.2.2.2.2.1
  unfold f_X10_undo at hF
  refine lv_iload_n hx hb dX10_undo_0 rfl (lv_at hl 1 rfl) ?_
  refine lv_i2l hx hb dX10_undo_1 rfl ?_
  refine lv_lconst (v := 1) hx hb dX10_undo_2 (by decide) ?_
  refine lv_ldc2 (v := 30) hx hb hown (hts _ tq_1201) dX10_undo_3 ?_
  obtain ⟨xv1, M9, hc, hF⟩ := ps_b2_some hF
  refine ps_backI (x0 := xv1) (M' := M9) hS (ps_callS C hW mf_X10_in tq_1031 tq_1030 ⟨Nat.le_of_ble_eq_true rfl, Nat.le_of_ble_eq_true rfl⟩ rfl rfl (As := [.long (x1.toInt64), .long (1 : Int64), .long (30 : Int64)]) (rest := []) (c_X10_in hc) rfl hl.1 rfl (Nat.le_of_ble_eq_true rfl) dX10_undo_6 ⟨Nat.le_of_ble_eq_true rfl, Nat.le_of_ble_eq_true rfl⟩) (fun H locs hW hS => ?_)
  clear hc
  generalize M9 = M at hW hF
  refine lv_if_ne (tgt := 15) hx hb dX10_undo_9 (by decide) (fun hv2 => ?_) (fun hv2 => ?_)
  · replace hF := (if_neg hv2).symm.trans hF
    refine lv_iload_n hx hb dX10_undo_15 rfl (lv_at hl 1 rfl) ?_
    refine lv_aload_n hx hb dX10_undo_16 rfl (lv_at hl 0 rfl) ?_
    refine pw_gI C hW pc_9 (k := 26) (by decide) rfl tq_944 dX10_undo_17 hF (fun xv3 hF => ?_)
    refine lv_icmp_le (tgt := 26) hx hb dX10_undo_20 (by decide) (fun hv4 => ?_) (fun hv4 => ?_)
    · replace hF := (if_pos hv4).symm.trans hF
      refine lv_aload_n hx hb dX10_undo_26 rfl (lv_at hl 0 rfl) ?_
      refine lv_dup hx hb dX10_undo_27 rfl ?_
      refine pw_gI C hW pc_9 (k := 26) (by decide) rfl tq_944 dX10_undo_28 hF (fun xv5 hF => ?_)
      refine lv_iload_n hx hb dX10_undo_31 rfl (lv_at hl 1 rfl) ?_
      refine lv_isub hx hb dX10_undo_32 ?_
      refine pw_pI C hW hS pc_9 (k := 26) (by decide) rfl rfl tq_944 rfl dX10_undo_33 hF (fun M H locs hW hS hF => ?_)
      refine lv_aload_n hx hb dX10_undo_36 rfl (lv_at hl 0 rfl) ?_
      refine pw_gR C hW pc_9 (k := 0) (by decide) rfl tq_918 dX10_undo_37 hF (fun av6 hF => ?_)
      refine lv_bipush (v := 25) hx hb dX10_undo_40 (by decide) ?_
      refine pw_aI C hW dX10_undo_42 hF (fun xv7 hF => ?_)
      refine lv_istore_n (lv' := [(2, .int xv7), (0, .ref (B + a0)), (1, .int x1)]) hx hb dX10_undo_43 rfl hl (by decide) rfl (fun ls hl => ?_)
      refine lv_aload_n hx hb dX10_undo_44 rfl (lv_at hl 1 rfl) ?_
      refine lv_bipush (v := 112) hx hb dX10_undo_45 (by decide) ?_
      refine lv_bipush (v := 28) hx hb dX10_undo_47 (by decide) ?_
      refine lv_aload_n hx hb dX10_undo_49 rfl (lv_at hl 1 rfl) ?_
      refine pw_gI C hW pc_9 (k := 26) (by decide) rfl tq_944 dX10_undo_50 hF (fun xv8 hF => ?_)
      refine lv_imul hx hb dX10_undo_53 ?_
      refine lv_iadd hx hb dX10_undo_54 ?_
      refine lv_iconst (v := 0) hx hb dX10_undo_55 (by decide) ?_
      obtain ⟨hK, hF⟩ := ps_ck_some hF
      obtain ⟨M9, hc, hF⟩ := ps_b1_some hF
      refine ps_backV (M' := M9) hS (ps_callV C hW pc_9 mf_X10_copy tq_1128 tq_43 tq_1126 ⟨Nat.le_of_ble_eq_true rfl, Nat.le_of_ble_eq_true rfl⟩ rfl rfl (As := [.int ((112 : Int32) + ((28 : Int32) * xv8)), .int (0 : Int32)]) (rest := []) (c_X10_copy hc) hK rfl hl.1 rfl (Nat.le_of_ble_eq_true rfl) dX10_undo_56 ⟨Nat.le_of_ble_eq_true rfl, Nat.le_of_ble_eq_true rfl⟩) (fun H locs hW hS => ?_)
      clear hc
      generalize M9 = M at hW hF
      refine lv_aload_n hx hb dX10_undo_59 rfl (lv_at hl 1 rfl) ?_
      refine pw_gR C hW pc_9 (k := 0) (by decide) rfl tq_918 dX10_undo_60 hF (fun av9 hF => ?_)
      refine lv_bipush (v := 25) hx hb dX10_undo_63 (by decide) ?_
      refine lv_iload_n hx hb dX10_undo_65 rfl (lv_at hl 0 rfl) ?_
      refine pw_xI C hW hS dX10_undo_66 hF (fun M H locs hW hS hF => ?_)
      refine lv_aload_n hx hb dX10_undo_67 rfl (lv_at hl 1 rfl) ?_
      refine pw_gR C hW pc_9 (k := 0) (by decide) rfl tq_918 dX10_undo_68 hF (fun av10 hF => ?_)
      refine lv_bipush (v := 20) hx hb dX10_undo_71 (by decide) ?_
      refine pw_aI C hW dX10_undo_73 hF (fun xv11 hF => ?_)
      exact pw_iret C hW hS dX10_undo_74 hF
    · replace hF := (if_neg hv4).symm.trans hF
      refine lv_ldc (v := -1000000003) hx hb hown (hts _ tq_1112) dX10_undo_23 ?_
      exact pw_iret C hW hS dX10_undo_25 hF
  · replace hF := (if_pos hv2).symm.trans hF
    refine lv_ldc (v := -1000000002) hx hb hown (hts _ tq_1033) dX10_undo_12 ?_
    exact pw_iret C hW hS dX10_undo_14 hF
theorem mf_X10_undo : ps_mf yX10_undo cX10_undo 3 ((some .int)) 1 := ⟨tq_1200, tq_71, by decide +kernel, by decide +kernel, by decide +kernel⟩
theorem c_X10_undo {l : Launch} {D : va_G} {Y : ps_A} {B : Nat} {M : ps_M} {a0 : Nat} {x1 : Int32} {r : Int32} {M' : ps_M} (hF : f_X10_undo M a0 x1 = some (r, M')) : Met l yX10_undo (Cond.code yX10_undo cX10_undo 3 ((some .int)) :: tb_G) rm_X10_undo (ps_PB D Y B M [.ref (B + a0), .int x1]) (va_Qi (fun x (_ : Unit) => x = r) (fun _ t => ps_St D Y B M' t) (fun q => B ≤ q)) 0 0 (fun q => B ≤ q) :=
  pm_of (by decide +kernel) (Nat.le_of_ble_eq_true rfl) (fun p e s m args below meth c C hW hS ls hl => kb_X10_undo C hF hW hS hl)

abbrev rm_X10_goOn : Room := { frames := 3, cells := 0, slots := 0, locals := 75 }
def f_X10_goOn_b44 (M : ps_M) (t0 : Int32) : Option (Int32 × ps_M) := some (t0, M)
def f_X10_goOn_b29 (M : ps_M) (a0 : Nat) (x2 : Int32) : Option (Int32 × ps_M) := ps_ck M a0 9 (ps_b2 (f_X10_isThrough M a0 (28 : Int32)) (fun xv1 M => if xv1 = 0 then (f_X10_goOn_b44 M (99999999 : Int32)) else (f_X10_goOn_b44 M x2)))
def f_X10_goOn_w2 (k2 : ps_M → Nat → Int32 → Int32 → Option (Int32 × ps_M)) (M : ps_M) (a0 : Nat) (x1 : Int32) (x2 : Int32) : Option (Int32 × ps_M) := if x1 ≤ x2 then (f_X10_goOn_b29 M a0 x2) else (ps_ck M a0 9 (ps_b2 (f_X10_isThrough M a0 (28 : Int32)) (fun xv4 M => if xv4 = 0 then (ps_ck M a0 9 (ps_b2 (f_X10_pull M a0 (28 : Int32)) (fun xv6 M => ps_v (x2 + 1) (fun xv7 => k2 M a0 x1 xv7)))) else (f_X10_goOn_b29 M a0 x2))))
def f_X10_goOn_l2 : Nat → ps_M → Nat → Int32 → Int32 → Option (Int32 × ps_M)
  | 0, _, _, _, _ => none
  | n + 1, M, a0, x1, x2 => f_X10_goOn_w2 (f_X10_goOn_l2 n) M a0 x1 x2
def f_X10_goOn (M : ps_M) (a0 : Nat) (x1 : Int32) : Option (Int32 × ps_M) := f_X10_goOn_l2 ps_fu M a0 x1 (0 : Int32)
set_option maxRecDepth 100000 in
set_option maxHeartbeats 4000000 in
theorem kb_X10_goOn_b44 (C : ps_C p s m args meth c cX10_goOn 4 RX10 ((some .int)) "goOn" D Y B) {q : Int32 × ps_M}  {M : ps_M} {t0 : Int32} (hF : f_X10_goOn_b44 M t0 = some q) (hW : ps_W D Y B M H) (hS : va_S (fun q => B ≤ q) s.heap H locs) (hl : lv_has ls 4 []) : W p l e rm_X10_goOn s m args below meth c H locs 0 0 (ps_Qi D Y B below args s 0 0 q) (F0 m 44 ls [.int t0]) := by
  have hx := C.1
  have hb := C.2.1
  have hml := C.2.2.1
  have hown := C.2.2.2.1
  have hts := C.2.2.2.2.1
  unfold f_X10_goOn_b44 at hF
  exact pw_iret C hW hS dX10_goOn_44 hF
set_option maxRecDepth 100000 in
set_option maxHeartbeats 4000000 in
theorem kb_X10_goOn_b29 (C : ps_C p s m args meth c cX10_goOn 4 RX10 ((some .int)) "goOn" D Y B) {q : Int32 × ps_M}  {M : ps_M} {a0 : Nat} {x2 : Int32} (hF : f_X10_goOn_b29 M a0 x2 = some q) (hW : ps_W D Y B M H) (hS : va_S (fun q => B ≤ q) s.heap H locs) (hl : lv_has ls 4 [(0, .ref (B + a0)), (2, .int x2)]) : W p l e rm_X10_goOn s m args below meth c H locs 0 0 (ps_Qi D Y B below args s 0 0 q) (F0 m 29 ls []) := by
  have hx := C.1
  have hb := C.2.1
  have hml := C.2.2.1
  have hown := C.2.2.2.1
  have hts := C.2.2.2.2.1
  unfold f_X10_goOn_b29 at hF
  refine lv_aload_n hx hb dX10_goOn_29 rfl (lv_at hl 0 rfl) ?_
  refine lv_bipush (v := 28) hx hb dX10_goOn_30 (by decide) ?_
  obtain ⟨hK, hF⟩ := ps_ck_some hF
  obtain ⟨xv1, M9, hc, hF⟩ := ps_b2_some hF
  refine ps_backI (x0 := xv1) (M' := M9) hS (ps_callV C hW pc_9 mf_X10_isThrough tq_1090 tq_39 tq_1088 ⟨Nat.le_of_ble_eq_true rfl, Nat.le_of_ble_eq_true rfl⟩ rfl rfl (As := [.int (28 : Int32)]) (rest := []) (c_X10_isThrough hc) hK rfl hl.1 rfl (Nat.le_of_ble_eq_true rfl) dX10_goOn_32 ⟨Nat.le_of_ble_eq_true rfl, Nat.le_of_ble_eq_true rfl⟩) (fun H locs hW hS => ?_)
  clear hc
  generalize M9 = M at hW hF
  refine lv_if_eq (tgt := 42) hx hb dX10_goOn_35 (by decide) (fun hv2 => ?_) (fun hv2 => ?_)
  · replace hF := (if_pos hv2).symm.trans hF
    refine lv_ldc (v := 99999999) hx hb hown (hts _ tq_1214) dX10_goOn_42 ?_
    exact kb_X10_goOn_b44 C hF hW hS (lv_sub hl [] rfl)
  · replace hF := (if_neg hv2).symm.trans hF
    refine lv_iload_n hx hb dX10_goOn_38 rfl (lv_at hl 1 rfl) ?_
    refine lv_goto (tgt := 44) hx hb dX10_goOn_39 (by decide) ?_
    exact kb_X10_goOn_b44 C hF hW hS (lv_sub hl [] rfl)
set_option maxRecDepth 100000 in
set_option maxHeartbeats 4000000 in
theorem kb_X10_goOn_w2 (C : ps_C p s m args meth c cX10_goOn 4 RX10 ((some .int)) "goOn" D Y B) {q : Int32 × ps_M} (k2 : ps_M → Nat → Int32 → Int32 → Option (Int32 × ps_M)) (hk2 : ∀ (M : ps_M) (H : Heap) (locs : List Loc) (ls : Array Slot) (a0 : Nat) (x1 : Int32) (x2 : Int32), k2 M a0 x1 x2 = some q → ps_W D Y B M H → va_S (fun q => B ≤ q) s.heap H locs → lv_has ls 4 [(0, .ref (B + a0)), (1, .int x1), (2, .int x2)] → W p l e rm_X10_goOn s m args below meth c H locs 0 0 (ps_Qi D Y B below args s 0 0 q) (F0 m 2 ls [])) {M : ps_M} {a0 : Nat} {x1 : Int32} {x2 : Int32} (hF : f_X10_goOn_w2 k2 M a0 x1 x2 = some q) (hW : ps_W D Y B M H) (hS : va_S (fun q => B ≤ q) s.heap H locs) (hl : lv_has ls 4 [(0, .ref (B + a0)), (1, .int x1), (2, .int x2)]) : W p l e rm_X10_goOn s m args below meth c H locs 0 0 (ps_Qi D Y B below args s 0 0 q) (F0 m 2 ls []) := by
  have hx := C.1
  have hb := C.2.1
  have hml := C.2.2.1
  have hown := C.2.2.2.1
  have hts := C.2.2.2.2.1
  unfold f_X10_goOn_w2 at hF
  refine lv_iload_n hx hb dX10_goOn_2 rfl (lv_at hl 2 rfl) ?_
  refine lv_iload_n hx hb dX10_goOn_3 rfl (lv_at hl 1 rfl) ?_
  refine lv_icmp_ge (tgt := 29) hx hb dX10_goOn_4 (by decide) (fun hv3 => ?_) (fun hv3 => ?_)
  · replace hF := (if_pos hv3).symm.trans hF
    exact kb_X10_goOn_b29 C hF hW hS (lv_sub hl [0, 2] rfl)
  · replace hF := (if_neg hv3).symm.trans hF
    refine lv_aload_n hx hb dX10_goOn_7 rfl (lv_at hl 0 rfl) ?_
    refine lv_bipush (v := 28) hx hb dX10_goOn_8 (by decide) ?_
    obtain ⟨hK, hF⟩ := ps_ck_some hF
    obtain ⟨xv4, M9, hc, hF⟩ := ps_b2_some hF
    refine ps_backI (x0 := xv4) (M' := M9) hS (ps_callV C hW pc_9 mf_X10_isThrough tq_1090 tq_39 tq_1088 ⟨Nat.le_of_ble_eq_true rfl, Nat.le_of_ble_eq_true rfl⟩ rfl rfl (As := [.int (28 : Int32)]) (rest := []) (c_X10_isThrough hc) hK rfl hl.1 rfl (Nat.le_of_ble_eq_true rfl) dX10_goOn_10 ⟨Nat.le_of_ble_eq_true rfl, Nat.le_of_ble_eq_true rfl⟩) (fun H locs hW hS => ?_)
    clear hc
    generalize M9 = M at hW hF
    refine lv_if_ne (tgt := 29) hx hb dX10_goOn_13 (by decide) (fun hv5 => ?_) (fun hv5 => ?_)
    · replace hF := (if_neg hv5).symm.trans hF
      exact kb_X10_goOn_b29 C hF hW hS (lv_sub hl [0, 2] rfl)
    · replace hF := (if_pos hv5).symm.trans hF
      refine lv_aload_n hx hb dX10_goOn_16 rfl (lv_at hl 0 rfl) ?_
      refine lv_bipush (v := 28) hx hb dX10_goOn_17 (by decide) ?_
      obtain ⟨hK, hF⟩ := ps_ck_some hF
      obtain ⟨xv6, M9, hc, hF⟩ := ps_b2_some hF
      refine ps_backI (x0 := xv6) (M' := M9) hS (ps_callV C hW pc_9 mf_X10_pull tq_1132 tq_44 tq_1130 ⟨Nat.le_of_ble_eq_true rfl, Nat.le_of_ble_eq_true rfl⟩ rfl rfl (As := [.int (28 : Int32)]) (rest := []) (c_X10_pull hc) hK rfl hl.1 rfl (Nat.le_of_ble_eq_true rfl) dX10_goOn_19 ⟨Nat.le_of_ble_eq_true rfl, Nat.le_of_ble_eq_true rfl⟩) (fun H locs hW hS => ?_)
      clear hc
      generalize M9 = M at hW hF
      refine lv_istore_n (lv' := [(3, .int xv6), (0, .ref (B + a0)), (1, .int x1), (2, .int x2)]) hx hb dX10_goOn_22 rfl hl (by decide) rfl (fun ls hl => ?_)
      obtain ⟨xv7, exv7, hF⟩ := ps_ve hF
      refine lv_iinc (v := xv7) (lv' := [(2, .int xv7), (3, .int xv6), (0, .ref (B + a0)), (1, .int x1)]) hx hb dX10_goOn_23 hl (k := 3) rfl (by rw [exv7]; rfl) (by decide) rfl (fun ls hl => ?_)
      clear exv7
      refine lv_goto (tgt := 2) hx hb dX10_goOn_26 (by decide) ?_
      exact hk2 M _ _ _ a0 x1 xv7 hF hW hS (lv_sub hl [2, 3, 0] rfl)
theorem kb_X10_goOn_l2 (C : ps_C p s m args meth c cX10_goOn 4 RX10 ((some .int)) "goOn" D Y B) {q : Int32 × ps_M}  : ∀ (n : Nat) (M : ps_M) (H : Heap) (locs : List Loc) (ls : Array Slot) (a0 : Nat) (x1 : Int32) (x2 : Int32), f_X10_goOn_l2 n M a0 x1 x2 = some q → ps_W D Y B M H → va_S (fun q => B ≤ q) s.heap H locs → lv_has ls 4 [(0, .ref (B + a0)), (1, .int x1), (2, .int x2)] → W p l e rm_X10_goOn s m args below meth c H locs 0 0 (ps_Qi D Y B below args s 0 0 q) (F0 m 2 ls []) := by
  intro n
  induction n with
  | zero => intro M H locs ls a0 x1 x2 hF; cases hF
  | succ n ih => intro M H locs ls a0 x1 x2 hF hW hS hl; exact kb_X10_goOn_w2 C  (f_X10_goOn_l2 n) ih hF hW hS hl
set_option maxRecDepth 100000 in
set_option maxHeartbeats 4000000 in
theorem kb_X10_goOn (C : ps_C p s m args meth c cX10_goOn 4 RX10 ((some .int)) "goOn" D Y B) {q : Int32 × ps_M}  {M : ps_M} {a0 : Nat} {x1 : Int32} (hF : f_X10_goOn M a0 x1 = some q) (hW : ps_W D Y B M H) (hS : va_S (fun q => B ≤ q) s.heap H locs) (hl : lv_has ls 4 [(0, .ref (B + a0)), (1, .int x1)]) : W p l e rm_X10_goOn s m args below meth c H locs 0 0 (ps_Qi D Y B below args s 0 0 q) (F0 m 0 ls []) := by
  have hx := C.1
  have hb := C.2.1
  have hml := C.2.2.1
  have hown := C.2.2.2.1
  have hts := C.2.2.2.2.1
  unfold f_X10_goOn at hF
  refine lv_iconst (v := 0) hx hb dX10_goOn_0 (by decide) ?_
  refine lv_istore_n (lv' := [(2, .int (0 : Int32)), (0, .ref (B + a0)), (1, .int x1)]) hx hb dX10_goOn_1 rfl hl (by decide) rfl (fun ls hl => ?_)
  exact kb_X10_goOn_l2 C ps_fu M _ _ _ a0 x1 (0 : Int32) hF hW hS (lv_sub hl [1, 2, 0] rfl)
theorem mf_X10_goOn : ps_mf yX10_goOn cX10_goOn 4 ((some .int)) 1 := ⟨tq_1213, tq_71, by decide +kernel, by decide +kernel, by decide +kernel⟩
theorem c_X10_goOn {l : Launch} {D : va_G} {Y : ps_A} {B : Nat} {M : ps_M} {a0 : Nat} {x1 : Int32} {r : Int32} {M' : ps_M} (hF : f_X10_goOn M a0 x1 = some (r, M')) : Met l yX10_goOn (Cond.code yX10_goOn cX10_goOn 4 ((some .int)) :: tb_G) rm_X10_goOn (ps_PB D Y B M [.ref (B + a0), .int x1]) (va_Qi (fun x (_ : Unit) => x = r) (fun _ t => ps_St D Y B M' t) (fun q => B ≤ q)) 0 0 (fun q => B ≤ q) :=
  pm_of (by decide +kernel) (Nat.le_of_ble_eq_true rfl) (fun p e s m args below meth c C hW hS ls hl => kb_X10_goOn C hF hW hS hl)

abbrev rm_X10_goOnNow : Room := { frames := 4, cells := 0, slots := 0, locals := 98 }
def f_X10_goOnNow (M : ps_M) (a0 : Nat) : Option (Int32 × ps_M) := ps_ck M a0 9 (ps_b1 (f_X10_copy M a0 (0 : Int32) (28 : Int32)) (fun M => ps_ck M a0 9 (ps_b2 (f_X10_goOn M a0 (999 : Int32)) (fun xv1 M => some (xv1, M)))))
set_option maxRecDepth 100000 in
set_option maxHeartbeats 4000000 in
theorem kb_X10_goOnNow (C : ps_C p s m args meth c cX10_goOnNow 1 RX10 ((some .int)) "goOnNow" D Y B) {q : Int32 × ps_M}  {M : ps_M} {a0 : Nat} (hF : f_X10_goOnNow M a0 = some q) (hW : ps_W D Y B M H) (hS : va_S (fun q => B ≤ q) s.heap H locs) (hl : lv_has ls 1 [(0, .ref (B + a0))]) : W p l e rm_X10_goOnNow s m args below meth c H locs 0 0 (ps_Qi D Y B below args s 0 0 q) (F0 m 0 ls []) := by
  have hx := C.1
  have hb := C.2.1
  have hml := C.2.2.1
  have hown := C.2.2.2.1
  have hts := C.2.2.2.2.1
  unfold f_X10_goOnNow at hF
  refine lv_aload_n hx hb dX10_goOnNow_0 rfl (lv_at hl 0 rfl) ?_
  refine lv_iconst (v := 0) hx hb dX10_goOnNow_1 (by decide) ?_
  refine lv_bipush (v := 28) hx hb dX10_goOnNow_2 (by decide) ?_
  obtain ⟨hK, hF⟩ := ps_ck_some hF
  obtain ⟨M9, hc, hF⟩ := ps_b1_some hF
  refine ps_backV (M' := M9) hS (ps_callV C hW pc_9 mf_X10_copy tq_1128 tq_43 tq_1126 ⟨Nat.le_of_ble_eq_true rfl, Nat.le_of_ble_eq_true rfl⟩ rfl rfl (As := [.int (0 : Int32), .int (28 : Int32)]) (rest := []) (c_X10_copy hc) hK rfl hl.1 rfl (Nat.le_of_ble_eq_true rfl) dX10_goOnNow_4 ⟨Nat.le_of_ble_eq_true rfl, Nat.le_of_ble_eq_true rfl⟩) (fun H locs hW hS => ?_)
  clear hc
  generalize M9 = M at hW hF
  refine lv_aload_n hx hb dX10_goOnNow_7 rfl (lv_at hl 0 rfl) ?_
  refine lv_sipush (v := 999) hx hb dX10_goOnNow_8 (by decide) ?_
  obtain ⟨hK, hF⟩ := ps_ck_some hF
  obtain ⟨xv1, M9, hc, hF⟩ := ps_b2_some hF
  refine ps_backI (x0 := xv1) (M' := M9) hS (ps_callV C hW pc_9 mf_X10_goOn tq_1212 tq_52 tq_1210 ⟨Nat.le_of_ble_eq_true rfl, Nat.le_of_ble_eq_true rfl⟩ rfl rfl (As := [.int (999 : Int32)]) (rest := []) (c_X10_goOn hc) hK rfl hl.1 rfl (Nat.le_of_ble_eq_true rfl) dX10_goOnNow_11 ⟨Nat.le_of_ble_eq_true rfl, Nat.le_of_ble_eq_true rfl⟩) (fun H locs hW hS => ?_)
  clear hc
  generalize M9 = M at hW hF
  exact pw_iret C hW hS dX10_goOnNow_14 hF
theorem mf_X10_goOnNow : ps_mf yX10_goOnNow cX10_goOnNow 1 ((some .int)) 0 := ⟨tq_1209, tq_71, by decide +kernel, by decide +kernel, by decide +kernel⟩
theorem c_X10_goOnNow {l : Launch} {D : va_G} {Y : ps_A} {B : Nat} {M : ps_M} {a0 : Nat} {r : Int32} {M' : ps_M} (hF : f_X10_goOnNow M a0 = some (r, M')) : Met l yX10_goOnNow (Cond.code yX10_goOnNow cX10_goOnNow 1 ((some .int)) :: tb_G) rm_X10_goOnNow (ps_PB D Y B M [.ref (B + a0)]) (va_Qi (fun x (_ : Unit) => x = r) (fun _ t => ps_St D Y B M' t) (fun q => B ≤ q)) 0 0 (fun q => B ≤ q) :=
  pm_of (by decide +kernel) (Nat.le_of_ble_eq_true rfl) (fun p e s m args below meth c C hW hS ls hl => kb_X10_goOnNow C hF hW hS hl)

abbrev rm_X10_toGo : Room := { frames := 5, cells := 0, slots := 0, locals := 118 }
def f_X10_toGo_b26 (M : ps_M) (t0 : Int32) : Option (Int32 × ps_M) := some (t0, M)
def f_X10_toGo (M : ps_M) (a0 : Nat) : Option (Int32 × ps_M) := ps_ck M a0 9 (ps_b2 (f_X10_isPair M a0 ) (fun xv1 M => if xv1 = 0 then (some ((-1000000003 : Int32), M)) else (ps_ck M a0 9 (ps_b2 (f_X10_goOnNow M a0 ) (fun xv3 M => if xv3 = (99999999 : Int32) then (f_X10_toGo_b26 M (-1 : Int32)) else (f_X10_toGo_b26 M xv3))))))
set_option maxRecDepth 100000 in
set_option maxHeartbeats 4000000 in
theorem kb_X10_toGo_b26 (C : ps_C p s m args meth c cX10_toGo 2 RX10 ((some .int)) "toGo" D Y B) {q : Int32 × ps_M}  {M : ps_M} {t0 : Int32} (hF : f_X10_toGo_b26 M t0 = some q) (hW : ps_W D Y B M H) (hS : va_S (fun q => B ≤ q) s.heap H locs) (hl : lv_has ls 2 []) : W p l e rm_X10_toGo s m args below meth c H locs 0 0 (ps_Qi D Y B below args s 0 0 q) (F0 m 26 ls [.int t0]) := by
  have hx := C.1
  have hb := C.2.1
  have hml := C.2.2.1
  have hown := C.2.2.2.1
  have hts := C.2.2.2.2.1
  unfold f_X10_toGo_b26 at hF
  exact pw_iret C hW hS dX10_toGo_26 hF
set_option maxRecDepth 100000 in
set_option maxHeartbeats 4000000 in
theorem kb_X10_toGo (C : ps_C p s m args meth c cX10_toGo 2 RX10 ((some .int)) "toGo" D Y B) {q : Int32 × ps_M}  {M : ps_M} {a0 : Nat} (hF : f_X10_toGo M a0 = some q) (hW : ps_W D Y B M H) (hS : va_S (fun q => B ≤ q) s.heap H locs) (hl : lv_has ls 2 [(0, .ref (B + a0))]) : W p l e rm_X10_toGo s m args below meth c H locs 0 0 (ps_Qi D Y B below args s 0 0 q) (F0 m 0 ls []) := by
  have hx := C.1
  have hb := C.2.1
  have hml := C.2.2.1
  have hown := C.2.2.2.1
  have hts := C.2.2.2.2.1
  unfold f_X10_toGo at hF
  refine lv_aload_n hx hb dX10_toGo_0 rfl (lv_at hl 0 rfl) ?_
  obtain ⟨hK, hF⟩ := ps_ck_some hF
  obtain ⟨xv1, M9, hc, hF⟩ := ps_b2_some hF
  refine ps_backI (x0 := xv1) (M' := M9) hS (ps_callV C hW pc_9 mf_X10_isPair tq_1120 tq_41 tq_1118 ⟨Nat.le_of_ble_eq_true rfl, Nat.le_of_ble_eq_true rfl⟩ rfl rfl (As := []) (rest := []) (c_X10_isPair hc) hK rfl hl.1 rfl (Nat.le_of_ble_eq_true rfl) dX10_toGo_1 ⟨Nat.le_of_ble_eq_true rfl, Nat.le_of_ble_eq_true rfl⟩) (fun H locs hW hS => ?_)
  clear hc
  generalize M9 = M at hW hF
  refine lv_if_ne (tgt := 10) hx hb dX10_toGo_4 (by decide) (fun hv2 => ?_) (fun hv2 => ?_)
  · replace hF := (if_neg hv2).symm.trans hF
    refine lv_aload_n hx hb dX10_toGo_10 rfl (lv_at hl 0 rfl) ?_
    obtain ⟨hK, hF⟩ := ps_ck_some hF
    obtain ⟨xv3, M9, hc, hF⟩ := ps_b2_some hF
    refine ps_backI (x0 := xv3) (M' := M9) hS (ps_callV C hW pc_9 mf_X10_goOnNow tq_1208 tq_51 tq_1206 ⟨Nat.le_of_ble_eq_true rfl, Nat.le_of_ble_eq_true rfl⟩ rfl rfl (As := []) (rest := []) (c_X10_goOnNow hc) hK rfl hl.1 rfl (Nat.le_of_ble_eq_true rfl) dX10_toGo_11 ⟨Nat.le_of_ble_eq_true rfl, Nat.le_of_ble_eq_true rfl⟩) (fun H locs hW hS => ?_)
    clear hc
    generalize M9 = M at hW hF
    refine lv_istore_n (lv' := [(1, .int xv3), (0, .ref (B + a0))]) hx hb dX10_toGo_14 rfl hl (by decide) rfl (fun ls hl => ?_)
    refine lv_iload_n hx hb dX10_toGo_15 rfl (lv_at hl 0 rfl) ?_
    refine lv_ldc (v := 99999999) hx hb hown (hts _ tq_1214) dX10_toGo_16 ?_
    refine lv_icmp_ne (tgt := 25) hx hb dX10_toGo_18 (by decide) (fun hv4 => ?_) (fun hv4 => ?_)
    · replace hF := (if_neg hv4).symm.trans hF
      refine lv_iload_n hx hb dX10_toGo_25 rfl (lv_at hl 0 rfl) ?_
      exact kb_X10_toGo_b26 C hF hW hS (lv_sub hl [] rfl)
    · replace hF := (if_pos hv4).symm.trans hF
      refine lv_iconst (v := -1) hx hb dX10_toGo_21 (by decide) ?_
      refine lv_goto (tgt := 26) hx hb dX10_toGo_22 (by decide) ?_
      exact kb_X10_toGo_b26 C hF hW hS (lv_sub hl [] rfl)
  · replace hF := (if_pos hv2).symm.trans hF
    refine lv_ldc (v := -1000000003) hx hb hown (hts _ tq_1112) dX10_toGo_7 ?_
    exact pw_iret C hW hS dX10_toGo_9 hF
theorem mf_X10_toGo : ps_mf yX10_toGo cX10_toGo 2 ((some .int)) 0 := ⟨tq_1205, tq_71, by decide +kernel, by decide +kernel, by decide +kernel⟩
theorem c_X10_toGo {l : Launch} {D : va_G} {Y : ps_A} {B : Nat} {M : ps_M} {a0 : Nat} {r : Int32} {M' : ps_M} (hF : f_X10_toGo M a0 = some (r, M')) : Met l yX10_toGo (Cond.code yX10_toGo cX10_toGo 2 ((some .int)) :: tb_G) rm_X10_toGo (ps_PB D Y B M [.ref (B + a0)]) (va_Qi (fun x (_ : Unit) => x = r) (fun _ t => ps_St D Y B M' t) (fun q => B ≤ q)) 0 0 (fun q => B ≤ q) :=
  pm_of (by decide +kernel) (Nat.le_of_ble_eq_true rfl) (fun p e s m args below meth c C hW hS ls hl => kb_X10_toGo C hF hW hS hl)

abbrev rm_X10_beginFresh : Room := { frames := 1, cells := 0, slots := 0, locals := 24 }
def f_X10_beginFresh (M : ps_M) (a0 : Nat) (x1 : Int32) (x2 : Int32) : Option (ps_M) := ps_ck M a0 9 (ps_b1 (f_X10_copy M a0 (0 : Int32) (28 : Int32)) (fun M => ps_ck M a0 9 (ps_b1 (f_X10_begin M a0 (28 : Int32) x1 x2) (fun M => ps_gR M a0 9 0 (fun av1 => ps_gR M a0 9 15 (fun av2 => ps_aI M av2 x1 (fun xv3 => ps_xI M av1 ((28 : Int32) + x1) xv3 (fun M => ps_gR M a0 9 0 (fun av4 => ps_gR M a0 9 15 (fun av5 => ps_aI M av5 x2 (fun xv6 => ps_xI M av4 ((28 : Int32) + x2) xv6 (fun M => some M))))))))))))
set_option maxRecDepth 100000 in
set_option maxHeartbeats 4000000 in
theorem kb_X10_beginFresh (C : ps_C p s m args meth c cX10_beginFresh 3 RX10 none "beginFresh" D Y B) {q : ps_M}  {M : ps_M} {a0 : Nat} {x1 : Int32} {x2 : Int32} (hF : f_X10_beginFresh M a0 x1 x2 = some q) (hW : ps_W D Y B M H) (hS : va_S (fun q => B ≤ q) s.heap H locs) (hl : lv_has ls 3 [(0, .ref (B + a0)), (1, .int x1), (2, .int x2)]) : W p l e rm_X10_beginFresh s m args below meth c H locs 0 0 (ps_Qv D Y B below args s 0 0 q) (F0 m 0 ls []) := by
  have hx := C.1
  have hb := C.2.1
  have hml := C.2.2.1
  have hown := C.2.2.2.1
  have hts := C.2.2.2.2.1
  unfold f_X10_beginFresh at hF
  refine lv_aload_n hx hb dX10_beginFresh_0 rfl (lv_at hl 0 rfl) ?_
  refine lv_iconst (v := 0) hx hb dX10_beginFresh_1 (by decide) ?_
  refine lv_bipush (v := 28) hx hb dX10_beginFresh_2 (by decide) ?_
  obtain ⟨hK, hF⟩ := ps_ck_some hF
  obtain ⟨M9, hc, hF⟩ := ps_b1_some hF
  refine ps_backV (M' := M9) hS (ps_callV C hW pc_9 mf_X10_copy tq_1128 tq_43 tq_1126 ⟨Nat.le_of_ble_eq_true rfl, Nat.le_of_ble_eq_true rfl⟩ rfl rfl (As := [.int (0 : Int32), .int (28 : Int32)]) (rest := []) (c_X10_copy hc) hK rfl hl.1 rfl (Nat.le_of_ble_eq_true rfl) dX10_beginFresh_4 ⟨Nat.le_of_ble_eq_true rfl, Nat.le_of_ble_eq_true rfl⟩) (fun H locs hW hS => ?_)
  clear hc
  generalize M9 = M at hW hF
  refine lv_aload_n hx hb dX10_beginFresh_7 rfl (lv_at hl 0 rfl) ?_
  refine lv_bipush (v := 28) hx hb dX10_beginFresh_8 (by decide) ?_
  refine lv_iload_n hx hb dX10_beginFresh_10 rfl (lv_at hl 1 rfl) ?_
  refine lv_iload_n hx hb dX10_beginFresh_11 rfl (lv_at hl 2 rfl) ?_
  obtain ⟨hK, hF⟩ := ps_ck_some hF
  obtain ⟨M9, hc, hF⟩ := ps_b1_some hF
  refine ps_backV (M' := M9) hS (ps_callV C hW pc_9 mf_X10_begin tq_1078 tq_38 tq_1076 ⟨Nat.le_of_ble_eq_true rfl, Nat.le_of_ble_eq_true rfl⟩ rfl rfl (As := [.int (28 : Int32), .int x1, .int x2]) (rest := []) (c_X10_begin hc) hK rfl hl.1 rfl (Nat.le_of_ble_eq_true rfl) dX10_beginFresh_12 ⟨Nat.le_of_ble_eq_true rfl, Nat.le_of_ble_eq_true rfl⟩) (fun H locs hW hS => ?_)
  clear hc
  generalize M9 = M at hW hF
  refine lv_aload_n hx hb dX10_beginFresh_15 rfl (lv_at hl 0 rfl) ?_
  refine pw_gR C hW pc_9 (k := 0) (by decide) rfl tq_918 dX10_beginFresh_16 hF (fun av1 hF => ?_)
  refine lv_bipush (v := 28) hx hb dX10_beginFresh_19 (by decide) ?_
  refine lv_iload_n hx hb dX10_beginFresh_21 rfl (lv_at hl 1 rfl) ?_
  refine lv_iadd hx hb dX10_beginFresh_22 ?_
  refine lv_aload_n hx hb dX10_beginFresh_23 rfl (lv_at hl 0 rfl) ?_
  refine pw_gR C hW pc_9 (k := 15) (by decide) rfl tq_933 dX10_beginFresh_24 hF (fun av2 hF => ?_)
  refine lv_iload_n hx hb dX10_beginFresh_27 rfl (lv_at hl 1 rfl) ?_
  refine pw_aI C hW dX10_beginFresh_28 hF (fun xv3 hF => ?_)
  refine pw_xI C hW hS dX10_beginFresh_29 hF (fun M H locs hW hS hF => ?_)
  refine lv_aload_n hx hb dX10_beginFresh_30 rfl (lv_at hl 0 rfl) ?_
  refine pw_gR C hW pc_9 (k := 0) (by decide) rfl tq_918 dX10_beginFresh_31 hF (fun av4 hF => ?_)
  refine lv_bipush (v := 28) hx hb dX10_beginFresh_34 (by decide) ?_
  refine lv_iload_n hx hb dX10_beginFresh_36 rfl (lv_at hl 2 rfl) ?_
  refine lv_iadd hx hb dX10_beginFresh_37 ?_
  refine lv_aload_n hx hb dX10_beginFresh_38 rfl (lv_at hl 0 rfl) ?_
  refine pw_gR C hW pc_9 (k := 15) (by decide) rfl tq_933 dX10_beginFresh_39 hF (fun av5 hF => ?_)
  refine lv_iload_n hx hb dX10_beginFresh_42 rfl (lv_at hl 2 rfl) ?_
  refine pw_aI C hW dX10_beginFresh_43 hF (fun xv6 hF => ?_)
  refine pw_xI C hW hS dX10_beginFresh_44 hF (fun M H locs hW hS hF => ?_)
  exact pw_vret C hW hS dX10_beginFresh_45 hF
theorem mf_X10_beginFresh : ps_mf yX10_beginFresh cX10_beginFresh 3 none 2 := ⟨tq_1230, tq_71, by decide +kernel, by decide +kernel, by decide +kernel⟩
theorem c_X10_beginFresh {l : Launch} {D : va_G} {Y : ps_A} {B : Nat} {M : ps_M} {a0 : Nat} {x1 : Int32} {x2 : Int32} {M' : ps_M} (hF : f_X10_beginFresh M a0 x1 x2 = some M') : Met l yX10_beginFresh (Cond.code yX10_beginFresh cX10_beginFresh 3 none :: tb_G) rm_X10_beginFresh (ps_PB D Y B M [.ref (B + a0), .int x1, .int x2]) (va_Qv (fun (_ : Unit) => True) (fun _ t => ps_St D Y B M' t) (fun q => B ≤ q)) 0 0 (fun q => B ≤ q) :=
  pm_of (by decide +kernel) (Nat.le_of_ble_eq_true rfl) (fun p e s m args below meth c C hW hS ls hl => kb_X10_beginFresh C hF hW hS hl)

abbrev rm_X10_freshOf : Room := { frames := 4, cells := 0, slots := 0, locals := 98 }
def f_X10_freshOf (M : ps_M) (a0 : Nat) (x1 : Int32) (x2 : Int32) : Option (Int32 × ps_M) := ps_ck M a0 9 (ps_b1 (f_X10_beginFresh M a0 x1 x2) (fun M => ps_ck M a0 9 (ps_b2 (f_X10_goOn M a0 (999 : Int32)) (fun xv1 M => some (xv1, M)))))
set_option maxRecDepth 100000 in
set_option maxHeartbeats 4000000 in
theorem kb_X10_freshOf (C : ps_C p s m args meth c cX10_freshOf 3 RX10 ((some .int)) "freshOf" D Y B) {q : Int32 × ps_M}  {M : ps_M} {a0 : Nat} {x1 : Int32} {x2 : Int32} (hF : f_X10_freshOf M a0 x1 x2 = some q) (hW : ps_W D Y B M H) (hS : va_S (fun q => B ≤ q) s.heap H locs) (hl : lv_has ls 3 [(0, .ref (B + a0)), (1, .int x1), (2, .int x2)]) : W p l e rm_X10_freshOf s m args below meth c H locs 0 0 (ps_Qi D Y B below args s 0 0 q) (F0 m 0 ls []) := by
  have hx := C.1
  have hb := C.2.1
  have hml := C.2.2.1
  have hown := C.2.2.2.1
  have hts := C.2.2.2.2.1
  unfold f_X10_freshOf at hF
  refine lv_aload_n hx hb dX10_freshOf_0 rfl (lv_at hl 0 rfl) ?_
  refine lv_iload_n hx hb dX10_freshOf_1 rfl (lv_at hl 1 rfl) ?_
  refine lv_iload_n hx hb dX10_freshOf_2 rfl (lv_at hl 2 rfl) ?_
  obtain ⟨hK, hF⟩ := ps_ck_some hF
  obtain ⟨M9, hc, hF⟩ := ps_b1_some hF
  refine ps_backV (M' := M9) hS (ps_callV C hW pc_9 mf_X10_beginFresh tq_1229 tq_55 tq_1227 ⟨Nat.le_of_ble_eq_true rfl, Nat.le_of_ble_eq_true rfl⟩ rfl rfl (As := [.int x1, .int x2]) (rest := []) (c_X10_beginFresh hc) hK rfl hl.1 rfl (Nat.le_of_ble_eq_true rfl) dX10_freshOf_3 ⟨Nat.le_of_ble_eq_true rfl, Nat.le_of_ble_eq_true rfl⟩) (fun H locs hW hS => ?_)
  clear hc
  generalize M9 = M at hW hF
  refine lv_aload_n hx hb dX10_freshOf_6 rfl (lv_at hl 0 rfl) ?_
  refine lv_sipush (v := 999) hx hb dX10_freshOf_7 (by decide) ?_
  obtain ⟨hK, hF⟩ := ps_ck_some hF
  obtain ⟨xv1, M9, hc, hF⟩ := ps_b2_some hF
  refine ps_backI (x0 := xv1) (M' := M9) hS (ps_callV C hW pc_9 mf_X10_goOn tq_1212 tq_52 tq_1210 ⟨Nat.le_of_ble_eq_true rfl, Nat.le_of_ble_eq_true rfl⟩ rfl rfl (As := [.int (999 : Int32)]) (rest := []) (c_X10_goOn hc) hK rfl hl.1 rfl (Nat.le_of_ble_eq_true rfl) dX10_freshOf_10 ⟨Nat.le_of_ble_eq_true rfl, Nat.le_of_ble_eq_true rfl⟩) (fun H locs hW hS => ?_)
  clear hc
  generalize M9 = M at hW hF
  exact pw_iret C hW hS dX10_freshOf_13 hF
theorem mf_X10_freshOf : ps_mf yX10_freshOf cX10_freshOf 3 ((some .int)) 2 := ⟨tq_1226, tq_71, by decide +kernel, by decide +kernel, by decide +kernel⟩
theorem c_X10_freshOf {l : Launch} {D : va_G} {Y : ps_A} {B : Nat} {M : ps_M} {a0 : Nat} {x1 : Int32} {x2 : Int32} {r : Int32} {M' : ps_M} (hF : f_X10_freshOf M a0 x1 x2 = some (r, M')) : Met l yX10_freshOf (Cond.code yX10_freshOf cX10_freshOf 3 ((some .int)) :: tb_G) rm_X10_freshOf (ps_PB D Y B M [.ref (B + a0), .int x1, .int x2]) (va_Qi (fun x (_ : Unit) => x = r) (fun _ t => ps_St D Y B M' t) (fun q => B ≤ q)) 0 0 (fun q => B ≤ q) :=
  pm_of (by decide +kernel) (Nat.le_of_ble_eq_true rfl) (fun p e s m args below meth c C hW hS ls hl => kb_X10_freshOf C hF hW hS hl)

abbrev rm_X10_refusedTwo : Room := { frames := 2, cells := 0, slots := 0, locals := 46 }
def f_X10_refusedTwo_b39 (M : ps_M) (t0 : Int32) : Option (Int32 × ps_M) := some (t0, M)
def f_X10_refusedTwo_b21 (M : ps_M)  : Option (Int32 × ps_M) := f_X10_refusedTwo_b39 M (-1000000001 : Int32)
def f_X10_refusedTwo (M : ps_M) (a0 : Nat) (x1 : Int32) (x2 : Int32) : Option (Int32 × ps_M) := ps_ck M a0 9 (ps_b2 (f_X10_isPerson M a0 x1) (fun xv1 M => if xv1 = 0 then (f_X10_refusedTwo_b21 M ) else (ps_ck M a0 9 (ps_b2 (f_X10_isPerson M a0 x2) (fun xv3 M => if xv3 = 0 then (f_X10_refusedTwo_b21 M ) else (if x1 = x2 then (f_X10_refusedTwo_b21 M ) else (ps_gI M a0 9 2 (fun xv6 => if xv6 = 0 then (f_X10_refusedTwo_b39 M (-1000000003 : Int32)) else (f_X10_refusedTwo_b39 M (0 : Int32))))))))))
set_option maxRecDepth 100000 in
set_option maxHeartbeats 4000000 in
theorem kb_X10_refusedTwo_b39 (C : ps_C p s m args meth c cX10_refusedTwo 3 RX10 ((some .int)) "refusedTwo" D Y B) {q : Int32 × ps_M}  {M : ps_M} {t0 : Int32} (hF : f_X10_refusedTwo_b39 M t0 = some q) (hW : ps_W D Y B M H) (hS : va_S (fun q => B ≤ q) s.heap H locs) (hl : lv_has ls 3 []) : W p l e rm_X10_refusedTwo s m args below meth c H locs 0 0 (ps_Qi D Y B below args s 0 0 q) (F0 m 39 ls [.int t0]) := by
  have hx := C.1
  have hb := C.2.1
  have hml := C.2.2.1
  have hown := C.2.2.2.1
  have hts := C.2.2.2.2.1
  unfold f_X10_refusedTwo_b39 at hF
  exact pw_iret C hW hS dX10_refusedTwo_39 hF
set_option maxRecDepth 100000 in
set_option maxHeartbeats 4000000 in
theorem kb_X10_refusedTwo_b21 (C : ps_C p s m args meth c cX10_refusedTwo 3 RX10 ((some .int)) "refusedTwo" D Y B) {q : Int32 × ps_M}  {M : ps_M}  (hF : f_X10_refusedTwo_b21 M  = some q) (hW : ps_W D Y B M H) (hS : va_S (fun q => B ≤ q) s.heap H locs) (hl : lv_has ls 3 []) : W p l e rm_X10_refusedTwo s m args below meth c H locs 0 0 (ps_Qi D Y B below args s 0 0 q) (F0 m 21 ls []) := by
  have hx := C.1
  have hb := C.2.1
  have hml := C.2.2.1
  have hown := C.2.2.2.1
  have hts := C.2.2.2.2.1
  unfold f_X10_refusedTwo_b21 at hF
  refine lv_ldc (v := -1000000001) hx hb hown (hts _ tq_1099) dX10_refusedTwo_21 ?_
  refine lv_goto (tgt := 39) hx hb dX10_refusedTwo_23 (by decide) ?_
  exact kb_X10_refusedTwo_b39 C hF hW hS (lv_sub hl [] rfl)
set_option maxRecDepth 100000 in
set_option maxHeartbeats 4000000 in
theorem kb_X10_refusedTwo (C : ps_C p s m args meth c cX10_refusedTwo 3 RX10 ((some .int)) "refusedTwo" D Y B) {q : Int32 × ps_M}  {M : ps_M} {a0 : Nat} {x1 : Int32} {x2 : Int32} (hF : f_X10_refusedTwo M a0 x1 x2 = some q) (hW : ps_W D Y B M H) (hS : va_S (fun q => B ≤ q) s.heap H locs) (hl : lv_has ls 3 [(0, .ref (B + a0)), (1, .int x1), (2, .int x2)]) : W p l e rm_X10_refusedTwo s m args below meth c H locs 0 0 (ps_Qi D Y B below args s 0 0 q) (F0 m 0 ls []) := by
  have hx := C.1
  have hb := C.2.1
  have hml := C.2.2.1
  have hown := C.2.2.2.1
  have hts := C.2.2.2.2.1
  unfold f_X10_refusedTwo at hF
  refine lv_aload_n hx hb dX10_refusedTwo_0 rfl (lv_at hl 0 rfl) ?_
  refine lv_iload_n hx hb dX10_refusedTwo_1 rfl (lv_at hl 1 rfl) ?_
  obtain ⟨hK, hF⟩ := ps_ck_some hF
  obtain ⟨xv1, M9, hc, hF⟩ := ps_b2_some hF
  refine ps_backI (x0 := xv1) (M' := M9) hS (ps_callV C hW pc_9 mf_X10_isPerson tq_1106 tq_40 tq_1104 ⟨Nat.le_of_ble_eq_true rfl, Nat.le_of_ble_eq_true rfl⟩ rfl rfl (As := [.int x1]) (rest := []) (c_X10_isPerson hc) hK rfl hl.1 rfl (Nat.le_of_ble_eq_true rfl) dX10_refusedTwo_2 ⟨Nat.le_of_ble_eq_true rfl, Nat.le_of_ble_eq_true rfl⟩) (fun H locs hW hS => ?_)
  clear hc
  generalize M9 = M at hW hF
  refine lv_if_eq (tgt := 21) hx hb dX10_refusedTwo_5 (by decide) (fun hv2 => ?_) (fun hv2 => ?_)
  · replace hF := (if_pos hv2).symm.trans hF
    exact kb_X10_refusedTwo_b21 C hF hW hS (lv_sub hl [] rfl)
  · replace hF := (if_neg hv2).symm.trans hF
    refine lv_aload_n hx hb dX10_refusedTwo_8 rfl (lv_at hl 0 rfl) ?_
    refine lv_iload_n hx hb dX10_refusedTwo_9 rfl (lv_at hl 2 rfl) ?_
    obtain ⟨hK, hF⟩ := ps_ck_some hF
    obtain ⟨xv3, M9, hc, hF⟩ := ps_b2_some hF
    refine ps_backI (x0 := xv3) (M' := M9) hS (ps_callV C hW pc_9 mf_X10_isPerson tq_1106 tq_40 tq_1104 ⟨Nat.le_of_ble_eq_true rfl, Nat.le_of_ble_eq_true rfl⟩ rfl rfl (As := [.int x2]) (rest := []) (c_X10_isPerson hc) hK rfl hl.1 rfl (Nat.le_of_ble_eq_true rfl) dX10_refusedTwo_10 ⟨Nat.le_of_ble_eq_true rfl, Nat.le_of_ble_eq_true rfl⟩) (fun H locs hW hS => ?_)
    clear hc
    generalize M9 = M at hW hF
    refine lv_if_eq (tgt := 21) hx hb dX10_refusedTwo_13 (by decide) (fun hv4 => ?_) (fun hv4 => ?_)
    · replace hF := (if_pos hv4).symm.trans hF
      exact kb_X10_refusedTwo_b21 C hF hW hS (lv_sub hl [] rfl)
    · replace hF := (if_neg hv4).symm.trans hF
      refine lv_iload_n hx hb dX10_refusedTwo_16 rfl (lv_at hl 1 rfl) ?_
      refine lv_iload_n hx hb dX10_refusedTwo_17 rfl (lv_at hl 2 rfl) ?_
      refine lv_icmp_ne (tgt := 26) hx hb dX10_refusedTwo_18 (by decide) (fun hv5 => ?_) (fun hv5 => ?_)
      · replace hF := (if_neg hv5).symm.trans hF
        refine lv_aload_n hx hb dX10_refusedTwo_26 rfl (lv_at hl 0 rfl) ?_
        refine pw_gI C hW pc_9 (k := 2) (by decide) rfl tq_920 dX10_refusedTwo_27 hF (fun xv6 hF => ?_)
        refine lv_if_ne (tgt := 38) hx hb dX10_refusedTwo_30 (by decide) (fun hv7 => ?_) (fun hv7 => ?_)
        · replace hF := (if_neg hv7).symm.trans hF
          refine lv_iconst (v := 0) hx hb dX10_refusedTwo_38 (by decide) ?_
          exact kb_X10_refusedTwo_b39 C hF hW hS (lv_sub hl [] rfl)
        · replace hF := (if_pos hv7).symm.trans hF
          refine lv_ldc (v := -1000000003) hx hb hown (hts _ tq_1112) dX10_refusedTwo_33 ?_
          refine lv_goto (tgt := 39) hx hb dX10_refusedTwo_35 (by decide) ?_
          exact kb_X10_refusedTwo_b39 C hF hW hS (lv_sub hl [] rfl)
      · replace hF := (if_pos hv5).symm.trans hF
        exact kb_X10_refusedTwo_b21 C hF hW hS (lv_sub hl [] rfl)
theorem mf_X10_refusedTwo : ps_mf yX10_refusedTwo cX10_refusedTwo 3 ((some .int)) 2 := ⟨tq_1222, tq_71, by decide +kernel, by decide +kernel, by decide +kernel⟩
theorem c_X10_refusedTwo {l : Launch} {D : va_G} {Y : ps_A} {B : Nat} {M : ps_M} {a0 : Nat} {x1 : Int32} {x2 : Int32} {r : Int32} {M' : ps_M} (hF : f_X10_refusedTwo M a0 x1 x2 = some (r, M')) : Met l yX10_refusedTwo (Cond.code yX10_refusedTwo cX10_refusedTwo 3 ((some .int)) :: tb_G) rm_X10_refusedTwo (ps_PB D Y B M [.ref (B + a0), .int x1, .int x2]) (va_Qi (fun x (_ : Unit) => x = r) (fun _ t => ps_St D Y B M' t) (fun q => B ≤ q)) 0 0 (fun q => B ≤ q) :=
  pm_of (by decide +kernel) (Nat.le_of_ble_eq_true rfl) (fun p e s m args below meth c C hW hS ls hl => kb_X10_refusedTwo C hF hW hS hl)

abbrev rm_X10_fresh : Room := { frames := 5, cells := 0, slots := 0, locals := 120 }
def f_X10_fresh_b34 (M : ps_M) (t0 : Int32) : Option (Int32 × ps_M) := some (t0, M)
def f_X10_fresh (M : ps_M) (a0 : Nat) (x1 : Int32) (x2 : Int32) : Option (Int32 × ps_M) := ps_ck M a0 9 (ps_b2 (f_X10_refusedTwo M a0 x1 x2) (fun xv1 M => if 0 ≤ xv1 then (ps_ck M a0 9 (ps_b2 (f_X10_freshOf M a0 x1 x2) (fun xv3 M => if xv3 = (99999999 : Int32) then (f_X10_fresh_b34 M (-1 : Int32)) else (f_X10_fresh_b34 M xv3)))) else (ps_ck M a0 9 (ps_b2 (f_X10_refusedTwo M a0 x1 x2) (fun xv5 M => some (xv5, M))))))
set_option maxRecDepth 100000 in
set_option maxHeartbeats 4000000 in
theorem kb_X10_fresh_b34 (C : ps_C p s m args meth c cX10_fresh 4 RX10 ((some .int)) "fresh" D Y B) {q : Int32 × ps_M}  {M : ps_M} {t0 : Int32} (hF : f_X10_fresh_b34 M t0 = some q) (hW : ps_W D Y B M H) (hS : va_S (fun q => B ≤ q) s.heap H locs) (hl : lv_has ls 4 []) : W p l e rm_X10_fresh s m args below meth c H locs 0 0 (ps_Qi D Y B below args s 0 0 q) (F0 m 34 ls [.int t0]) := by
  have hx := C.1
  have hb := C.2.1
  have hml := C.2.2.1
  have hown := C.2.2.2.1
  have hts := C.2.2.2.2.1
  unfold f_X10_fresh_b34 at hF
  exact pw_iret C hW hS dX10_fresh_34 hF
set_option maxRecDepth 100000 in
set_option maxHeartbeats 4000000 in
theorem kb_X10_fresh (C : ps_C p s m args meth c cX10_fresh 4 RX10 ((some .int)) "fresh" D Y B) {q : Int32 × ps_M}  {M : ps_M} {a0 : Nat} {x1 : Int32} {x2 : Int32} (hF : f_X10_fresh M a0 x1 x2 = some q) (hW : ps_W D Y B M H) (hS : va_S (fun q => B ≤ q) s.heap H locs) (hl : lv_has ls 4 [(0, .ref (B + a0)), (1, .int x1), (2, .int x2)]) : W p l e rm_X10_fresh s m args below meth c H locs 0 0 (ps_Qi D Y B below args s 0 0 q) (F0 m 0 ls []) := by
  have hx := C.1
  have hb := C.2.1
  have hml := C.2.2.1
  have hown := C.2.2.2.1
  have hts := C.2.2.2.2.1
  unfold f_X10_fresh at hF
  refine lv_aload_n hx hb dX10_fresh_0 rfl (lv_at hl 0 rfl) ?_
  refine lv_iload_n hx hb dX10_fresh_1 rfl (lv_at hl 1 rfl) ?_
  refine lv_iload_n hx hb dX10_fresh_2 rfl (lv_at hl 2 rfl) ?_
  obtain ⟨hK, hF⟩ := ps_ck_some hF
  obtain ⟨xv1, M9, hc, hF⟩ := ps_b2_some hF
  refine ps_backI (x0 := xv1) (M' := M9) hS (ps_callV C hW pc_9 mf_X10_refusedTwo tq_1221 tq_53 tq_1219 ⟨Nat.le_of_ble_eq_true rfl, Nat.le_of_ble_eq_true rfl⟩ rfl rfl (As := [.int x1, .int x2]) (rest := []) (c_X10_refusedTwo hc) hK rfl hl.1 rfl (Nat.le_of_ble_eq_true rfl) dX10_fresh_3 ⟨Nat.le_of_ble_eq_true rfl, Nat.le_of_ble_eq_true rfl⟩) (fun H locs hW hS => ?_)
  clear hc
  generalize M9 = M at hW hF
  refine lv_if_ge (tgt := 16) hx hb dX10_fresh_6 (by decide) (fun hv2 => ?_) (fun hv2 => ?_)
  · replace hF := (if_pos hv2).symm.trans hF
    refine lv_aload_n hx hb dX10_fresh_16 rfl (lv_at hl 0 rfl) ?_
    refine lv_iload_n hx hb dX10_fresh_17 rfl (lv_at hl 1 rfl) ?_
    refine lv_iload_n hx hb dX10_fresh_18 rfl (lv_at hl 2 rfl) ?_
    obtain ⟨hK, hF⟩ := ps_ck_some hF
    obtain ⟨xv3, M9, hc, hF⟩ := ps_b2_some hF
    refine ps_backI (x0 := xv3) (M' := M9) hS (ps_callV C hW pc_9 mf_X10_freshOf tq_1225 tq_54 tq_1223 ⟨Nat.le_of_ble_eq_true rfl, Nat.le_of_ble_eq_true rfl⟩ rfl rfl (As := [.int x1, .int x2]) (rest := []) (c_X10_freshOf hc) hK rfl hl.1 rfl (Nat.le_of_ble_eq_true rfl) dX10_fresh_19 ⟨Nat.le_of_ble_eq_true rfl, Nat.le_of_ble_eq_true rfl⟩) (fun H locs hW hS => ?_)
    clear hc
    generalize M9 = M at hW hF
    refine lv_istore_n (lv' := [(3, .int xv3), (0, .ref (B + a0)), (1, .int x1), (2, .int x2)]) hx hb dX10_fresh_22 rfl hl (by decide) rfl (fun ls hl => ?_)
    refine lv_iload_n hx hb dX10_fresh_23 rfl (lv_at hl 0 rfl) ?_
    refine lv_ldc (v := 99999999) hx hb hown (hts _ tq_1214) dX10_fresh_24 ?_
    refine lv_icmp_ne (tgt := 33) hx hb dX10_fresh_26 (by decide) (fun hv4 => ?_) (fun hv4 => ?_)
    · replace hF := (if_neg hv4).symm.trans hF
      refine lv_iload_n hx hb dX10_fresh_33 rfl (lv_at hl 0 rfl) ?_
      exact kb_X10_fresh_b34 C hF hW hS (lv_sub hl [] rfl)
    · replace hF := (if_pos hv4).symm.trans hF
      refine lv_iconst (v := -1) hx hb dX10_fresh_29 (by decide) ?_
      refine lv_goto (tgt := 34) hx hb dX10_fresh_30 (by decide) ?_
      exact kb_X10_fresh_b34 C hF hW hS (lv_sub hl [] rfl)
  · replace hF := (if_neg hv2).symm.trans hF
    refine lv_aload_n hx hb dX10_fresh_9 rfl (lv_at hl 0 rfl) ?_
    refine lv_iload_n hx hb dX10_fresh_10 rfl (lv_at hl 1 rfl) ?_
    refine lv_iload_n hx hb dX10_fresh_11 rfl (lv_at hl 2 rfl) ?_
    obtain ⟨hK, hF⟩ := ps_ck_some hF
    obtain ⟨xv5, M9, hc, hF⟩ := ps_b2_some hF
    refine ps_backI (x0 := xv5) (M' := M9) hS (ps_callV C hW pc_9 mf_X10_refusedTwo tq_1221 tq_53 tq_1219 ⟨Nat.le_of_ble_eq_true rfl, Nat.le_of_ble_eq_true rfl⟩ rfl rfl (As := [.int x1, .int x2]) (rest := []) (c_X10_refusedTwo hc) hK rfl hl.1 rfl (Nat.le_of_ble_eq_true rfl) dX10_fresh_12 ⟨Nat.le_of_ble_eq_true rfl, Nat.le_of_ble_eq_true rfl⟩) (fun H locs hW hS => ?_)
    clear hc
    generalize M9 = M at hW hF
    exact pw_iret C hW hS dX10_fresh_15 hF
theorem mf_X10_fresh : ps_mf yX10_fresh cX10_fresh 4 ((some .int)) 2 := ⟨tq_1218, tq_71, by decide +kernel, by decide +kernel, by decide +kernel⟩
theorem c_X10_fresh {l : Launch} {D : va_G} {Y : ps_A} {B : Nat} {M : ps_M} {a0 : Nat} {x1 : Int32} {x2 : Int32} {r : Int32} {M' : ps_M} (hF : f_X10_fresh M a0 x1 x2 = some (r, M')) : Met l yX10_fresh (Cond.code yX10_fresh cX10_fresh 4 ((some .int)) :: tb_G) rm_X10_fresh (ps_PB D Y B M [.ref (B + a0), .int x1, .int x2]) (va_Qi (fun x (_ : Unit) => x = r) (fun _ t => ps_St D Y B M' t) (fun q => B ≤ q)) 0 0 (fun q => B ≤ q) :=
  pm_of (by decide +kernel) (Nat.le_of_ble_eq_true rfl) (fun p e s m args below meth c C hW hS ls hl => kb_X10_fresh C hF hW hS hl)

abbrev rm_X10_wishes : Room := { frames := 4, cells := 0, slots := 0, locals := 98 }
def f_X10_wishes_b21 (M : ps_M)  : Option (Int32 × ps_M) := some ((-1000000001 : Int32), M)
def f_X10_wishes_b129 (k59 : ps_M → Nat → Int32 → Int32 → Int32 → Int32 → Int32 → Int32 → Option (Int32 × ps_M)) (M : ps_M) (a0 : Nat) (x1 : Int32) (x2 : Int32) (x3 : Int32) (x4 : Int32) (x5 : Int32) (x6 : Int32) : Option (Int32 × ps_M) := ps_v (x6 + 1) (fun xv1 => k59 M a0 x1 x2 x3 x4 x5 xv1)
def f_X10_wishes_b175 (M : ps_M) (t0 : Int32) : Option (Int32 × ps_M) := some (t0, M)
def f_X10_wishes_w59 (k59 : ps_M → Nat → Int32 → Int32 → Int32 → Int32 → Int32 → Int32 → Option (Int32 × ps_M)) (M : ps_M) (a0 : Nat) (x1 : Int32) (x2 : Int32) (x3 : Int32) (x4 : Int32) (x5 : Int32) (x6 : Int32) : Option (Int32 × ps_M) := if (400 : Int32) ≤ x6 then (if 0 ≤ x4 then (if x3 = 0 then (f_X10_wishes_b175 M x5) else (if x3 = (1 : Int32) then (f_X10_wishes_b175 M ((1 : Int32) + (x4 / (20 : Int32)))) else (f_X10_wishes_b175 M ((1 : Int32) + (x4 - x4 / (20 : Int32) * (20 : Int32)))))) else (f_X10_wishes_b175 M (-1 : Int32))) else (ps_ck M a0 9 (ps_b1 (f_X10_beginFresh M a0 x1 x2) (fun M => ps_gR M a0 9 0 (fun av6 => ps_xI M av6 ((28 : Int32) + x1) ((1 : Int32) + (x6 / (20 : Int32))) (fun M => ps_gR M a0 9 0 (fun av7 => ps_xI M av7 ((28 : Int32) + x2) ((1 : Int32) + (x6 - x6 / (20 : Int32) * (20 : Int32))) (fun M => ps_ck M a0 9 (ps_b2 (f_X10_goOn M a0 (999 : Int32)) (fun xv8 M => if x5 ≤ xv8 then (f_X10_wishes_b129 k59 M a0 x1 x2 x3 x4 x5 x6) else (f_X10_wishes_b129 k59 M a0 x1 x2 x3 x6 xv8 x6))))))))))
def f_X10_wishes_l59 : Nat → ps_M → Nat → Int32 → Int32 → Int32 → Int32 → Int32 → Int32 → Option (Int32 × ps_M)
  | 0, _, _, _, _, _, _, _, _ => none
  | n + 1, M, a0, x1, x2, x3, x4, x5, x6 => f_X10_wishes_w59 (f_X10_wishes_l59 n) M a0 x1 x2 x3 x4 x5 x6
def f_X10_wishes (M : ps_M) (a0 : Nat) (x1 : Int32) (x2 : Int32) (x3 : Int32) : Option (Int32 × ps_M) := ps_ck M a0 9 (ps_b2 (f_X10_isPerson M a0 x1) (fun xv10 M => if xv10 = 0 then (f_X10_wishes_b21 M ) else (ps_ck M a0 9 (ps_b2 (f_X10_isPerson M a0 x2) (fun xv12 M => if xv12 = 0 then (f_X10_wishes_b21 M ) else (if x1 = x2 then (f_X10_wishes_b21 M ) else (ps_b2 (f_X10_in M (x3.toInt64) (0 : Int64) (2 : Int64)) (fun xv15 M => if xv15 = 0 then (some ((-1000000002 : Int32), M)) else (ps_gI M a0 9 2 (fun xv17 => if xv17 = 0 then (some ((-1000000003 : Int32), M)) else (f_X10_wishes_l59 ps_fu M a0 x1 x2 x3 (-1 : Int32) (99999999 : Int32) (0 : Int32))))))))))))
set_option maxRecDepth 100000 in
set_option maxHeartbeats 4000000 in
theorem kb_X10_wishes_b21 (C : ps_C p s m args meth c cX10_wishes 8 RX10 ((some .int)) "wishes" D Y B) {q : Int32 × ps_M}  {M : ps_M}  (hF : f_X10_wishes_b21 M  = some q) (hW : ps_W D Y B M H) (hS : va_S (fun q => B ≤ q) s.heap H locs) (hl : lv_has ls 8 []) : W p l e rm_X10_wishes s m args below meth c H locs 0 0 (ps_Qi D Y B below args s 0 0 q) (F0 m 21 ls []) := by
  have hx := C.1
  have hb := C.2.1
  have hml := C.2.2.1
  have hown := C.2.2.2.1
  have hts := C.2.2.2.2.1
  unfold f_X10_wishes_b21 at hF
  refine lv_ldc (v := -1000000001) hx hb hown (hts _ tq_1099) dX10_wishes_21 ?_
  exact pw_iret C hW hS dX10_wishes_23 hF
set_option maxRecDepth 100000 in
set_option maxHeartbeats 4000000 in
theorem kb_X10_wishes_b129 (C : ps_C p s m args meth c cX10_wishes 8 RX10 ((some .int)) "wishes" D Y B) {q : Int32 × ps_M} (k59 : ps_M → Nat → Int32 → Int32 → Int32 → Int32 → Int32 → Int32 → Option (Int32 × ps_M)) (hk59 : ∀ (M : ps_M) (H : Heap) (locs : List Loc) (ls : Array Slot) (a0 : Nat) (x1 : Int32) (x2 : Int32) (x3 : Int32) (x4 : Int32) (x5 : Int32) (x6 : Int32), k59 M a0 x1 x2 x3 x4 x5 x6 = some q → ps_W D Y B M H → va_S (fun q => B ≤ q) s.heap H locs → lv_has ls 8 [(0, .ref (B + a0)), (1, .int x1), (2, .int x2), (3, .int x3), (4, .int x4), (5, .int x5), (6, .int x6)] → W p l e rm_X10_wishes s m args below meth c H locs 0 0 (ps_Qi D Y B below args s 0 0 q) (F0 m 59 ls [])) {M : ps_M} {a0 : Nat} {x1 : Int32} {x2 : Int32} {x3 : Int32} {x4 : Int32} {x5 : Int32} {x6 : Int32} (hF : f_X10_wishes_b129 k59 M a0 x1 x2 x3 x4 x5 x6 = some q) (hW : ps_W D Y B M H) (hS : va_S (fun q => B ≤ q) s.heap H locs) (hl : lv_has ls 8 [(0, .ref (B + a0)), (1, .int x1), (2, .int x2), (3, .int x3), (4, .int x4), (5, .int x5), (6, .int x6)]) : W p l e rm_X10_wishes s m args below meth c H locs 0 0 (ps_Qi D Y B below args s 0 0 q) (F0 m 129 ls []) := by
  have hx := C.1
  have hb := C.2.1
  have hml := C.2.2.1
  have hown := C.2.2.2.1
  have hts := C.2.2.2.2.1
  unfold f_X10_wishes_b129 at hF
  obtain ⟨xv1, exv1, hF⟩ := ps_ve hF
  refine lv_iinc (v := xv1) (lv' := [(6, .int xv1), (0, .ref (B + a0)), (1, .int x1), (2, .int x2), (3, .int x3), (4, .int x4), (5, .int x5)]) hx hb dX10_wishes_129 hl (k := 6) rfl (by rw [exv1]; rfl) (by decide) rfl (fun ls hl => ?_)
  clear exv1
  refine lv_goto (tgt := 59) hx hb dX10_wishes_132 (by decide) ?_
  exact hk59 M _ _ _ a0 x1 x2 x3 x4 x5 xv1 hF hW hS (lv_sub hl [1, 2, 3, 4, 5, 6, 0] rfl)
set_option maxRecDepth 100000 in
set_option maxHeartbeats 4000000 in
theorem kb_X10_wishes_b175 (C : ps_C p s m args meth c cX10_wishes 8 RX10 ((some .int)) "wishes" D Y B) {q : Int32 × ps_M}  {M : ps_M} {t0 : Int32} (hF : f_X10_wishes_b175 M t0 = some q) (hW : ps_W D Y B M H) (hS : va_S (fun q => B ≤ q) s.heap H locs) (hl : lv_has ls 8 []) : W p l e rm_X10_wishes s m args below meth c H locs 0 0 (ps_Qi D Y B below args s 0 0 q) (F0 m 175 ls [.int t0]) := by
  have hx := C.1
  have hb := C.2.1
  have hml := C.2.2.1
  have hown := C.2.2.2.1
  have hts := C.2.2.2.2.1
  unfold f_X10_wishes_b175 at hF
  exact pw_iret C hW hS dX10_wishes_175 hF
set_option maxRecDepth 100000 in
set_option maxHeartbeats 4000000 in
theorem kb_X10_wishes_w59 (C : ps_C p s m args meth c cX10_wishes 8 RX10 ((some .int)) "wishes" D Y B) {q : Int32 × ps_M} (k59 : ps_M → Nat → Int32 → Int32 → Int32 → Int32 → Int32 → Int32 → Option (Int32 × ps_M)) (hk59 : ∀ (M : ps_M) (H : Heap) (locs : List Loc) (ls : Array Slot) (a0 : Nat) (x1 : Int32) (x2 : Int32) (x3 : Int32) (x4 : Int32) (x5 : Int32) (x6 : Int32), k59 M a0 x1 x2 x3 x4 x5 x6 = some q → ps_W D Y B M H → va_S (fun q => B ≤ q) s.heap H locs → lv_has ls 8 [(0, .ref (B + a0)), (1, .int x1), (2, .int x2), (3, .int x3), (4, .int x4), (5, .int x5), (6, .int x6)] → W p l e rm_X10_wishes s m args below meth c H locs 0 0 (ps_Qi D Y B below args s 0 0 q) (F0 m 59 ls [])) {M : ps_M} {a0 : Nat} {x1 : Int32} {x2 : Int32} {x3 : Int32} {x4 : Int32} {x5 : Int32} {x6 : Int32} (hF : f_X10_wishes_w59 k59 M a0 x1 x2 x3 x4 x5 x6 = some q) (hW : ps_W D Y B M H) (hS : va_S (fun q => B ≤ q) s.heap H locs) (hl : lv_has ls 8 [(0, .ref (B + a0)), (1, .int x1), (2, .int x2), (3, .int x3), (4, .int x4), (5, .int x5), (6, .int x6)]) : W p l e rm_X10_wishes s m args below meth c H locs 0 0 (ps_Qi D Y B below args s 0 0 q) (F0 m 59 ls []) := by
  have hx := C.1
  have hb := C.2.1
  have hml := C.2.2.1
  have hown := C.2.2.2.1
  have hts := C.2.2.2.2.1
  unfold f_X10_wishes_w59 at hF
  refine lv_iload hx hb dX10_wishes_59 (lv_at hl 6 rfl) ?_
  refine lv_sipush (v := 400) hx hb dX10_wishes_61 (by decide) ?_
  refine lv_icmp_ge (tgt := 135) hx hb dX10_wishes_64 (by decide) (fun hv2 => ?_) (fun hv2 => ?_)
  · replace hF := (if_pos hv2).symm.trans hF
    refine lv_iload hx hb dX10_wishes_135 (lv_at hl 4 rfl) ?_
    refine lv_if_ge (tgt := 144) hx hb dX10_wishes_137 (by decide) (fun hv3 => ?_) (fun hv3 => ?_)
    · replace hF := (if_pos hv3).symm.trans hF
      refine lv_iload_n hx hb dX10_wishes_144 rfl (lv_at hl 3 rfl) ?_
      refine lv_if_ne (tgt := 153) hx hb dX10_wishes_145 (by decide) (fun hv4 => ?_) (fun hv4 => ?_)
      · replace hF := (if_neg hv4).symm.trans hF
        refine lv_iload_n hx hb dX10_wishes_153 rfl (lv_at hl 3 rfl) ?_
        refine lv_iconst (v := 1) hx hb dX10_wishes_154 (by decide) ?_
        refine lv_icmp_ne (tgt := 168) hx hb dX10_wishes_155 (by decide) (fun hv5 => ?_) (fun hv5 => ?_)
        · replace hF := (if_neg hv5).symm.trans hF
          refine lv_iconst (v := 1) hx hb dX10_wishes_168 (by decide) ?_
          refine lv_iload hx hb dX10_wishes_169 (lv_at hl 4 rfl) ?_
          refine lv_bipush (v := 20) hx hb dX10_wishes_171 (by decide) ?_
          refine lv_irem hx hb dX10_wishes_173 (by decide) ?_
          refine lv_iadd hx hb dX10_wishes_174 ?_
          exact kb_X10_wishes_b175 C hF hW hS (lv_sub hl [] rfl)
        · replace hF := (if_pos hv5).symm.trans hF
          refine lv_iconst (v := 1) hx hb dX10_wishes_158 (by decide) ?_
          refine lv_iload hx hb dX10_wishes_159 (lv_at hl 4 rfl) ?_
          refine lv_bipush (v := 20) hx hb dX10_wishes_161 (by decide) ?_
          refine lv_idiv hx hb dX10_wishes_163 (by decide) ?_
          refine lv_iadd hx hb dX10_wishes_164 ?_
          refine lv_goto (tgt := 175) hx hb dX10_wishes_165 (by decide) ?_
          exact kb_X10_wishes_b175 C hF hW hS (lv_sub hl [] rfl)
      · replace hF := (if_pos hv4).symm.trans hF
        refine lv_iload hx hb dX10_wishes_148 (lv_at hl 5 rfl) ?_
        refine lv_goto (tgt := 175) hx hb dX10_wishes_150 (by decide) ?_
        exact kb_X10_wishes_b175 C hF hW hS (lv_sub hl [] rfl)
    · replace hF := (if_neg hv3).symm.trans hF
      refine lv_iconst (v := -1) hx hb dX10_wishes_140 (by decide) ?_
      refine lv_goto (tgt := 175) hx hb dX10_wishes_141 (by decide) ?_
      exact kb_X10_wishes_b175 C hF hW hS (lv_sub hl [] rfl)
  · replace hF := (if_neg hv2).symm.trans hF
    refine lv_aload_n hx hb dX10_wishes_67 rfl (lv_at hl 0 rfl) ?_
    refine lv_iload_n hx hb dX10_wishes_68 rfl (lv_at hl 1 rfl) ?_
    refine lv_iload_n hx hb dX10_wishes_69 rfl (lv_at hl 2 rfl) ?_
    obtain ⟨hK, hF⟩ := ps_ck_some hF
    obtain ⟨M9, hc, hF⟩ := ps_b1_some hF
    refine ps_backV (M' := M9) hS (ps_callV C hW pc_9 mf_X10_beginFresh tq_1229 tq_55 tq_1227 ⟨Nat.le_of_ble_eq_true rfl, Nat.le_of_ble_eq_true rfl⟩ rfl rfl (As := [.int x1, .int x2]) (rest := []) (c_X10_beginFresh hc) hK rfl hl.1 rfl (Nat.le_of_ble_eq_true rfl) dX10_wishes_70 ⟨Nat.le_of_ble_eq_true rfl, Nat.le_of_ble_eq_true rfl⟩) (fun H locs hW hS => ?_)
    clear hc
    generalize M9 = M at hW hF
    refine lv_aload_n hx hb dX10_wishes_73 rfl (lv_at hl 0 rfl) ?_
    refine pw_gR C hW pc_9 (k := 0) (by decide) rfl tq_918 dX10_wishes_74 hF (fun av6 hF => ?_)
    refine lv_bipush (v := 28) hx hb dX10_wishes_77 (by decide) ?_
    refine lv_iload_n hx hb dX10_wishes_79 rfl (lv_at hl 1 rfl) ?_
    refine lv_iadd hx hb dX10_wishes_80 ?_
    refine lv_iconst (v := 1) hx hb dX10_wishes_81 (by decide) ?_
    refine lv_iload hx hb dX10_wishes_82 (lv_at hl 6 rfl) ?_
    refine lv_bipush (v := 20) hx hb dX10_wishes_84 (by decide) ?_
    refine lv_idiv hx hb dX10_wishes_86 (by decide) ?_
    refine lv_iadd hx hb dX10_wishes_87 ?_
    refine pw_xI C hW hS dX10_wishes_88 hF (fun M H locs hW hS hF => ?_)
    refine lv_aload_n hx hb dX10_wishes_89 rfl (lv_at hl 0 rfl) ?_
    refine pw_gR C hW pc_9 (k := 0) (by decide) rfl tq_918 dX10_wishes_90 hF (fun av7 hF => ?_)
    refine lv_bipush (v := 28) hx hb dX10_wishes_93 (by decide) ?_
    refine lv_iload_n hx hb dX10_wishes_95 rfl (lv_at hl 2 rfl) ?_
    refine lv_iadd hx hb dX10_wishes_96 ?_
    refine lv_iconst (v := 1) hx hb dX10_wishes_97 (by decide) ?_
    refine lv_iload hx hb dX10_wishes_98 (lv_at hl 6 rfl) ?_
    refine lv_bipush (v := 20) hx hb dX10_wishes_100 (by decide) ?_
    refine lv_irem hx hb dX10_wishes_102 (by decide) ?_
    refine lv_iadd hx hb dX10_wishes_103 ?_
    refine pw_xI C hW hS dX10_wishes_104 hF (fun M H locs hW hS hF => ?_)
    refine lv_aload_n hx hb dX10_wishes_105 rfl (lv_at hl 0 rfl) ?_
    refine lv_sipush (v := 999) hx hb dX10_wishes_106 (by decide) ?_
    obtain ⟨hK, hF⟩ := ps_ck_some hF
    obtain ⟨xv8, M9, hc, hF⟩ := ps_b2_some hF
    refine ps_backI (x0 := xv8) (M' := M9) hS (ps_callV C hW pc_9 mf_X10_goOn tq_1212 tq_52 tq_1210 ⟨Nat.le_of_ble_eq_true rfl, Nat.le_of_ble_eq_true rfl⟩ rfl rfl (As := [.int (999 : Int32)]) (rest := []) (c_X10_goOn hc) hK rfl hl.1 rfl (Nat.le_of_ble_eq_true rfl) dX10_wishes_109 ⟨Nat.le_of_ble_eq_true rfl, Nat.le_of_ble_eq_true rfl⟩) (fun H locs hW hS => ?_)
    clear hc
    generalize M9 = M at hW hF
    refine lv_istore (lv' := [(7, .int xv8), (0, .ref (B + a0)), (1, .int x1), (2, .int x2), (3, .int x3), (4, .int x4), (5, .int x5), (6, .int x6)]) hx hb dX10_wishes_112 hl (by decide) rfl (fun ls hl => ?_)
    refine lv_iload hx hb dX10_wishes_114 (lv_at hl 0 rfl) ?_
    refine lv_iload hx hb dX10_wishes_116 (lv_at hl 6 rfl) ?_
    refine lv_icmp_ge (tgt := 129) hx hb dX10_wishes_118 (by decide) (fun hv9 => ?_) (fun hv9 => ?_)
    · replace hF := (if_pos hv9).symm.trans hF
      exact kb_X10_wishes_b129 C k59 hk59 hF hW hS (lv_sub hl [1, 2, 3, 4, 5, 6, 7] rfl)
    · replace hF := (if_neg hv9).symm.trans hF
      refine lv_iload hx hb dX10_wishes_121 (lv_at hl 7 rfl) ?_
      refine lv_istore (lv' := [(4, .int x6), (7, .int xv8), (0, .ref (B + a0)), (1, .int x1), (2, .int x2), (3, .int x3), (5, .int x5), (6, .int x6)]) hx hb dX10_wishes_123 hl (by decide) rfl (fun ls hl => ?_)
      refine lv_iload hx hb dX10_wishes_125 (lv_at hl 1 rfl) ?_
      refine lv_istore (lv' := [(5, .int xv8), (4, .int x6), (7, .int xv8), (0, .ref (B + a0)), (1, .int x1), (2, .int x2), (3, .int x3), (6, .int x6)]) hx hb dX10_wishes_127 hl (by decide) rfl (fun ls hl => ?_)
      exact kb_X10_wishes_b129 C k59 hk59 hF hW hS (lv_sub hl [3, 4, 5, 6, 1, 0, 7] rfl)
theorem kb_X10_wishes_l59 (C : ps_C p s m args meth c cX10_wishes 8 RX10 ((some .int)) "wishes" D Y B) {q : Int32 × ps_M}  : ∀ (n : Nat) (M : ps_M) (H : Heap) (locs : List Loc) (ls : Array Slot) (a0 : Nat) (x1 : Int32) (x2 : Int32) (x3 : Int32) (x4 : Int32) (x5 : Int32) (x6 : Int32), f_X10_wishes_l59 n M a0 x1 x2 x3 x4 x5 x6 = some q → ps_W D Y B M H → va_S (fun q => B ≤ q) s.heap H locs → lv_has ls 8 [(0, .ref (B + a0)), (1, .int x1), (2, .int x2), (3, .int x3), (4, .int x4), (5, .int x5), (6, .int x6)] → W p l e rm_X10_wishes s m args below meth c H locs 0 0 (ps_Qi D Y B below args s 0 0 q) (F0 m 59 ls []) := by
  intro n
  induction n with
  | zero => intro M H locs ls a0 x1 x2 x3 x4 x5 x6 hF; cases hF
  | succ n ih => intro M H locs ls a0 x1 x2 x3 x4 x5 x6 hF hW hS hl; exact kb_X10_wishes_w59 C  (f_X10_wishes_l59 n) ih hF hW hS hl
set_option maxRecDepth 100000 in
set_option maxHeartbeats 4000000 in
theorem kb_X10_wishes (C : ps_C p s m args meth c cX10_wishes 8 RX10 ((some .int)) "wishes" D Y B) {q : Int32 × ps_M}  {M : ps_M} {a0 : Nat} {x1 : Int32} {x2 : Int32} {x3 : Int32} (hF : f_X10_wishes M a0 x1 x2 x3 = some q) (hW : ps_W D Y B M H) (hS : va_S (fun q => B ≤ q) s.heap H locs) (hl : lv_has ls 8 [(0, .ref (B + a0)), (1, .int x1), (2, .int x2), (3, .int x3)]) : W p l e rm_X10_wishes s m args below meth c H locs 0 0 (ps_Qi D Y B below args s 0 0 q) (F0 m 0 ls []) := by
  have hx := C.1
  have hb := C.2.1
  have hml := C.2.2.1
  have hown := C.2.2.2.1
  have hts := C.2.2.2.2.1
  unfold f_X10_wishes at hF
  refine lv_aload_n hx hb dX10_wishes_0 rfl (lv_at hl 0 rfl) ?_
  refine lv_iload_n hx hb dX10_wishes_1 rfl (lv_at hl 1 rfl) ?_
  obtain ⟨hK, hF⟩ := ps_ck_some hF
  obtain ⟨xv10, M9, hc, hF⟩ := ps_b2_some hF
  refine ps_backI (x0 := xv10) (M' := M9) hS (ps_callV C hW pc_9 mf_X10_isPerson tq_1106 tq_40 tq_1104 ⟨Nat.le_of_ble_eq_true rfl, Nat.le_of_ble_eq_true rfl⟩ rfl rfl (As := [.int x1]) (rest := []) (c_X10_isPerson hc) hK rfl hl.1 rfl (Nat.le_of_ble_eq_true rfl) dX10_wishes_2 ⟨Nat.le_of_ble_eq_true rfl, Nat.le_of_ble_eq_true rfl⟩) (fun H locs hW hS => ?_)
  clear hc
  generalize M9 = M at hW hF
  refine lv_if_eq (tgt := 21) hx hb dX10_wishes_5 (by decide) (fun hv11 => ?_) (fun hv11 => ?_)
  · replace hF := (if_pos hv11).symm.trans hF
    exact kb_X10_wishes_b21 C hF hW hS (lv_sub hl [] rfl)
  · replace hF := (if_neg hv11).symm.trans hF
    refine lv_aload_n hx hb dX10_wishes_8 rfl (lv_at hl 0 rfl) ?_
    refine lv_iload_n hx hb dX10_wishes_9 rfl (lv_at hl 2 rfl) ?_
    obtain ⟨hK, hF⟩ := ps_ck_some hF
    obtain ⟨xv12, M9, hc, hF⟩ := ps_b2_some hF
    refine ps_backI (x0 := xv12) (M' := M9) hS (ps_callV C hW pc_9 mf_X10_isPerson tq_1106 tq_40 tq_1104 ⟨Nat.le_of_ble_eq_true rfl, Nat.le_of_ble_eq_true rfl⟩ rfl rfl (As := [.int x2]) (rest := []) (c_X10_isPerson hc) hK rfl hl.1 rfl (Nat.le_of_ble_eq_true rfl) dX10_wishes_10 ⟨Nat.le_of_ble_eq_true rfl, Nat.le_of_ble_eq_true rfl⟩) (fun H locs hW hS => ?_)
    clear hc
    generalize M9 = M at hW hF
    refine lv_if_eq (tgt := 21) hx hb dX10_wishes_13 (by decide) (fun hv13 => ?_) (fun hv13 => ?_)
    · replace hF := (if_pos hv13).symm.trans hF
      exact kb_X10_wishes_b21 C hF hW hS (lv_sub hl [] rfl)
    · replace hF := (if_neg hv13).symm.trans hF
      refine lv_iload_n hx hb dX10_wishes_16 rfl (lv_at hl 1 rfl) ?_
      refine lv_iload_n hx hb dX10_wishes_17 rfl (lv_at hl 2 rfl) ?_
      refine lv_icmp_ne (tgt := 24) hx hb dX10_wishes_18 (by decide) (fun hv14 => ?_) (fun hv14 => ?_)
      · replace hF := (if_neg hv14).symm.trans hF
        refine lv_iload_n hx hb dX10_wishes_24 rfl (lv_at hl 3 rfl) ?_
        refine lv_i2l hx hb dX10_wishes_25 rfl ?_
        refine lv_lconst (v := 0) hx hb dX10_wishes_26 (by decide) ?_
        refine lv_ldc2 (v := 2) hx hb hown (hts _ tq_1235) dX10_wishes_27 ?_
        obtain ⟨xv15, M9, hc, hF⟩ := ps_b2_some hF
        refine ps_backI (x0 := xv15) (M' := M9) hS (ps_callS C hW mf_X10_in tq_1031 tq_1030 ⟨Nat.le_of_ble_eq_true rfl, Nat.le_of_ble_eq_true rfl⟩ rfl rfl (As := [.long (x3.toInt64), .long (0 : Int64), .long (2 : Int64)]) (rest := []) (c_X10_in hc) rfl hl.1 rfl (Nat.le_of_ble_eq_true rfl) dX10_wishes_30 ⟨Nat.le_of_ble_eq_true rfl, Nat.le_of_ble_eq_true rfl⟩) (fun H locs hW hS => ?_)
        clear hc
        generalize M9 = M at hW hF
        refine lv_if_ne (tgt := 39) hx hb dX10_wishes_33 (by decide) (fun hv16 => ?_) (fun hv16 => ?_)
        · replace hF := (if_neg hv16).symm.trans hF
          refine lv_aload_n hx hb dX10_wishes_39 rfl (lv_at hl 0 rfl) ?_
          refine pw_gI C hW pc_9 (k := 2) (by decide) rfl tq_920 dX10_wishes_40 hF (fun xv17 hF => ?_)
          refine lv_if_ne (tgt := 49) hx hb dX10_wishes_43 (by decide) (fun hv18 => ?_) (fun hv18 => ?_)
          · replace hF := (if_neg hv18).symm.trans hF
            refine lv_iconst (v := -1) hx hb dX10_wishes_49 (by decide) ?_
            refine lv_istore (lv' := [(4, .int (-1 : Int32)), (0, .ref (B + a0)), (1, .int x1), (2, .int x2), (3, .int x3)]) hx hb dX10_wishes_50 hl (by decide) rfl (fun ls hl => ?_)
            refine lv_ldc (v := 99999999) hx hb hown (hts _ tq_1214) dX10_wishes_52 ?_
            refine lv_istore (lv' := [(5, .int (99999999 : Int32)), (4, .int (-1 : Int32)), (0, .ref (B + a0)), (1, .int x1), (2, .int x2), (3, .int x3)]) hx hb dX10_wishes_54 hl (by decide) rfl (fun ls hl => ?_)
            refine lv_iconst (v := 0) hx hb dX10_wishes_56 (by decide) ?_
            refine lv_istore (lv' := [(6, .int (0 : Int32)), (5, .int (99999999 : Int32)), (4, .int (-1 : Int32)), (0, .ref (B + a0)), (1, .int x1), (2, .int x2), (3, .int x3)]) hx hb dX10_wishes_57 hl (by decide) rfl (fun ls hl => ?_)
            exact kb_X10_wishes_l59 C ps_fu M _ _ _ a0 x1 x2 x3 (-1 : Int32) (99999999 : Int32) (0 : Int32) hF hW hS (lv_sub hl [3, 4, 5, 6, 2, 1, 0] rfl)
          · replace hF := (if_pos hv18).symm.trans hF
            refine lv_ldc (v := -1000000003) hx hb hown (hts _ tq_1112) dX10_wishes_46 ?_
            exact pw_iret C hW hS dX10_wishes_48 hF
        · replace hF := (if_pos hv16).symm.trans hF
          refine lv_ldc (v := -1000000002) hx hb hown (hts _ tq_1033) dX10_wishes_36 ?_
          exact pw_iret C hW hS dX10_wishes_38 hF
      · replace hF := (if_pos hv14).symm.trans hF
        exact kb_X10_wishes_b21 C hF hW hS (lv_sub hl [] rfl)
theorem mf_X10_wishes : ps_mf yX10_wishes cX10_wishes 8 ((some .int)) 3 := ⟨tq_1234, tq_71, by decide +kernel, by decide +kernel, by decide +kernel⟩
theorem c_X10_wishes {l : Launch} {D : va_G} {Y : ps_A} {B : Nat} {M : ps_M} {a0 : Nat} {x1 : Int32} {x2 : Int32} {x3 : Int32} {r : Int32} {M' : ps_M} (hF : f_X10_wishes M a0 x1 x2 x3 = some (r, M')) : Met l yX10_wishes (Cond.code yX10_wishes cX10_wishes 8 ((some .int)) :: tb_G) rm_X10_wishes (ps_PB D Y B M [.ref (B + a0), .int x1, .int x2, .int x3]) (va_Qi (fun x (_ : Unit) => x = r) (fun _ t => ps_St D Y B M' t) (fun q => B ≤ q)) 0 0 (fun q => B ≤ q) :=
  pm_of (by decide +kernel) (Nat.le_of_ble_eq_true rfl) (fun p e s m args below meth c C hW hS ls hl => kb_X10_wishes C hF hW hS hl)

end
