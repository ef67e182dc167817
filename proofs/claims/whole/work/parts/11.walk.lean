section
variable {p : Program} {l : Launch} {e : Env} {s : State} {m : MethodId} {args : Array Value} {below : List Frame} {meth : Method} {c : Code} {H : Heap} {locs : List Loc} {ls : Array Slot} {D : va_G} {Y : ps_A} {B : Nat}
abbrev rm_X3_readClause : Room := { frames := 4, cells := 0, slots := 0, locals := 88 }
def f_X3_readClause_b120 (M : ps_M)  : Option (ps_M) := some M
def f_X3_readClause (M : ps_M) (a0 : Nat) : Option (ps_M) := ps_gR M a0 3 0 (fun av1 => ps_gI M a0 3 4 (fun xv2 => ps_ck M av1 4 (ps_b2 (f_X5_mark M av1 xv2) (fun xv3 M => ps_ck M a0 3 (ps_b2 (f_X3_faultOfWord M a0 xv3) (fun xv4 M => if xv4 = 0 then (ps_gI M a0 3 4 (fun xv6 => ps_pI M a0 3 4 (xv6 + (1 : Int32)) (fun M => if xv3 = 108 then (ps_ck M a0 3 (ps_b1 (f_X3_readLayers M a0 ) (fun M => f_X3_readClause_b120 M ))) else (if xv3 = 112 then (ps_ck M a0 3 (ps_b1 (f_X3_readPerson M a0 ) (fun M => f_X3_readClause_b120 M ))) else (if xv3 = 115 then (ps_ck M a0 3 (ps_b1 (f_X3_readSaw M a0 ) (fun M => f_X3_readClause_b120 M ))) else (ps_gR M a0 3 1 (fun av10 => ps_ck M a0 3 (ps_b2 (f_X3_readNumber M a0 (0 : Int32) (12 : Int32)) (fun xv11 M => ps_pI M av10 7 5 xv11 (fun M => ps_pZ M a0 3 6 (1 : Int32) (fun M => ps_ck M a0 3 (ps_b1 (f_X3_readEnd M a0 ) (fun M => f_X3_readClause_b120 M ))))))))))))) else (ps_gI M a0 3 4 (fun xv12 => ps_ck M a0 3 (ps_b1 (f_X3_markFault M a0 xv4 xv12) (fun M => some M))))))))))
set_option maxRecDepth 100000 in
set_option maxHeartbeats 4000000 in
theorem kb_X3_readClause_b120 (C : ps_C p s m args meth c cX3_readClause 3 RX3 none "readClause" D Y B) {q : ps_M}  {M : ps_M}  (hF : f_X3_readClause_b120 M  = some q) (hW : ps_W D Y B M H) (hS : va_S (fun q => B ≤ q) s.heap H locs) (hl : lv_has ls 3 []) : W p l e rm_X3_readClause s m args below meth c H locs 0 0 (ps_Qv D Y B below args s 0 0 q) (F0 m 120 ls []) := by
  have hx := C.1
  have hb := C.2.1
  have hml := C.2.2.1
  have hown := C.2.2.2.1
  have hts := C.2.2.2.2.1
  unfold f_X3_readClause_b120 at hF
  exact pw_vret C hW hS dX3_readClause_120 hF
set_option maxRecDepth 100000 in
set_option maxHeartbeats 4000000 in
theorem kb_X3_readClause (C : ps_C p s m args meth c cX3_readClause 3 RX3 none "readClause" D Y B) {q : ps_M}  {M : ps_M} {a0 : Nat} (hF : f_X3_readClause M a0 = some q) (hW : ps_W D Y B M H) (hS : va_S (fun q => B ≤ q) s.heap H locs) (hl : lv_has ls 3 [(0, .ref (B + a0))]) : W p l e rm_X3_readClause s m args below meth c H locs 0 0 (ps_Qv D Y B below args s 0 0 q) (F0 m 0 ls []) := by
  have hx := C.1
  have hb := C.2.1
  have hml := C.2.2.1
  have hown := C.2.2.2.1
  have hts := C.2.2.2.2.1
  unfold f_X3_readClause at hF
  refine lv_aload_n hx hb dX3_readClause_0 rfl (lv_at hl 0 rfl) ?_
  refine pw_gR C hW pc_3 (k := 0) (by decide) rfl tq_188 dX3_readClause_1 hF (fun av1 hF => ?_)
  refine lv_aload_n hx hb dX3_readClause_4 rfl (lv_at hl 0 rfl) ?_
  refine pw_gI C hW pc_3 (k := 4) (by decide) rfl tq_196 dX3_readClause_5 hF (fun xv2 hF => ?_)
  obtain ⟨hK, hF⟩ := ps_ck_some hF
  obtain ⟨xv3, M9, hc, hF⟩ := ps_b2_some hF
  refine ps_backI (x0 := xv3) (M' := M9) hS (ps_callV C hW pc_4 mf_X5_mark tq_460 tq_461 tq_459 ⟨Nat.le_of_ble_eq_true rfl, Nat.le_of_ble_eq_true rfl⟩ rfl rfl (As := [.int xv2]) (rest := []) (c_X5_mark hc) hK rfl hl.1 rfl (Nat.le_of_ble_eq_true rfl) dX3_readClause_8 ⟨Nat.le_of_ble_eq_true rfl, Nat.le_of_ble_eq_true rfl⟩) (fun H locs hW hS => ?_)
  clear hc
  generalize M9 = M at hW hF
  refine lv_istore_n (lv' := [(1, .int xv3), (0, .ref (B + a0))]) hx hb dX3_readClause_11 rfl hl (by decide) rfl (fun ls hl => ?_)
  refine lv_aload_n hx hb dX3_readClause_12 rfl (lv_at hl 1 rfl) ?_
  refine lv_iload_n hx hb dX3_readClause_13 rfl (lv_at hl 0 rfl) ?_
  obtain ⟨hK, hF⟩ := ps_ck_some hF
  obtain ⟨xv4, M9, hc, hF⟩ := ps_b2_some hF
  refine ps_backI (x0 := xv4) (M' := M9) hS (ps_callV C hW pc_3 mf_X3_faultOfWord tq_469 tq_2 tq_467 ⟨Nat.le_of_ble_eq_true rfl, Nat.le_of_ble_eq_true rfl⟩ rfl rfl (As := [.int xv3]) (rest := []) (c_X3_faultOfWord hc) hK rfl hl.1 rfl (Nat.le_of_ble_eq_true rfl) dX3_readClause_14 ⟨Nat.le_of_ble_eq_true rfl, Nat.le_of_ble_eq_true rfl⟩) (fun H locs hW hS => ?_)
  clear hc
  generalize M9 = M at hW hF
  refine lv_istore_n (lv' := [(2, .int xv4), (1, .int xv3), (0, .ref (B + a0))]) hx hb dX3_readClause_17 rfl hl (by decide) rfl (fun ls hl => ?_)
  refine lv_iload_n hx hb dX3_readClause_18 rfl (lv_at hl 0 rfl) ?_
  refine lv_if_eq (tgt := 32) hx hb dX3_readClause_19 (by decide) (fun hv5 => ?_) (fun hv5 => ?_)
  · replace hF := (if_pos hv5).symm.trans hF
    refine lv_aload_n hx hb dX3_readClause_32 rfl (lv_at hl 2 rfl) ?_
    refine lv_dup hx hb dX3_readClause_33 rfl ?_
    refine pw_gI C hW pc_3 (k := 4) (by decide) rfl tq_196 dX3_readClause_34 hF (fun xv6 hF => ?_)
    refine lv_iconst (v := 1) hx hb dX3_readClause_37 (by decide) ?_
    refine lv_iadd hx hb dX3_readClause_38 ?_
    refine pw_pI C hW hS pc_3 (k := 4) (by decide) rfl rfl tq_196 rfl dX3_readClause_39 hF (fun M H locs hW hS hF => ?_)
    refine lv_iload_n hx hb dX3_readClause_42 rfl (lv_at hl 1 rfl) ?_
    by_cases hv7 : xv3 = 108
    · replace hF := (if_pos hv7).symm.trans hF
      refine lv_lookup (tgt := 76) (off := 33) hx hb dX3_readClause_43 (by decide) (by rw [hv7]; decide) (by decide) ?_
      refine lv_aload_n hx hb dX3_readClause_76 rfl (lv_at hl 2 rfl) ?_
      obtain ⟨hK, hF⟩ := ps_ck_some hF
      obtain ⟨M9, hc, hF⟩ := ps_b1_some hF
      refine ps_backV (M' := M9) hS (ps_callV C hW pc_3 mf_X3_readLayers tq_477 tq_4 tq_475 ⟨Nat.le_of_ble_eq_true rfl, Nat.le_of_ble_eq_true rfl⟩ rfl rfl (As := []) (rest := []) (c_X3_readLayers hc) hK rfl hl.1 rfl (Nat.le_of_ble_eq_true rfl) dX3_readClause_77 ⟨Nat.le_of_ble_eq_true rfl, Nat.le_of_ble_eq_true rfl⟩) (fun H locs hW hS => ?_)
      clear hc
      generalize M9 = M at hW hF
      refine lv_goto (tgt := 120) hx hb dX3_readClause_80 (by decide) ?_
      exact kb_X3_readClause_b120 C hF hW hS (lv_sub hl [] rfl)
    replace hF := (if_neg hv7).symm.trans hF
    by_cases hv8 : xv3 = 112
    · replace hF := (if_pos hv8).symm.trans hF
      refine lv_lookup (tgt := 83) (off := 40) hx hb dX3_readClause_43 (by decide) (by rw [hv8]; decide) (by decide) ?_
      refine lv_aload_n hx hb dX3_readClause_83 rfl (lv_at hl 2 rfl) ?_
      obtain ⟨hK, hF⟩ := ps_ck_some hF
      obtain ⟨M9, hc, hF⟩ := ps_b1_some hF
      refine ps_backV (M' := M9) hS (ps_callV C hW pc_3 mf_X3_readPerson tq_493 tq_7 tq_491 ⟨Nat.le_of_ble_eq_true rfl, Nat.le_of_ble_eq_true rfl⟩ rfl rfl (As := []) (rest := []) (c_X3_readPerson hc) hK rfl hl.1 rfl (Nat.le_of_ble_eq_true rfl) dX3_readClause_84 ⟨Nat.le_of_ble_eq_true rfl, Nat.le_of_ble_eq_true rfl⟩) (fun H locs hW hS => ?_)
      clear hc
      generalize M9 = M at hW hF
      refine lv_goto (tgt := 120) hx hb dX3_readClause_87 (by decide) ?_
      exact kb_X3_readClause_b120 C hF hW hS (lv_sub hl [] rfl)
    replace hF := (if_neg hv8).symm.trans hF
    by_cases hv9 : xv3 = 115
    · replace hF := (if_pos hv9).symm.trans hF
      refine lv_lookup (tgt := 90) (off := 47) hx hb dX3_readClause_43 (by decide) (by rw [hv9]; decide) (by decide) ?_
      refine lv_aload_n hx hb dX3_readClause_90 rfl (lv_at hl 2 rfl) ?_
      obtain ⟨hK, hF⟩ := ps_ck_some hF
      obtain ⟨M9, hc, hF⟩ := ps_b1_some hF
      refine ps_backV (M' := M9) hS (ps_callV C hW pc_3 mf_X3_readSaw tq_497 tq_8 tq_495 ⟨Nat.le_of_ble_eq_true rfl, Nat.le_of_ble_eq_true rfl⟩ rfl rfl (As := []) (rest := []) (c_X3_readSaw hc) hK rfl hl.1 rfl (Nat.le_of_ble_eq_true rfl) dX3_readClause_91 ⟨Nat.le_of_ble_eq_true rfl, Nat.le_of_ble_eq_true rfl⟩) (fun H locs hW hS => ?_)
      clear hc
      generalize M9 = M at hW hF
      refine lv_goto (tgt := 120) hx hb dX3_readClause_94 (by decide) ?_
      exact kb_X3_readClause_b120 C hF hW hS (lv_sub hl [] rfl)
    replace hF := (if_neg hv9).symm.trans hF
    refine lv_lookup (tgt := 97) (off := 54) hx hb dX3_readClause_43 (by decide) (by simp [Op.lookupswitch.offset, ps_tn2 hv7 (z := 108) rfl, ps_tn2 hv8 (z := 112) rfl, ps_tn2 hv9 (z := 115) rfl]) (by decide) ?_
    refine lv_aload_n hx hb dX3_readClause_97 rfl (lv_at hl 2 rfl) ?_
    refine pw_gR C hW pc_3 (k := 1) (by decide) rfl tq_190 dX3_readClause_98 hF (fun av10 hF => ?_)
    refine lv_aload_n hx hb dX3_readClause_101 rfl (lv_at hl 2 rfl) ?_
    refine lv_iconst (v := 0) hx hb dX3_readClause_102 (by decide) ?_
    refine lv_bipush (v := 12) hx hb dX3_readClause_103 (by decide) ?_
    obtain ⟨hK, hF⟩ := ps_ck_some hF
    obtain ⟨xv11, M9, hc, hF⟩ := ps_b2_some hF
    refine ps_backI (x0 := xv11) (M' := M9) hS (ps_callV C hW pc_3 mf_X3_readNumber tq_481 tq_5 tq_479 ⟨Nat.le_of_ble_eq_true rfl, Nat.le_of_ble_eq_true rfl⟩ rfl rfl (As := [.int (0 : Int32), .int (12 : Int32)]) (rest := [.ref (B + av10)]) (c_X3_readNumber hc) hK rfl hl.1 rfl (Nat.le_of_ble_eq_true rfl) dX3_readClause_105 ⟨Nat.le_of_ble_eq_true rfl, Nat.le_of_ble_eq_true rfl⟩) (fun H locs hW hS => ?_)
    clear hc
    generalize M9 = M at hW hF
    refine pw_pI C hW hS pc_7 (k := 5) (by decide) rfl rfl tq_108 rfl dX3_readClause_108 hF (fun M H locs hW hS hF => ?_)
    refine lv_aload_n hx hb dX3_readClause_111 rfl (lv_at hl 2 rfl) ?_
    refine lv_iconst (v := 1) hx hb dX3_readClause_112 (by decide) ?_
    refine pw_pZ C hW hS pc_3 (k := 6) (by decide) rfl rfl tq_198 rfl dX3_readClause_113 hF (fun M H locs hW hS hF => ?_)
    refine lv_aload_n hx hb dX3_readClause_116 rfl (lv_at hl 2 rfl) ?_
    obtain ⟨hK, hF⟩ := ps_ck_some hF
    obtain ⟨M9, hc, hF⟩ := ps_b1_some hF
    refine ps_backV (M' := M9) hS (ps_callV C hW pc_3 mf_X3_readEnd tq_489 tq_6 tq_487 ⟨Nat.le_of_ble_eq_true rfl, Nat.le_of_ble_eq_true rfl⟩ rfl rfl (As := []) (rest := []) (c_X3_readEnd hc) hK rfl hl.1 rfl (Nat.le_of_ble_eq_true rfl) dX3_readClause_117 ⟨Nat.le_of_ble_eq_true rfl, Nat.le_of_ble_eq_true rfl⟩) (fun H locs hW hS => ?_)
    clear hc
    generalize M9 = M at hW hF
    exact kb_X3_readClause_b120 C hF hW hS (lv_sub hl [] rfl)
  · replace hF := (if_neg hv5).symm.trans hF
    refine lv_aload_n hx hb dX3_readClause_22 rfl (lv_at hl 2 rfl) ?_
    refine lv_iload_n hx hb dX3_readClause_23 rfl (lv_at hl 0 rfl) ?_
    refine lv_aload_n hx hb dX3_readClause_24 rfl (lv_at hl 2 rfl) ?_
    refine pw_gI C hW pc_3 (k := 4) (by decide) rfl tq_196 dX3_readClause_25 hF (fun xv12 hF => ?_)
    obtain ⟨hK, hF⟩ := ps_ck_some hF
    obtain ⟨M9, hc, hF⟩ := ps_b1_some hF
    refine ps_backV (M' := M9) hS (ps_callV C hW pc_3 mf_X3_markFault tq_473 tq_3 tq_471 ⟨Nat.le_of_ble_eq_true rfl, Nat.le_of_ble_eq_true rfl⟩ rfl rfl (As := [.int xv4, .int xv12]) (rest := []) (c_X3_markFault hc) hK rfl hl.1 rfl (Nat.le_of_ble_eq_true rfl) dX3_readClause_28 ⟨Nat.le_of_ble_eq_true rfl, Nat.le_of_ble_eq_true rfl⟩) (fun H locs hW hS => ?_)
    clear hc
    generalize M9 = M at hW hF
    exact pw_vret C hW hS dX3_readClause_31 hF
theorem mf_X3_readClause : ps_mf yX3_readClause cX3_readClause 3 none 0 := ⟨tq_466, tq_63, by decide +kernel, by decide +kernel, by decide +kernel⟩
theorem c_X3_readClause {l : Launch} {D : va_G} {Y : ps_A} {B : Nat} {M : ps_M} {a0 : Nat} {M' : ps_M} (hF : f_X3_readClause M a0 = some M') : Met l yX3_readClause (Cond.code yX3_readClause cX3_readClause 3 none :: tb_G) rm_X3_readClause (ps_PB D Y B M [.ref (B + a0)]) (va_Qv (fun (_ : Unit) => True) (fun _ t => ps_St D Y B M' t) (fun q => B ≤ q)) 0 0 (fun q => B ≤ q) :=
  pm_of (by decide +kernel) (Nat.le_of_ble_eq_true rfl) (fun p e s m args below meth c C hW hS ls hl => kb_X3_readClause C hF hW hS hl)

abbrev rm_X5_clear : Room := { frames := 0, cells := 0, slots := 0, locals := 0 }
def f_X5_clear (M : ps_M) (a0 : Nat) : Option (ps_M) := ps_pI M a0 4 1 (0 : Int32) (fun M => some M)
set_option maxRecDepth 100000 in
set_option maxHeartbeats 4000000 in
theorem kb_X5_clear (C : ps_C p s m args meth c cX5_clear 1 RX5 none "clear" D Y B) {q : ps_M}  {M : ps_M} {a0 : Nat} (hF : f_X5_clear M a0 = some q) (hW : ps_W D Y B M H) (hS : va_S (fun q => B ≤ q) s.heap H locs) (hl : lv_has ls 1 [(0, .ref (B + a0))]) : W p l e rm_X5_clear s m args below meth c H locs 0 0 (ps_Qv D Y B below args s 0 0 q) (F0 m 0 ls []) := by
  have hx := C.1
  have hb := C.2.1
  have hml := C.2.2.1
  have hown := C.2.2.2.1
  have hts := C.2.2.2.2.1
  unfold f_X5_clear at hF
  refine lv_aload_n hx hb dX5_clear_0 rfl (lv_at hl 0 rfl) ?_
  refine lv_iconst (v := 0) hx hb dX5_clear_1 (by decide) ?_
  refine pw_pI C hW hS pc_4 (k := 1) (by decide) rfl rfl tq_177 rfl dX5_clear_2 hF (fun M H locs hW hS hF => ?_)
  exact pw_vret C hW hS dX5_clear_5 hF
theorem mf_X5_clear : ps_mf yX5_clear cX5_clear 1 none 0 := ⟨tq_502, tq_64, by decide +kernel, by decide +kernel, by decide +kernel⟩
theorem c_X5_clear {l : Launch} {D : va_G} {Y : ps_A} {B : Nat} {M : ps_M} {a0 : Nat} {M' : ps_M} (hF : f_X5_clear M a0 = some M') : Met l yX5_clear (Cond.code yX5_clear cX5_clear 1 none :: tb_G) rm_X5_clear (ps_PB D Y B M [.ref (B + a0)]) (va_Qv (fun (_ : Unit) => True) (fun _ t => ps_St D Y B M' t) (fun q => B ≤ q)) 0 0 (fun q => B ≤ q) :=
  pm_of (by decide +kernel) (Nat.le_of_ble_eq_true rfl) (fun p e s m args below meth c C hW hS ls hl => kb_X5_clear C hF hW hS hl)

abbrev rm_X3_readText : Room := { frames := 5, cells := 0, slots := 0, locals := 110 }
def f_X3_readText_b79 (M : ps_M) (a0 : Nat) : Option (ps_M) := ps_gR M a0 3 0 (fun av1 => ps_ck M av1 4 (ps_b1 (f_X5_clear M av1 ) (fun M => some M)))
def f_X3_readText_w34 (k34 : ps_M → Nat → Int32 → Option (ps_M)) (M : ps_M) (a0 : Nat) (x1 : Int32) : Option (ps_M) := if (250 : Int32) < x1 then (f_X3_readText_b79 M a0) else (ps_gI M a0 3 2 (fun xv3 => if xv3 = 0 then (ps_ck M a0 3 (ps_b1 (f_X3_skipBlanks M a0 ) (fun M => ps_gI M a0 3 4 (fun xv5 => ps_gR M a0 3 0 (fun av6 => ps_gI M av6 4 1 (fun xv7 => if xv5 < xv7 then (ps_ck M a0 3 (ps_b1 (f_X3_readClause M a0 ) (fun M => ps_v (x1 + 1) (fun xv9 => k34 M a0 xv9)))) else (f_X3_readText_b79 M a0))))))) else (f_X3_readText_b79 M a0)))
def f_X3_readText_l34 : Nat → ps_M → Nat → Int32 → Option (ps_M)
  | 0, _, _, _ => none
  | n + 1, M, a0, x1 => f_X3_readText_w34 (f_X3_readText_l34 n) M a0 x1
def f_X3_readText (M : ps_M) (a0 : Nat) : Option (ps_M) := ps_gR M a0 3 1 (fun av10 => ps_ck M av10 7 (ps_b1 (f_X8_clear M av10 ) (fun M => ps_pI M a0 3 2 (0 : Int32) (fun M => ps_pI M a0 3 3 (-1 : Int32) (fun M => ps_pI M a0 3 4 (0 : Int32) (fun M => ps_pZ M a0 3 5 (0 : Int32) (fun M => ps_pZ M a0 3 6 (0 : Int32) (fun M => f_X3_readText_l34 ps_fu M a0 (0 : Int32)))))))))
set_option maxRecDepth 100000 in
set_option maxHeartbeats 4000000 in
theorem kb_X3_readText_b79 (C : ps_C p s m args meth c cX3_readText 2 RX3 none "readText" D Y B) {q : ps_M}  {M : ps_M} {a0 : Nat} (hF : f_X3_readText_b79 M a0 = some q) (hW : ps_W D Y B M H) (hS : va_S (fun q => B ≤ q) s.heap H locs) (hl : lv_has ls 2 [(0, .ref (B + a0))]) : W p l e rm_X3_readText s m args below meth c H locs 0 0 (ps_Qv D Y B below args s 0 0 q) (F0 m 79 ls []) := by
  have hx := C.1
  have hb := C.2.1
  have hml := C.2.2.1
  have hown := C.2.2.2.1
  have hts := C.2.2.2.2.1
  unfold f_X3_readText_b79 at hF
  refine lv_aload_n hx hb dX3_readText_79 rfl (lv_at hl 0 rfl) ?_
  refine pw_gR C hW pc_3 (k := 0) (by decide) rfl tq_188 dX3_readText_80 hF (fun av1 hF => ?_)
  obtain ⟨hK, hF⟩ := ps_ck_some hF
  obtain ⟨M9, hc, hF⟩ := ps_b1_some hF
  refine ps_backV (M' := M9) hS (ps_callV C hW pc_4 mf_X5_clear tq_500 tq_501 tq_499 ⟨Nat.le_of_ble_eq_true rfl, Nat.le_of_ble_eq_true rfl⟩ rfl rfl (As := []) (rest := []) (c_X5_clear hc) hK rfl hl.1 rfl (Nat.le_of_ble_eq_true rfl) dX3_readText_83 ⟨Nat.le_of_ble_eq_true rfl, Nat.le_of_ble_eq_true rfl⟩) (fun H locs hW hS => ?_)
  clear hc
  generalize M9 = M at hW hF
  exact pw_vret C hW hS dX3_readText_86 hF
set_option maxRecDepth 100000 in
set_option maxHeartbeats 4000000 in
theorem kb_X3_readText_w34 (C : ps_C p s m args meth c cX3_readText 2 RX3 none "readText" D Y B) {q : ps_M} (k34 : ps_M → Nat → Int32 → Option (ps_M)) (hk34 : ∀ (M : ps_M) (H : Heap) (locs : List Loc) (ls : Array Slot) (a0 : Nat) (x1 : Int32), k34 M a0 x1 = some q → ps_W D Y B M H → va_S (fun q => B ≤ q) s.heap H locs → lv_has ls 2 [(0, .ref (B + a0)), (1, .int x1)] → W p l e rm_X3_readText s m args below meth c H locs 0 0 (ps_Qv D Y B below args s 0 0 q) (F0 m 34 ls [])) {M : ps_M} {a0 : Nat} {x1 : Int32} (hF : f_X3_readText_w34 k34 M a0 x1 = some q) (hW : ps_W D Y B M H) (hS : va_S (fun q => B ≤ q) s.heap H locs) (hl : lv_has ls 2 [(0, .ref (B + a0)), (1, .int x1)]) : W p l e rm_X3_readText s m args below meth c H locs 0 0 (ps_Qv D Y B below args s 0 0 q) (F0 m 34 ls []) := by
  have hx := C.1
  have hb := C.2.1
  have hml := C.2.2.1
  have hown := C.2.2.2.1
  have hts := C.2.2.2.2.1
  unfold f_X3_readText_w34 at hF
  refine lv_iload_n hx hb dX3_readText_34 rfl (lv_at hl 1 rfl) ?_
  refine lv_sipush (v := 250) hx hb dX3_readText_35 (by decide) ?_
  refine lv_icmp_gt (tgt := 79) hx hb dX3_readText_38 (by decide) (fun hv2 => ?_) (fun hv2 => ?_)
  · replace hF := (if_pos hv2).symm.trans hF
    exact kb_X3_readText_b79 C hF hW hS (lv_sub hl [0] rfl)
  · replace hF := (if_neg hv2).symm.trans hF
    refine lv_aload_n hx hb dX3_readText_41 rfl (lv_at hl 0 rfl) ?_
    refine pw_gI C hW pc_3 (k := 2) (by decide) rfl tq_192 dX3_readText_42 hF (fun xv3 hF => ?_)
    refine lv_if_ne (tgt := 79) hx hb dX3_readText_45 (by decide) (fun hv4 => ?_) (fun hv4 => ?_)
    · replace hF := (if_neg hv4).symm.trans hF
      exact kb_X3_readText_b79 C hF hW hS (lv_sub hl [0] rfl)
    · replace hF := (if_pos hv4).symm.trans hF
      refine lv_aload_n hx hb dX3_readText_48 rfl (lv_at hl 0 rfl) ?_
      obtain ⟨hK, hF⟩ := ps_ck_some hF
      obtain ⟨M9, hc, hF⟩ := ps_b1_some hF
      refine ps_backV (M' := M9) hS (ps_callV C hW pc_3 mf_X3_skipBlanks tq_457 tq_0 tq_455 ⟨Nat.le_of_ble_eq_true rfl, Nat.le_of_ble_eq_true rfl⟩ rfl rfl (As := []) (rest := []) (c_X3_skipBlanks hc) hK rfl hl.1 rfl (Nat.le_of_ble_eq_true rfl) dX3_readText_49 ⟨Nat.le_of_ble_eq_true rfl, Nat.le_of_ble_eq_true rfl⟩) (fun H locs hW hS => ?_)
      clear hc
      generalize M9 = M at hW hF
      refine lv_aload_n hx hb dX3_readText_52 rfl (lv_at hl 0 rfl) ?_
      refine pw_gI C hW pc_3 (k := 4) (by decide) rfl tq_196 dX3_readText_53 hF (fun xv5 hF => ?_)
      refine lv_aload_n hx hb dX3_readText_56 rfl (lv_at hl 0 rfl) ?_
      refine pw_gR C hW pc_3 (k := 0) (by decide) rfl tq_188 dX3_readText_57 hF (fun av6 hF => ?_)
      refine pw_gI C hW pc_4 (k := 1) (by decide) rfl tq_179 dX3_readText_60 hF (fun xv7 hF => ?_)
      refine lv_icmp_lt (tgt := 69) hx hb dX3_readText_63 (by decide) (fun hv8 => ?_) (fun hv8 => ?_)
      · replace hF := (if_pos hv8).symm.trans hF
        refine lv_aload_n hx hb dX3_readText_69 rfl (lv_at hl 0 rfl) ?_
        obtain ⟨hK, hF⟩ := ps_ck_some hF
        obtain ⟨M9, hc, hF⟩ := ps_b1_some hF
        refine ps_backV (M' := M9) hS (ps_callV C hW pc_3 mf_X3_readClause tq_465 tq_1 tq_463 ⟨Nat.le_of_ble_eq_true rfl, Nat.le_of_ble_eq_true rfl⟩ rfl rfl (As := []) (rest := []) (c_X3_readClause hc) hK rfl hl.1 rfl (Nat.le_of_ble_eq_true rfl) dX3_readText_70 ⟨Nat.le_of_ble_eq_true rfl, Nat.le_of_ble_eq_true rfl⟩) (fun H locs hW hS => ?_)
        clear hc
        generalize M9 = M at hW hF
        obtain ⟨xv9, exv9, hF⟩ := ps_ve hF
        refine lv_iinc (v := xv9) (lv' := [(1, .int xv9), (0, .ref (B + a0))]) hx hb dX3_readText_73 hl (k := 1) rfl (by rw [exv9]; rfl) (by decide) rfl (fun ls hl => ?_)
        clear exv9
        refine lv_goto (tgt := 34) hx hb dX3_readText_76 (by decide) ?_
        exact hk34 M _ _ _ a0 xv9 hF hW hS (lv_sub hl [1, 0] rfl)
      · replace hF := (if_neg hv8).symm.trans hF
        refine lv_goto (tgt := 79) hx hb dX3_readText_66 (by decide) ?_
        exact kb_X3_readText_b79 C hF hW hS (lv_sub hl [0] rfl)
theorem kb_X3_readText_l34 (C : ps_C p s m args meth c cX3_readText 2 RX3 none "readText" D Y B) {q : ps_M}  : ∀ (n : Nat) (M : ps_M) (H : Heap) (locs : List Loc) (ls : Array Slot) (a0 : Nat) (x1 : Int32), f_X3_readText_l34 n M a0 x1 = some q → ps_W D Y B M H → va_S (fun q => B ≤ q) s.heap H locs → lv_has ls 2 [(0, .ref (B + a0)), (1, .int x1)] → W p l e rm_X3_readText s m args below meth c H locs 0 0 (ps_Qv D Y B below args s 0 0 q) (F0 m 34 ls []) := by
  intro n
  induction n with
  | zero => intro M H locs ls a0 x1 hF; cases hF
  | succ n ih => intro M H locs ls a0 x1 hF hW hS hl; exact kb_X3_readText_w34 C  (f_X3_readText_l34 n) ih hF hW hS hl
set_option maxRecDepth 100000 in
set_option maxHeartbeats 4000000 in
theorem kb_X3_readText (C : ps_C p s m args meth c cX3_readText 2 RX3 none "readText" D Y B) {q : ps_M}  {M : ps_M} {a0 : Nat} (hF : f_X3_readText M a0 = some q) (hW : ps_W D Y B M H) (hS : va_S (fun q => B ≤ q) s.heap H locs) (hl : lv_has ls 2 [(0, .ref (B + a0))]) : W p l e rm_X3_readText s m args below meth c H locs 0 0 (ps_Qv D Y B below args s 0 0 q) (F0 m 0 ls []) := by
  have hx := C.1
  have hb := C.2.1
  have hml := C.2.2.1
  have hown := C.2.2.2.1
  have hts := C.2.2.2.2.1
  unfold f_X3_readText at hF
  refine lv_aload_n hx hb dX3_readText_0 rfl (lv_at hl 0 rfl) ?_
  refine pw_gR C hW pc_3 (k := 1) (by decide) rfl tq_190 dX3_readText_1 hF (fun av10 hF => ?_)
  obtain ⟨hK, hF⟩ := ps_ck_some hF
  obtain ⟨M9, hc, hF⟩ := ps_b1_some hF
  refine ps_backV (M' := M9) hS (ps_callV C hW pc_7 mf_X8_clear tq_452 tq_453 tq_451 ⟨Nat.le_of_ble_eq_true rfl, Nat.le_of_ble_eq_true rfl⟩ rfl rfl (As := []) (rest := []) (c_X8_clear hc) hK rfl hl.1 rfl (Nat.le_of_ble_eq_true rfl) dX3_readText_4 ⟨Nat.le_of_ble_eq_true rfl, Nat.le_of_ble_eq_true rfl⟩) (fun H locs hW hS => ?_)
  clear hc
  generalize M9 = M at hW hF
  refine lv_aload_n hx hb dX3_readText_7 rfl (lv_at hl 0 rfl) ?_
  refine lv_iconst (v := 0) hx hb dX3_readText_8 (by decide) ?_
  refine pw_pI C hW hS pc_3 (k := 2) (by decide) rfl rfl tq_192 rfl dX3_readText_9 hF (fun M H locs hW hS hF => ?_)
  refine lv_aload_n hx hb dX3_readText_12 rfl (lv_at hl 0 rfl) ?_
  refine lv_iconst (v := -1) hx hb dX3_readText_13 (by decide) ?_
  refine pw_pI C hW hS pc_3 (k := 3) (by decide) rfl rfl tq_194 rfl dX3_readText_14 hF (fun M H locs hW hS hF => ?_)
  refine lv_aload_n hx hb dX3_readText_17 rfl (lv_at hl 0 rfl) ?_
  refine lv_iconst (v := 0) hx hb dX3_readText_18 (by decide) ?_
  refine pw_pI C hW hS pc_3 (k := 4) (by decide) rfl rfl tq_196 rfl dX3_readText_19 hF (fun M H locs hW hS hF => ?_)
  refine lv_aload_n hx hb dX3_readText_22 rfl (lv_at hl 0 rfl) ?_
  refine lv_iconst (v := 0) hx hb dX3_readText_23 (by decide) ?_
  refine pw_pZ C hW hS pc_3 (k := 5) (by decide) rfl rfl tq_197 rfl dX3_readText_24 hF (fun M H locs hW hS hF => ?_)
  refine lv_aload_n hx hb dX3_readText_27 rfl (lv_at hl 0 rfl) ?_
  refine lv_iconst (v := 0) hx hb dX3_readText_28 (by decide) ?_
  refine pw_pZ C hW hS pc_3 (k := 6) (by decide) rfl rfl tq_198 rfl dX3_readText_29 hF (fun M H locs hW hS hF => ?_)
  refine lv_iconst (v := 0) hx hb dX3_readText_32 (by decide) ?_
  refine lv_istore_n (lv' := [(1, .int (0 : Int32)), (0, .ref (B + a0))]) hx hb dX3_readText_33 rfl hl (by decide) rfl (fun ls hl => ?_)
  exact kb_X3_readText_l34 C ps_fu M _ _ _ a0 (0 : Int32) hF hW hS (lv_sub hl [1, 0] rfl)
theorem mf_X3_readText : ps_mf yX3_readText cX3_readText 2 none 0 := ⟨tq_450, tq_63, by decide +kernel, by decide +kernel, by decide +kernel⟩
theorem c_X3_readText {l : Launch} {D : va_G} {Y : ps_A} {B : Nat} {M : ps_M} {a0 : Nat} {M' : ps_M} (hF : f_X3_readText M a0 = some M') : Met l yX3_readText (Cond.code yX3_readText cX3_readText 2 none :: tb_G) rm_X3_readText (ps_PB D Y B M [.ref (B + a0)]) (va_Qv (fun (_ : Unit) => True) (fun _ t => ps_St D Y B M' t) (fun q => B ≤ q)) 0 0 (fun q => B ≤ q) :=
  pm_of (by decide +kernel) (Nat.le_of_ble_eq_true rfl) (fun p e s m args below meth c C hW hS ls hl => kb_X3_readText C hF hW hS hl)

abbrev rm_X5_add : Room := { frames := 1, cells := 0, slots := 0, locals := 22 }
def f_X5_add (M : ps_M) (a0 : Nat) (x1 : Int32) : Option (Int32 × ps_M) := ps_gI M a0 4 1 (fun xv1 => ps_gR M a0 4 0 (fun av2 => ps_aL M av2 (fun xv3 => if xv1 < xv3 then (ps_gR M a0 4 0 (fun av5 => ps_gI M a0 4 1 (fun xv6 => ps_b1 (f_X4_put M av5 xv6 x1) (fun M => ps_gI M a0 4 1 (fun xv7 => ps_pI M a0 4 1 (xv7 + (1 : Int32)) (fun M => ps_z (1 : Int32) M)))))) else (ps_z (0 : Int32) M))))
set_option maxRecDepth 100000 in
set_option maxHeartbeats 4000000 in
theorem kb_X5_add (C : ps_C p s m args meth c cX5_add 2 RX5 ((some .boolean)) "add" D Y B) {q : Int32 × ps_M}  {M : ps_M} {a0 : Nat} {x1 : Int32} (hF : f_X5_add M a0 x1 = some q) (hW : ps_W D Y B M H) (hS : va_S (fun q => B ≤ q) s.heap H locs) (hl : lv_has ls 2 [(0, .ref (B + a0)), (1, .int x1)]) : W p l e rm_X5_add s m args below meth c H locs 0 0 (ps_Qi D Y B below args s 0 0 q) (F0 m 0 ls []) := by
  have hx := C.1
  have hb := C.2.1
  have hml := C.2.2.1
  have hown := C.2.2.2.1
  have hts := C.2.2.2.2.1
  unfold f_X5_add at hF
  refine lv_aload_n hx hb dX5_add_0 rfl (lv_at hl 0 rfl) ?_
  refine pw_gI C hW pc_4 (k := 1) (by decide) rfl tq_177 dX5_add_1 hF (fun xv1 hF => ?_)
  refine lv_aload_n hx hb dX5_add_4 rfl (lv_at hl 0 rfl) ?_
  refine pw_gR C hW pc_4 (k := 0) (by decide) rfl tq_176 dX5_add_5 hF (fun av2 hF => ?_)
  refine pw_aL C hW dX5_add_8 hF (fun xv3 hF => ?_)
  refine lv_icmp_lt (tgt := 14) hx hb dX5_add_9 (by decide) (fun hv4 => ?_) (fun hv4 => ?_)
  · replace hF := (if_pos hv4).symm.trans hF
    refine lv_aload_n hx hb dX5_add_14 rfl (lv_at hl 0 rfl) ?_
    refine pw_gR C hW pc_4 (k := 0) (by decide) rfl tq_176 dX5_add_15 hF (fun av5 hF => ?_)
    refine lv_aload_n hx hb dX5_add_18 rfl (lv_at hl 0 rfl) ?_
    refine pw_gI C hW pc_4 (k := 1) (by decide) rfl tq_177 dX5_add_19 hF (fun xv6 hF => ?_)
    refine lv_iload_n hx hb dX5_add_22 rfl (lv_at hl 1 rfl) ?_
    obtain ⟨M9, hc, hF⟩ := ps_b1_some hF
    refine ps_backV (M' := M9) hS (ps_callS C hW mf_X4_put tq_440 tq_439 ⟨Nat.le_of_ble_eq_true rfl, Nat.le_of_ble_eq_true rfl⟩ rfl rfl (As := [.ref (B + av5), .int xv6, .int x1]) (rest := []) (c_X4_put hc) rfl hl.1 rfl (Nat.le_of_ble_eq_true rfl) dX5_add_23 ⟨Nat.le_of_ble_eq_true rfl, Nat.le_of_ble_eq_true rfl⟩) (fun H locs hW hS => ?_)
    clear hc
    generalize M9 = M at hW hF
    refine lv_aload_n hx hb dX5_add_26 rfl (lv_at hl 0 rfl) ?_
    refine lv_dup hx hb dX5_add_27 rfl ?_
    refine pw_gI C hW pc_4 (k := 1) (by decide) rfl tq_177 dX5_add_28 hF (fun xv7 hF => ?_)
    refine lv_iconst (v := 1) hx hb dX5_add_31 (by decide) ?_
    refine lv_iadd hx hb dX5_add_32 ?_
    refine pw_pI C hW hS pc_4 (k := 1) (by decide) rfl rfl tq_177 rfl dX5_add_33 hF (fun M H locs hW hS hF => ?_)
    refine lv_iconst (v := 1) hx hb dX5_add_36 (by decide) ?_
    exact pw_zret C hW hS dX5_add_37 hF
  · replace hF := (if_neg hv4).symm.trans hF
    refine lv_iconst (v := 0) hx hb dX5_add_12 (by decide) ?_
    exact pw_zret C hW hS dX5_add_13 hF
theorem mf_X5_add : ps_mf yX5_add cX5_add 2 ((some .boolean)) 1 := ⟨tq_438, tq_64, by decide +kernel, by decide +kernel, by decide +kernel⟩
theorem c_X5_add {l : Launch} {D : va_G} {Y : ps_A} {B : Nat} {M : ps_M} {a0 : Nat} {x1 : Int32} {r : Int32} {M' : ps_M} (hF : f_X5_add M a0 x1 = some (r, M')) : Met l yX5_add (Cond.code yX5_add cX5_add 2 ((some .boolean)) :: tb_G) rm_X5_add (ps_PB D Y B M [.ref (B + a0), .int x1]) (va_Qi (fun x (_ : Unit) => x = r) (fun _ t => ps_St D Y B M' t) (fun q => B ≤ q)) 0 0 (fun q => B ≤ q) :=
  pm_of (by decide +kernel) (Nat.le_of_ble_eq_true rfl) (fun p e s m args below meth c C hW hS ls hl => kb_X5_add C hF hW hS hl)

abbrev rm_X8_bottom : Room := { frames := 0, cells := 0, slots := 0, locals := 0 }
def f_X8_bottom (M : ps_M) (a0 : Nat) : Option (Int32 × ps_M) := ps_gI M a0 7 0 (fun xv1 => some ((xv1 * (100 : Int32)), M))
set_option maxRecDepth 100000 in
set_option maxHeartbeats 4000000 in
theorem kb_X8_bottom (C : ps_C p s m args meth c cX8_bottom 1 RX8 ((some .int)) "bottom" D Y B) {q : Int32 × ps_M}  {M : ps_M} {a0 : Nat} (hF : f_X8_bottom M a0 = some q) (hW : ps_W D Y B M H) (hS : va_S (fun q => B ≤ q) s.heap H locs) (hl : lv_has ls 1 [(0, .ref (B + a0))]) : W p l e rm_X8_bottom s m args below meth c H locs 0 0 (ps_Qi D Y B below args s 0 0 q) (F0 m 0 ls []) := by
  have hx := C.1
  have hb := C.2.1
  have hml := C.2.2.1
  have hown := C.2.2.2.1
  have hts := C.2.2.2.2.1
  unfold f_X8_bottom at hF
  refine lv_aload_n hx hb dX8_bottom_0 rfl (lv_at hl 0 rfl) ?_
  refine pw_gI C hW pc_7 (k := 0) (by decide) rfl tq_88 dX8_bottom_1 hF (fun xv1 hF => ?_)
  refine lv_bipush (v := 100) hx hb dX8_bottom_4 (by decide) ?_
  refine lv_imul hx hb dX8_bottom_6 ?_
  exact pw_iret C hW hS dX8_bottom_7 hF
theorem mf_X8_bottom : ps_mf yX8_bottom cX8_bottom 1 ((some .int)) 0 := ⟨tq_542, tq_62, by decide +kernel, by decide +kernel, by decide +kernel⟩
theorem c_X8_bottom {l : Launch} {D : va_G} {Y : ps_A} {B : Nat} {M : ps_M} {a0 : Nat} {r : Int32} {M' : ps_M} (hF : f_X8_bottom M a0 = some (r, M')) : Met l yX8_bottom (Cond.code yX8_bottom cX8_bottom 1 ((some .int)) :: tb_G) rm_X8_bottom (ps_PB D Y B M [.ref (B + a0)]) (va_Qi (fun x (_ : Unit) => x = r) (fun _ t => ps_St D Y B M' t) (fun q => B ≤ q)) 0 0 (fun q => B ≤ q) :=
  pm_of (by decide +kernel) (Nat.le_of_ble_eq_true rfl) (fun p e s m args below meth c C hW hS ls hl => kb_X8_bottom C hF hW hS hl)

abbrev rm_X7_isThrough : Room := { frames := 1, cells := 0, slots := 0, locals := 20 }
def f_X7_isThrough_b23 (M : ps_M) (t0 : Int32) : Option (Int32 × ps_M) := ps_z t0 M
def f_X7_isThrough_b22 (M : ps_M)  : Option (Int32 × ps_M) := f_X7_isThrough_b23 M (0 : Int32)
def f_X7_isThrough (M : ps_M) (a0 : Nat) (a1 : Nat) : Option (Int32 × ps_M) := ps_gI M a1 7 0 (fun xv1 => if xv1 ≤ 0 then (f_X7_isThrough_b22 M ) else (ps_gI M a0 6 3 (fun xv3 => ps_ck M a1 7 (ps_b2 (f_X8_bottom M a1 ) (fun xv4 M => if xv3 < xv4 then (f_X7_isThrough_b22 M ) else (f_X7_isThrough_b23 M (1 : Int32)))))))
set_option maxRecDepth 100000 in
set_option maxHeartbeats 4000000 in
theorem kb_X7_isThrough_b23 (C : ps_C p s m args meth c cX7_isThrough 2 RX7 ((some .boolean)) "isThrough" D Y B) {q : Int32 × ps_M}  {M : ps_M} {t0 : Int32} (hF : f_X7_isThrough_b23 M t0 = some q) (hW : ps_W D Y B M H) (hS : va_S (fun q => B ≤ q) s.heap H locs) (hl : lv_has ls 2 []) : W p l e rm_X7_isThrough s m args below meth c H locs 0 0 (ps_Qi D Y B below args s 0 0 q) (F0 m 23 ls [.int t0]) := by
  have hx := C.1
  have hb := C.2.1
  have hml := C.2.2.1
  have hown := C.2.2.2.1
  have hts := C.2.2.2.2.1
  unfold f_X7_isThrough_b23 at hF
  exact pw_zret C hW hS dX7_isThrough_23 hF
set_option maxRecDepth 100000 in
set_option maxHeartbeats 4000000 in
theorem kb_X7_isThrough_b22 (C : ps_C p s m args meth c cX7_isThrough 2 RX7 ((some .boolean)) "isThrough" D Y B) {q : Int32 × ps_M}  {M : ps_M}  (hF : f_X7_isThrough_b22 M  = some q) (hW : ps_W D Y B M H) (hS : va_S (fun q => B ≤ q) s.heap H locs) (hl : lv_has ls 2 []) : W p l e rm_X7_isThrough s m args below meth c H locs 0 0 (ps_Qi D Y B below args s 0 0 q) (F0 m 22 ls []) := by
  have hx := C.1
  have hb := C.2.1
  have hml := C.2.2.1
  have hown := C.2.2.2.1
  have hts := C.2.2.2.2.1
  unfold f_X7_isThrough_b22 at hF
  refine lv_iconst (v := 0) hx hb dX7_isThrough_22 (by decide) ?_
  exact kb_X7_isThrough_b23 C hF hW hS (lv_sub hl [] rfl)
set_option maxRecDepth 100000 in
set_option maxHeartbeats 4000000 in
theorem kb_X7_isThrough (C : ps_C p s m args meth c cX7_isThrough 2 RX7 ((some .boolean)) "isThrough" D Y B) {q : Int32 × ps_M}  {M : ps_M} {a0 : Nat} {a1 : Nat} (hF : f_X7_isThrough M a0 a1 = some q) (hW : ps_W D Y B M H) (hS : va_S (fun q => B ≤ q) s.heap H locs) (hl : lv_has ls 2 [(0, .ref (B + a0)), (1, .ref (B + a1))]) : W p l e rm_X7_isThrough s m args below meth c H locs 0 0 (ps_Qi D Y B below args s 0 0 q) (F0 m 0 ls []) := by
  have hx := C.1
  have hb := C.2.1
  have hml := C.2.2.1
  have hown := C.2.2.2.1
  have hts := C.2.2.2.2.1
  unfold f_X7_isThrough at hF
  refine lv_aload_n hx hb dX7_isThrough_0 rfl (lv_at hl 1 rfl) ?_
  refine pw_gI C hW pc_7 (k := 0) (by decide) rfl tq_91 dX7_isThrough_1 hF (fun xv1 hF => ?_)
  refine lv_if_le (tgt := 22) hx hb dX7_isThrough_4 (by decide) (fun hv2 => ?_) (fun hv2 => ?_)
  · replace hF := (if_pos hv2).symm.trans hF
    exact kb_X7_isThrough_b22 C hF hW hS (lv_sub hl [] rfl)
  · replace hF := (if_neg hv2).symm.trans hF
    refine lv_aload_n hx hb dX7_isThrough_7 rfl (lv_at hl 0 rfl) ?_
    refine pw_gI C hW pc_6 (k := 3) (by decide) rfl tq_228 dX7_isThrough_8 hF (fun xv3 hF => ?_)
    refine lv_aload_n hx hb dX7_isThrough_11 rfl (lv_at hl 1 rfl) ?_
    obtain ⟨hK, hF⟩ := ps_ck_some hF
    obtain ⟨xv4, M9, hc, hF⟩ := ps_b2_some hF
    refine ps_backI (x0 := xv4) (M' := M9) hS (ps_callV C hW pc_7 mf_X8_bottom tq_540 tq_541 tq_539 ⟨Nat.le_of_ble_eq_true rfl, Nat.le_of_ble_eq_true rfl⟩ rfl rfl (As := []) (rest := [.int xv3]) (c_X8_bottom hc) hK rfl hl.1 rfl (Nat.le_of_ble_eq_true rfl) dX7_isThrough_12 ⟨Nat.le_of_ble_eq_true rfl, Nat.le_of_ble_eq_true rfl⟩) (fun H locs hW hS => ?_)
    clear hc
    generalize M9 = M at hW hF
    refine lv_icmp_lt (tgt := 22) hx hb dX7_isThrough_15 (by decide) (fun hv5 => ?_) (fun hv5 => ?_)
    · replace hF := (if_pos hv5).symm.trans hF
      exact kb_X7_isThrough_b22 C hF hW hS (lv_sub hl [] rfl)
    · replace hF := (if_neg hv5).symm.trans hF
      refine lv_iconst (v := 1) hx hb dX7_isThrough_18 (by decide) ?_
      refine lv_goto (tgt := 23) hx hb dX7_isThrough_19 (by decide) ?_
      exact kb_X7_isThrough_b23 C hF hW hS (lv_sub hl [] rfl)
theorem mf_X7_isThrough : ps_mf yX7_isThrough cX7_isThrough 2 ((some .boolean)) 1 := ⟨tq_538, tq_66, by decide +kernel, by decide +kernel, by decide +kernel⟩
theorem c_X7_isThrough {l : Launch} {D : va_G} {Y : ps_A} {B : Nat} {M : ps_M} {a0 : Nat} {a1 : Nat} {r : Int32} {M' : ps_M} (hF : f_X7_isThrough M a0 a1 = some (r, M')) : Met l yX7_isThrough (Cond.code yX7_isThrough cX7_isThrough 2 ((some .boolean)) :: tb_G) rm_X7_isThrough (ps_PB D Y B M [.ref (B + a0), .ref (B + a1)]) (va_Qi (fun x (_ : Unit) => x = r) (fun _ t => ps_St D Y B M' t) (fun q => B ≤ q)) 0 0 (fun q => B ≤ q) :=
  pm_of (by decide +kernel) (Nat.le_of_ble_eq_true rfl) (fun p e s m args below meth c C hW hS ls hl => kb_X7_isThrough C hF hW hS hl)

abbrev rm_X7_buckles : Room := { frames := 0, cells := 0, slots := 0, locals := 0 }
def f_X7_buckles_b20 (M : ps_M) (t0 : Int32) : Option (Int32 × ps_M) := ps_z t0 M
def f_X7_buckles_b19 (M : ps_M)  : Option (Int32 × ps_M) := f_X7_buckles_b20 M (0 : Int32)
def f_X7_buckles (M : ps_M) (a0 : Nat) (x1 : Int32) : Option (Int32 × ps_M) := if x1 ≤ (5 : Int32) then (f_X7_buckles_b19 M ) else (ps_gI M a0 7 3 (fun xv2 => if (x1 - (5 : Int32)) ≤ xv2 then (f_X7_buckles_b19 M ) else (f_X7_buckles_b20 M (1 : Int32))))
set_option maxRecDepth 100000 in
set_option maxHeartbeats 4000000 in
theorem kb_X7_buckles_b20 (C : ps_C p s m args meth c cX7_buckles 2 RX7 ((some .boolean)) "buckles" D Y B) {q : Int32 × ps_M}  {M : ps_M} {t0 : Int32} (hF : f_X7_buckles_b20 M t0 = some q) (hW : ps_W D Y B M H) (hS : va_S (fun q => B ≤ q) s.heap H locs) (hl : lv_has ls 2 []) : W p l e rm_X7_buckles s m args below meth c H locs 0 0 (ps_Qi D Y B below args s 0 0 q) (F0 m 20 ls [.int t0]) := by
  have hx := C.1
  have hb := C.2.1
  have hml := C.2.2.1
  have hown := C.2.2.2.1
  have hts := C.2.2.2.2.1
  unfold f_X7_buckles_b20 at hF
  exact pw_zret C hW hS dX7_buckles_20 hF
set_option maxRecDepth 100000 in
set_option maxHeartbeats 4000000 in
theorem kb_X7_buckles_b19 (C : ps_C p s m args meth c cX7_buckles 2 RX7 ((some .boolean)) "buckles" D Y B) {q : Int32 × ps_M}  {M : ps_M}  (hF : f_X7_buckles_b19 M  = some q) (hW : ps_W D Y B M H) (hS : va_S (fun q => B ≤ q) s.heap H locs) (hl : lv_has ls 2 []) : W p l e rm_X7_buckles s m args below meth c H locs 0 0 (ps_Qi D Y B below args s 0 0 q) (F0 m 19 ls []) := by
  have hx := C.1
  have hb := C.2.1
  have hml := C.2.2.1
  have hown := C.2.2.2.1
  have hts := C.2.2.2.2.1
  unfold f_X7_buckles_b19 at hF
  refine lv_iconst (v := 0) hx hb dX7_buckles_19 (by decide) ?_
  exact kb_X7_buckles_b20 C hF hW hS (lv_sub hl [] rfl)
set_option maxRecDepth 100000 in
set_option maxHeartbeats 4000000 in
theorem kb_X7_buckles (C : ps_C p s m args meth c cX7_buckles 2 RX7 ((some .boolean)) "buckles" D Y B) {q : Int32 × ps_M}  {M : ps_M} {a0 : Nat} {x1 : Int32} (hF : f_X7_buckles M a0 x1 = some q) (hW : ps_W D Y B M H) (hS : va_S (fun q => B ≤ q) s.heap H locs) (hl : lv_has ls 2 [(0, .ref (B + a0)), (1, .int x1)]) : W p l e rm_X7_buckles s m args below meth c H locs 0 0 (ps_Qi D Y B below args s 0 0 q) (F0 m 0 ls []) := by
  have hx := C.1
  have hb := C.2.1
  have hml := C.2.2.1
  have hown := C.2.2.2.1
  have hts := C.2.2.2.2.1
  unfold f_X7_buckles at hF
  refine lv_iload_n hx hb dX7_buckles_0 rfl (lv_at hl 1 rfl) ?_
  refine lv_iconst (v := 5) hx hb dX7_buckles_1 (by decide) ?_
  refine lv_icmp_le (tgt := 19) hx hb dX7_buckles_2 (by decide) (fun hv1 => ?_) (fun hv1 => ?_)
  · replace hF := (if_pos hv1).symm.trans hF
    exact kb_X7_buckles_b19 C hF hW hS (lv_sub hl [] rfl)
  · replace hF := (if_neg hv1).symm.trans hF
    refine lv_iload_n hx hb dX7_buckles_5 rfl (lv_at hl 1 rfl) ?_
    refine lv_iconst (v := 5) hx hb dX7_buckles_6 (by decide) ?_
    refine lv_isub hx hb dX7_buckles_7 ?_
    refine lv_aload_n hx hb dX7_buckles_8 rfl (lv_at hl 0 rfl) ?_
    refine pw_gI C hW pc_7 (k := 3) (by decide) rfl tq_102 dX7_buckles_9 hF (fun xv2 hF => ?_)
    refine lv_icmp_le (tgt := 19) hx hb dX7_buckles_12 (by decide) (fun hv3 => ?_) (fun hv3 => ?_)
    · replace hF := (if_pos hv3).symm.trans hF
      exact kb_X7_buckles_b19 C hF hW hS (lv_sub hl [] rfl)
    · replace hF := (if_neg hv3).symm.trans hF
      refine lv_iconst (v := 1) hx hb dX7_buckles_15 (by decide) ?_
      refine lv_goto (tgt := 20) hx hb dX7_buckles_16 (by decide) ?_
      exact kb_X7_buckles_b20 C hF hW hS (lv_sub hl [] rfl)
theorem mf_X7_buckles : ps_mf yX7_buckles cX7_buckles 2 ((some .boolean)) 2 := ⟨tq_617, tq_66, by decide +kernel, by decide +kernel, by decide +kernel⟩
theorem c_X7_buckles {l : Launch} {D : va_G} {Y : ps_A} {B : Nat} {M : ps_M} {a0 : Nat} {x1 : Int32} {r : Int32} {M' : ps_M} (hF : f_X7_buckles M a0 x1 = some (r, M')) : Met l yX7_buckles (Cond.code yX7_buckles cX7_buckles 2 ((some .boolean)) :: tb_G) rm_X7_buckles (ps_PB D Y B M [.ref (B + a0), .int x1]) (va_Qi (fun x (_ : Unit) => x = r) (fun _ t => ps_St D Y B M' t) (fun q => B ≤ q)) 0 0 (fun q => B ≤ q) :=
  pm_of (by decide +kernel) (Nat.le_of_ble_eq_true rfl) (fun p e s m args below meth c C hW hS ls hl => kb_X7_buckles C hF hW hS hl)

abbrev rm_X7_pullOf : Room := { frames := 1, cells := 0, slots := 0, locals := 21 }
def f_X7_pullOf_b131 (M : ps_M) (x5 : Int32) : Option (Int32 × ps_M) := ps_v (if (0 : Int32) < x5 then x5 else (0 : Int32)) (fun xv1 => some (xv1, M))
def f_X7_pullOf_b92 (M : ps_M) (a0 : Nat) (a1 : Nat) (x5 : Int32) : Option (Int32 × ps_M) := ps_gI M a0 6 6 (fun xv2 => ps_v ((x5 - (xv2 / (10 : Int32)))) (fun xv3 => ps_gI M a0 6 8 (fun xv4 => if xv4 = 0 then (ps_gI M a0 6 3 (fun xv6 => ps_gI M a1 7 5 (fun xv7 => if (xv6 / (100 : Int32)) < xv7 then (f_X7_pullOf_b131 M xv3) else (ps_v ((xv3 / (2 : Int32))) (fun xv9 => f_X7_pullOf_b131 M xv9))))) else (f_X7_pullOf_b131 M xv3))))
def f_X7_pullOf (M : ps_M) (a0 : Nat) (a1 : Nat) (x2 : Int32) (x3 : Int32) : Option (Int32 × ps_M) := ps_gR M a1 7 7 (fun av10 => ps_b2 (f_X4_at M av10 x2) (fun xv11 M => ps_gR M a0 6 9 (fun av12 => ps_b2 (f_X4_at M av12 x2) (fun xv13 M => ps_v (if xv13 < xv11 then xv13 else xv11) (fun xv14 => ps_gR M a0 6 12 (fun av15 => ps_b2 (f_X4_at M av15 x2) (fun xv16 M => ps_gR M a0 6 11 (fun av17 => ps_b2 (f_X4_at M av17 x2) (fun xv18 M => ps_v (if (0 : Int32) < ((xv14 + xv16) - (xv18 / (10 : Int32))) then ((xv14 + xv16) - (xv18 / (10 : Int32))) else (0 : Int32)) (fun xv19 => ps_b2 (f_X7_buckles M a1 x3) (fun xv20 M => if xv20 = 0 then (if x3 ≤ (5 : Int32) then (if (5 : Int32) ≤ x3 then (f_X7_pullOf_b92 M a0 a1 xv19) else (ps_v ((xv19 - x3)) (fun xv24 => f_X7_pullOf_b92 M a0 a1 xv24))) else (ps_v ((xv19 + (xv19 / (2 : Int32)))) (fun xv25 => f_X7_pullOf_b92 M a0 a1 xv25))) else (f_X7_pullOf_b92 M a0 a1 (0 : Int32)))))))))))))
set_option maxRecDepth 100000 in
set_option maxHeartbeats 4000000 in
theorem kb_X7_pullOf_b131 (C : ps_C p s m args meth c cX7_pullOf 6 RX7 ((some .int)) "pullOf" D Y B) {q : Int32 × ps_M}  {M : ps_M} {x5 : Int32} (hF : f_X7_pullOf_b131 M x5 = some q) (hW : ps_W D Y B M H) (hS : va_S (fun q => B ≤ q) s.heap H locs) (hl : lv_has ls 6 [(5, .int x5)]) : W p l e rm_X7_pullOf s m args below meth c H locs 0 0 (ps_Qi D Y B below args s 0 0 q) (F0 m 131 ls []) := by
  have hx := C.1
  have hb := C.2.1
  have hml := C.2.2.1
  have hown := C.2.2.2.1
  have hts := C.2.2.2.2.1
  unfold f_X7_pullOf_b131 at hF
  refine lv_iconst (v := 0) hx hb dX7_pullOf_131 (by decide) ?_
  refine lv_iload hx hb dX7_pullOf_132 (lv_at hl 0 rfl) ?_
  refine va_mmax hx hb (hml.trans hl.1.symm) hown (hts _ tq_614) (hts _ tq_174) (hts _ tq_65) (hts _ tq_175) (Nat.le_of_ble_eq_true rfl) (Nat.le_of_ble_eq_true rfl) (Nat.le_of_ble_eq_true rfl) (Nat.le_of_ble_eq_true rfl) dX7_pullOf_134 ?_
  refine pw_v hF (fun xv1 hF => ?_)
  exact pw_iret C hW hS dX7_pullOf_137 hF
set_option maxRecDepth 100000 in
set_option maxHeartbeats 4000000 in
theorem kb_X7_pullOf_b92 (C : ps_C p s m args meth c cX7_pullOf 6 RX7 ((some .int)) "pullOf" D Y B) {q : Int32 × ps_M}  {M : ps_M} {a0 : Nat} {a1 : Nat} {x5 : Int32} (hF : f_X7_pullOf_b92 M a0 a1 x5 = some q) (hW : ps_W D Y B M H) (hS : va_S (fun q => B ≤ q) s.heap H locs) (hl : lv_has ls 6 [(0, .ref (B + a0)), (1, .ref (B + a1)), (5, .int x5)]) : W p l e rm_X7_pullOf s m args below meth c H locs 0 0 (ps_Qi D Y B below args s 0 0 q) (F0 m 92 ls []) := by
  have hx := C.1
  have hb := C.2.1
  have hml := C.2.2.1
  have hown := C.2.2.2.1
  have hts := C.2.2.2.2.1
  unfold f_X7_pullOf_b92 at hF
  refine lv_iload hx hb dX7_pullOf_92 (lv_at hl 2 rfl) ?_
  refine lv_aload_n hx hb dX7_pullOf_94 rfl (lv_at hl 0 rfl) ?_
  refine pw_gI C hW pc_6 (k := 6) (by decide) rfl tq_235 dX7_pullOf_95 hF (fun xv2 hF => ?_)
  refine lv_bipush (v := 10) hx hb dX7_pullOf_98 (by decide) ?_
  refine lv_idiv hx hb dX7_pullOf_100 (by decide) ?_
  refine lv_isub hx hb dX7_pullOf_101 ?_
  refine pw_v hF (fun xv3 hF => ?_)
  refine lv_istore (lv' := [(5, .int xv3), (0, .ref (B + a0)), (1, .ref (B + a1))]) hx hb dX7_pullOf_102 hl (by decide) rfl (fun ls hl => ?_)
  refine lv_aload_n hx hb dX7_pullOf_104 rfl (lv_at hl 1 rfl) ?_
  refine pw_gI C hW pc_6 (k := 8) (by decide) rfl tq_240 dX7_pullOf_105 hF (fun xv4 hF => ?_)
  refine lv_if_ne (tgt := 131) hx hb dX7_pullOf_108 (by decide) (fun hv5 => ?_) (fun hv5 => ?_)
  · replace hF := (if_neg hv5).symm.trans hF
    exact kb_X7_pullOf_b131 C hF hW hS (lv_sub hl [0] rfl)
  · replace hF := (if_pos hv5).symm.trans hF
    refine lv_aload_n hx hb dX7_pullOf_111 rfl (lv_at hl 1 rfl) ?_
    refine pw_gI C hW pc_6 (k := 3) (by decide) rfl tq_228 dX7_pullOf_112 hF (fun xv6 hF => ?_)
    refine lv_bipush (v := 100) hx hb dX7_pullOf_115 (by decide) ?_
    refine lv_idiv hx hb dX7_pullOf_117 (by decide) ?_
    refine lv_aload_n hx hb dX7_pullOf_118 rfl (lv_at hl 2 rfl) ?_
    refine pw_gI C hW pc_7 (k := 5) (by decide) rfl tq_110 dX7_pullOf_119 hF (fun xv7 hF => ?_)
    refine lv_icmp_lt (tgt := 131) hx hb dX7_pullOf_122 (by decide) (fun hv8 => ?_) (fun hv8 => ?_)
    · replace hF := (if_pos hv8).symm.trans hF
      exact kb_X7_pullOf_b131 C hF hW hS (lv_sub hl [0] rfl)
    · replace hF := (if_neg hv8).symm.trans hF
      refine lv_iload hx hb dX7_pullOf_125 (lv_at hl 0 rfl) ?_
      refine lv_iconst (v := 2) hx hb dX7_pullOf_127 (by decide) ?_
      refine lv_idiv hx hb dX7_pullOf_128 (by decide) ?_
      refine pw_v hF (fun xv9 hF => ?_)
      refine lv_istore (lv' := [(5, .int xv9), (0, .ref (B + a0)), (1, .ref (B + a1))]) hx hb dX7_pullOf_129 hl (by decide) rfl (fun ls hl => ?_)
      exact kb_X7_pullOf_b131 C hF hW hS (lv_sub hl [0] rfl)
set_option maxRecDepth 100000 in
set_option maxHeartbeats 4000000 in
theorem kb_X7_pullOf (C : ps_C p s m args meth c cX7_pullOf 6 RX7 ((some .int)) "pullOf" D Y B) {q : Int32 × ps_M}  {M : ps_M} {a0 : Nat} {a1 : Nat} {x2 : Int32} {x3 : Int32} (hF : f_X7_pullOf M a0 a1 x2 x3 = some q) (hW : ps_W D Y B M H) (hS : va_S (fun q => B ≤ q) s.heap H locs) (hl : lv_has ls 6 [(0, .ref (B + a0)), (1, .ref (B + a1)), (2, .int x2), (3, .int x3)]) : W p l e rm_X7_pullOf s m args below meth c H locs 0 0 (ps_Qi D Y B below args s 0 0 q) (F0 m 0 ls []) := by
  have hx := C.1
  have hb := C.2.1
  have hml := C.2.2.1
  have hown := C.2.2.2.1
  have hts := C.2.2.2.2.1
  unfold f_X7_pullOf at hF
  refine lv_aload_n hx hb dX7_pullOf_0 rfl (lv_at hl 1 rfl) ?_
  refine pw_gR C hW pc_7 (k := 7) (by decide) rfl tq_116 dX7_pullOf_1 hF (fun av10 hF => ?_)
  refine lv_iload_n hx hb dX7_pullOf_4 rfl (lv_at hl 2 rfl) ?_
  obtain ⟨xv11, M9, hc, hF⟩ := ps_b2_some hF
  refine ps_backI (x0 := xv11) (M' := M9) hS (ps_callS C hW mf_X4_at tq_549 tq_608 ⟨Nat.le_of_ble_eq_true rfl, Nat.le_of_ble_eq_true rfl⟩ rfl rfl (As := [.ref (B + av10), .int x2]) (rest := []) (c_X4_at hc) rfl hl.1 rfl (Nat.le_of_ble_eq_true rfl) dX7_pullOf_5 ⟨Nat.le_of_ble_eq_true rfl, Nat.le_of_ble_eq_true rfl⟩) (fun H locs hW hS => ?_)
  clear hc
  generalize M9 = M at hW hF
  refine lv_aload_n hx hb dX7_pullOf_8 rfl (lv_at hl 0 rfl) ?_
  refine pw_gR C hW pc_6 (k := 9) (by decide) rfl tq_243 dX7_pullOf_9 hF (fun av12 hF => ?_)
  refine lv_iload_n hx hb dX7_pullOf_12 rfl (lv_at hl 2 rfl) ?_
  obtain ⟨xv13, M9, hc, hF⟩ := ps_b2_some hF
  refine ps_backI (x0 := xv13) (M' := M9) hS (ps_callS C hW mf_X4_at tq_549 tq_608 ⟨Nat.le_of_ble_eq_true rfl, Nat.le_of_ble_eq_true rfl⟩ rfl rfl (As := [.ref (B + av12), .int x2]) (rest := [.int xv11]) (c_X4_at hc) rfl hl.1 rfl (Nat.le_of_ble_eq_true rfl) dX7_pullOf_13 ⟨Nat.le_of_ble_eq_true rfl, Nat.le_of_ble_eq_true rfl⟩) (fun H locs hW hS => ?_)
  clear hc
  generalize M9 = M at hW hF
  refine va_mmin hx hb (hml.trans hl.1.symm) hown (hts _ tq_613) (hts _ tq_602) (hts _ tq_65) (hts _ tq_603) (Nat.le_of_ble_eq_true rfl) (Nat.le_of_ble_eq_true rfl) (Nat.le_of_ble_eq_true rfl) (Nat.le_of_ble_eq_true rfl) dX7_pullOf_16 ?_
  refine pw_v hF (fun xv14 hF => ?_)
  refine lv_istore (lv' := [(4, .int xv14), (0, .ref (B + a0)), (1, .ref (B + a1)), (2, .int x2), (3, .int x3)]) hx hb dX7_pullOf_19 hl (by decide) rfl (fun ls hl => ?_)
  refine lv_iconst (v := 0) hx hb dX7_pullOf_21 (by decide) ?_
  refine lv_iload hx hb dX7_pullOf_22 (lv_at hl 0 rfl) ?_
  refine lv_aload_n hx hb dX7_pullOf_24 rfl (lv_at hl 1 rfl) ?_
  refine pw_gR C hW pc_6 (k := 12) (by decide) rfl tq_252 dX7_pullOf_25 hF (fun av15 hF => ?_)
  refine lv_iload_n hx hb dX7_pullOf_28 rfl (lv_at hl 3 rfl) ?_
  obtain ⟨xv16, M9, hc, hF⟩ := ps_b2_some hF
  refine ps_backI (x0 := xv16) (M' := M9) hS (ps_callS C hW mf_X4_at tq_549 tq_608 ⟨Nat.le_of_ble_eq_true rfl, Nat.le_of_ble_eq_true rfl⟩ rfl rfl (As := [.ref (B + av15), .int x2]) (rest := [.int xv14, .int (0 : Int32)]) (c_X4_at hc) rfl hl.1 rfl (Nat.le_of_ble_eq_true rfl) dX7_pullOf_29 ⟨Nat.le_of_ble_eq_true rfl, Nat.le_of_ble_eq_true rfl⟩) (fun H locs hW hS => ?_)
  clear hc
  generalize M9 = M at hW hF
  refine lv_iadd hx hb dX7_pullOf_32 ?_
  refine lv_aload_n hx hb dX7_pullOf_33 rfl (lv_at hl 1 rfl) ?_
  refine pw_gR C hW pc_6 (k := 11) (by decide) rfl tq_249 dX7_pullOf_34 hF (fun av17 hF => ?_)
  refine lv_iload_n hx hb dX7_pullOf_37 rfl (lv_at hl 3 rfl) ?_
  obtain ⟨xv18, M9, hc, hF⟩ := ps_b2_some hF
  refine ps_backI (x0 := xv18) (M' := M9) hS (ps_callS C hW mf_X4_at tq_549 tq_608 ⟨Nat.le_of_ble_eq_true rfl, Nat.le_of_ble_eq_true rfl⟩ rfl rfl (As := [.ref (B + av17), .int x2]) (rest := [.int (xv14 + xv16), .int (0 : Int32)]) (c_X4_at hc) rfl hl.1 rfl (Nat.le_of_ble_eq_true rfl) dX7_pullOf_38 ⟨Nat.le_of_ble_eq_true rfl, Nat.le_of_ble_eq_true rfl⟩) (fun H locs hW hS => ?_)
  clear hc
  generalize M9 = M at hW hF
  refine lv_bipush (v := 10) hx hb dX7_pullOf_41 (by decide) ?_
  refine lv_idiv hx hb dX7_pullOf_43 (by decide) ?_
  refine lv_isub hx hb dX7_pullOf_44 ?_
  refine va_mmax hx hb (hml.trans hl.1.symm) hown (hts _ tq_614) (hts _ tq_174) (hts _ tq_65) (hts _ tq_175) (Nat.le_of_ble_eq_true rfl) (Nat.le_of_ble_eq_true rfl) (Nat.le_of_ble_eq_true rfl) (Nat.le_of_ble_eq_true rfl) dX7_pullOf_45 ?_
  refine pw_v hF (fun xv19 hF => ?_)
  refine lv_istore (lv' := [(5, .int xv19), (4, .int xv14), (0, .ref (B + a0)), (1, .ref (B + a1)), (2, .int x2), (3, .int x3)]) hx hb dX7_pullOf_48 hl (by decide) rfl (fun ls hl => ?_)
  refine lv_aload_n hx hb dX7_pullOf_50 rfl (lv_at hl 3 rfl) ?_
  refine lv_iload_n hx hb dX7_pullOf_51 rfl (lv_at hl 5 rfl) ?_
  obtain ⟨xv20, M9, hc, hF⟩ := ps_b2_some hF
  refine ps_backI (x0 := xv20) (M' := M9) hS (ps_callS C hW mf_X7_buckles tq_616 tq_615 ⟨Nat.le_of_ble_eq_true rfl, Nat.le_of_ble_eq_true rfl⟩ rfl rfl (As := [.ref (B + a1), .int x3]) (rest := []) (c_X7_buckles hc) rfl hl.1 rfl (Nat.le_of_ble_eq_true rfl) dX7_pullOf_52 ⟨Nat.le_of_ble_eq_true rfl, Nat.le_of_ble_eq_true rfl⟩) (fun H locs hW hS => ?_)
  clear hc
  generalize M9 = M at hW hF
  refine lv_if_eq (tgt := 64) hx hb dX7_pullOf_55 (by decide) (fun hv21 => ?_) (fun hv21 => ?_)
  · replace hF := (if_pos hv21).symm.trans hF
    refine lv_iload_n hx hb dX7_pullOf_64 rfl (lv_at hl 5 rfl) ?_
    refine lv_iconst (v := 5) hx hb dX7_pullOf_65 (by decide) ?_
    refine lv_icmp_le (tgt := 81) hx hb dX7_pullOf_66 (by decide) (fun hv22 => ?_) (fun hv22 => ?_)
    · replace hF := (if_pos hv22).symm.trans hF
      refine lv_iload_n hx hb dX7_pullOf_81 rfl (lv_at hl 5 rfl) ?_
      refine lv_iconst (v := 5) hx hb dX7_pullOf_82 (by decide) ?_
      refine lv_icmp_ge (tgt := 92) hx hb dX7_pullOf_83 (by decide) (fun hv23 => ?_) (fun hv23 => ?_)
      · replace hF := (if_pos hv23).symm.trans hF
        exact kb_X7_pullOf_b92 C hF hW hS (lv_sub hl [2, 3, 0] rfl)
      · replace hF := (if_neg hv23).symm.trans hF
        refine lv_iload hx hb dX7_pullOf_86 (lv_at hl 0 rfl) ?_
        refine lv_iload_n hx hb dX7_pullOf_88 rfl (lv_at hl 5 rfl) ?_
        refine lv_isub hx hb dX7_pullOf_89 ?_
        refine pw_v hF (fun xv24 hF => ?_)
        refine lv_istore (lv' := [(5, .int xv24), (4, .int xv14), (0, .ref (B + a0)), (1, .ref (B + a1)), (2, .int x2), (3, .int x3)]) hx hb dX7_pullOf_90 hl (by decide) rfl (fun ls hl => ?_)
        exact kb_X7_pullOf_b92 C hF hW hS (lv_sub hl [2, 3, 0] rfl)
    · replace hF := (if_neg hv22).symm.trans hF
      refine lv_iload hx hb dX7_pullOf_69 (lv_at hl 0 rfl) ?_
      refine lv_iload hx hb dX7_pullOf_71 (lv_at hl 0 rfl) ?_
      refine lv_iconst (v := 2) hx hb dX7_pullOf_73 (by decide) ?_
      refine lv_idiv hx hb dX7_pullOf_74 (by decide) ?_
      refine lv_iadd hx hb dX7_pullOf_75 ?_
      refine pw_v hF (fun xv25 hF => ?_)
      refine lv_istore (lv' := [(5, .int xv25), (4, .int xv14), (0, .ref (B + a0)), (1, .ref (B + a1)), (2, .int x2), (3, .int x3)]) hx hb dX7_pullOf_76 hl (by decide) rfl (fun ls hl => ?_)
      refine lv_goto (tgt := 92) hx hb dX7_pullOf_78 (by decide) ?_
      exact kb_X7_pullOf_b92 C hF hW hS (lv_sub hl [2, 3, 0] rfl)
  · replace hF := (if_neg hv21).symm.trans hF
    refine lv_iconst (v := 0) hx hb dX7_pullOf_58 (by decide) ?_
    refine lv_istore (lv' := [(5, .int (0 : Int32)), (4, .int xv14), (0, .ref (B + a0)), (1, .ref (B + a1)), (2, .int x2), (3, .int x3)]) hx hb dX7_pullOf_59 hl (by decide) rfl (fun ls hl => ?_)
    refine lv_goto (tgt := 92) hx hb dX7_pullOf_61 (by decide) ?_
    exact kb_X7_pullOf_b92 C hF hW hS (lv_sub hl [2, 3, 0] rfl)
theorem mf_X7_pullOf : ps_mf yX7_pullOf cX7_pullOf 6 ((some .int)) 3 := ⟨tq_612, tq_66, by decide +kernel, by decide +kernel, by decide +kernel⟩
theorem c_X7_pullOf {l : Launch} {D : va_G} {Y : ps_A} {B : Nat} {M : ps_M} {a0 : Nat} {a1 : Nat} {x2 : Int32} {x3 : Int32} {r : Int32} {M' : ps_M} (hF : f_X7_pullOf M a0 a1 x2 x3 = some (r, M')) : Met l yX7_pullOf (Cond.code yX7_pullOf cX7_pullOf 6 ((some .int)) :: tb_G) rm_X7_pullOf (ps_PB D Y B M [.ref (B + a0), .ref (B + a1), .int x2, .int x3]) (va_Qi (fun x (_ : Unit) => x = r) (fun _ t => ps_St D Y B M' t) (fun q => B ≤ q)) 0 0 (fun q => B ≤ q) :=
  pm_of (by decide +kernel) (Nat.le_of_ble_eq_true rfl) (fun p e s m args below meth c C hW hS ls hl => kb_X7_pullOf C hF hW hS hl)

abbrev rm_X7_cutBy : Room := { frames := 1, cells := 0, slots := 0, locals := 21 }
def f_X7_cutBy_b31 (M : ps_M) (t0 : Int32) : Option (Int32 × ps_M) := some (t0, M)
def f_X7_cutBy (M : ps_M) (a0 : Nat) (a1 : Nat) (x2 : Int32) : Option (Int32 × ps_M) := ps_gR M a1 7 6 (fun av1 => ps_gI M a0 6 3 (fun xv2 => ps_b2 (f_X4_at M av1 (xv2 / (100 : Int32))) (fun xv3 M => if xv3 ≤ 0 then (f_X7_cutBy_b31 M (0 : Int32)) else (ps_gI M a0 6 7 (fun xv5 => ps_dv xv3 (f_X7_cutBy_b31 M ((x2 * xv5) / xv3)))))))
set_option maxRecDepth 100000 in
set_option maxHeartbeats 4000000 in
theorem kb_X7_cutBy_b31 (C : ps_C p s m args meth c cX7_cutBy 4 RX7 ((some .int)) "cutBy" D Y B) {q : Int32 × ps_M}  {M : ps_M} {t0 : Int32} (hF : f_X7_cutBy_b31 M t0 = some q) (hW : ps_W D Y B M H) (hS : va_S (fun q => B ≤ q) s.heap H locs) (hl : lv_has ls 4 []) : W p l e rm_X7_cutBy s m args below meth c H locs 0 0 (ps_Qi D Y B below args s 0 0 q) (F0 m 31 ls [.int t0]) := by
  have hx := C.1
  have hb := C.2.1
  have hml := C.2.2.1
  have hown := C.2.2.2.1
  have hts := C.2.2.2.2.1
  unfold f_X7_cutBy_b31 at hF
  exact pw_iret C hW hS dX7_cutBy_31 hF
set_option maxRecDepth 100000 in
set_option maxHeartbeats 4000000 in
theorem kb_X7_cutBy (C : ps_C p s m args meth c cX7_cutBy 4 RX7 ((some .int)) "cutBy" D Y B) {q : Int32 × ps_M}  {M : ps_M} {a0 : Nat} {a1 : Nat} {x2 : Int32} (hF : f_X7_cutBy M a0 a1 x2 = some q) (hW : ps_W D Y B M H) (hS : va_S (fun q => B ≤ q) s.heap H locs) (hl : lv_has ls 4 [(0, .ref (B + a0)), (1, .ref (B + a1)), (2, .int x2)]) : W p l e rm_X7_cutBy s m args below meth c H locs 0 0 (ps_Qi D Y B below args s 0 0 q) (F0 m 0 ls []) := by
  have hx := C.1
  have hb := C.2.1
  have hml := C.2.2.1
  have hown := C.2.2.2.1
  have hts := C.2.2.2.2.1
  unfold f_X7_cutBy at hF
  refine lv_aload_n hx hb dX7_cutBy_0 rfl (lv_at hl 1 rfl) ?_
  refine pw_gR C hW pc_7 (k := 6) (by decide) rfl tq_114 dX7_cutBy_1 hF (fun av1 hF => ?_)
  refine lv_aload_n hx hb dX7_cutBy_4 rfl (lv_at hl 0 rfl) ?_
  refine pw_gI C hW pc_6 (k := 3) (by decide) rfl tq_228 dX7_cutBy_5 hF (fun xv2 hF => ?_)
  refine lv_bipush (v := 100) hx hb dX7_cutBy_8 (by decide) ?_
  refine lv_idiv hx hb dX7_cutBy_10 (by decide) ?_
  obtain ⟨xv3, M9, hc, hF⟩ := ps_b2_some hF
  refine ps_backI (x0 := xv3) (M' := M9) hS (ps_callS C hW mf_X4_at tq_549 tq_608 ⟨Nat.le_of_ble_eq_true rfl, Nat.le_of_ble_eq_true rfl⟩ rfl rfl (As := [.ref (B + av1), .int (xv2 / (100 : Int32))]) (rest := []) (c_X4_at hc) rfl hl.1 rfl (Nat.le_of_ble_eq_true rfl) dX7_cutBy_11 ⟨Nat.le_of_ble_eq_true rfl, Nat.le_of_ble_eq_true rfl⟩) (fun H locs hW hS => ?_)
  clear hc
  generalize M9 = M at hW hF
  refine lv_istore_n (lv' := [(3, .int xv3), (0, .ref (B + a0)), (1, .ref (B + a1)), (2, .int x2)]) hx hb dX7_cutBy_14 rfl hl (by decide) rfl (fun ls hl => ?_)
  refine lv_iload_n hx hb dX7_cutBy_15 rfl (lv_at hl 0 rfl) ?_
  refine lv_if_le (tgt := 30) hx hb dX7_cutBy_16 (by decide) (fun hv4 => ?_) (fun hv4 => ?_)
  · replace hF := (if_pos hv4).symm.trans hF
    refine lv_iconst (v := 0) hx hb dX7_cutBy_30 (by decide) ?_
    exact kb_X7_cutBy_b31 C hF hW hS (lv_sub hl [] rfl)
  · replace hF := (if_neg hv4).symm.trans hF
    refine lv_iload_n hx hb dX7_cutBy_19 rfl (lv_at hl 3 rfl) ?_
    refine lv_aload_n hx hb dX7_cutBy_20 rfl (lv_at hl 1 rfl) ?_
    refine pw_gI C hW pc_6 (k := 7) (by decide) rfl tq_237 dX7_cutBy_21 hF (fun xv5 hF => ?_)
    refine lv_imul hx hb dX7_cutBy_24 ?_
    refine lv_iload_n hx hb dX7_cutBy_25 rfl (lv_at hl 0 rfl) ?_
    obtain ⟨hne, hF⟩ := ps_dv_some hF
    refine lv_idiv hx hb dX7_cutBy_26 hne ?_
    clear hne
    refine lv_goto (tgt := 31) hx hb dX7_cutBy_27 (by decide) ?_
    exact kb_X7_cutBy_b31 C hF hW hS (lv_sub hl [] rfl)
theorem mf_X7_cutBy : ps_mf yX7_cutBy cX7_cutBy 4 ((some .int)) 2 := ⟨tq_621, tq_66, by decide +kernel, by decide +kernel, by decide +kernel⟩
theorem c_X7_cutBy {l : Launch} {D : va_G} {Y : ps_A} {B : Nat} {M : ps_M} {a0 : Nat} {a1 : Nat} {x2 : Int32} {r : Int32} {M' : ps_M} (hF : f_X7_cutBy M a0 a1 x2 = some (r, M')) : Met l yX7_cutBy (Cond.code yX7_cutBy cX7_cutBy 4 ((some .int)) :: tb_G) rm_X7_cutBy (ps_PB D Y B M [.ref (B + a0), .ref (B + a1), .int x2]) (va_Qi (fun x (_ : Unit) => x = r) (fun _ t => ps_St D Y B M' t) (fun q => B ≤ q)) 0 0 (fun q => B ≤ q) :=
  pm_of (by decide +kernel) (Nat.le_of_ble_eq_true rfl) (fun p e s m args below meth c C hW hS ls hl => kb_X7_cutBy C hF hW hS hl)

abbrev rm_X7_tire : Room := { frames := 1, cells := 0, slots := 0, locals := 22 }
def f_X7_tire (M : ps_M) (a0 : Nat) (x1 : Int32) (x2 : Int32) : Option (ps_M) := ps_gR M a0 6 11 (fun av1 => ps_gR M a0 6 11 (fun av2 => ps_b2 (f_X4_at M av2 x1) (fun xv3 M => ps_v (if (0 : Int32) < (xv3 + x2) then (xv3 + x2) else (0 : Int32)) (fun xv4 => ps_v (if xv4 < (999 : Int32) then xv4 else (999 : Int32)) (fun xv5 => ps_b1 (f_X4_put M av1 x1 xv5) (fun M => some M))))))
set_option maxRecDepth 100000 in
set_option maxHeartbeats 4000000 in
theorem kb_X7_tire (C : ps_C p s m args meth c cX7_tire 3 RX7 none "tire" D Y B) {q : ps_M}  {M : ps_M} {a0 : Nat} {x1 : Int32} {x2 : Int32} (hF : f_X7_tire M a0 x1 x2 = some q) (hW : ps_W D Y B M H) (hS : va_S (fun q => B ≤ q) s.heap H locs) (hl : lv_has ls 3 [(0, .ref (B + a0)), (1, .int x1), (2, .int x2)]) : W p l e rm_X7_tire s m args below meth c H locs 0 0 (ps_Qv D Y B below args s 0 0 q) (F0 m 0 ls []) := by
  have hx := C.1
  have hb := C.2.1
  have hml := C.2.2.1
  have hown := C.2.2.2.1
  have hts := C.2.2.2.2.1
  unfold f_X7_tire at hF
  refine lv_aload_n hx hb dX7_tire_0 rfl (lv_at hl 0 rfl) ?_
  refine pw_gR C hW pc_6 (k := 11) (by decide) rfl tq_249 dX7_tire_1 hF (fun av1 hF => ?_)
  refine lv_iload_n hx hb dX7_tire_4 rfl (lv_at hl 1 rfl) ?_
  refine lv_sipush (v := 999) hx hb dX7_tire_5 (by decide) ?_
  refine lv_iconst (v := 0) hx hb dX7_tire_8 (by decide) ?_
  refine lv_aload_n hx hb dX7_tire_9 rfl (lv_at hl 0 rfl) ?_
  refine pw_gR C hW pc_6 (k := 11) (by decide) rfl tq_249 dX7_tire_10 hF (fun av2 hF => ?_)
  refine lv_iload_n hx hb dX7_tire_13 rfl (lv_at hl 1 rfl) ?_
  obtain ⟨xv3, M9, hc, hF⟩ := ps_b2_some hF
  refine ps_backI (x0 := xv3) (M' := M9) hS (ps_callS C hW mf_X4_at tq_549 tq_608 ⟨Nat.le_of_ble_eq_true rfl, Nat.le_of_ble_eq_true rfl⟩ rfl rfl (As := [.ref (B + av2), .int x1]) (rest := [.int (0 : Int32), .int (999 : Int32), .int x1, .ref (B + av1)]) (c_X4_at hc) rfl hl.1 rfl (Nat.le_of_ble_eq_true rfl) dX7_tire_14 ⟨Nat.le_of_ble_eq_true rfl, Nat.le_of_ble_eq_true rfl⟩) (fun H locs hW hS => ?_)
  clear hc
  generalize M9 = M at hW hF
  refine lv_iload_n hx hb dX7_tire_17 rfl (lv_at hl 2 rfl) ?_
  refine lv_iadd hx hb dX7_tire_18 ?_
  refine va_mmax hx hb (hml.trans hl.1.symm) hown (hts _ tq_614) (hts _ tq_174) (hts _ tq_65) (hts _ tq_175) (Nat.le_of_ble_eq_true rfl) (Nat.le_of_ble_eq_true rfl) (Nat.le_of_ble_eq_true rfl) (Nat.le_of_ble_eq_true rfl) dX7_tire_19 ?_
  refine pw_v hF (fun xv4 hF => ?_)
  refine va_mmin hx hb (hml.trans hl.1.symm) hown (hts _ tq_613) (hts _ tq_602) (hts _ tq_65) (hts _ tq_603) (Nat.le_of_ble_eq_true rfl) (Nat.le_of_ble_eq_true rfl) (Nat.le_of_ble_eq_true rfl) (Nat.le_of_ble_eq_true rfl) dX7_tire_22 ?_
  refine pw_v hF (fun xv5 hF => ?_)
  obtain ⟨M9, hc, hF⟩ := ps_b1_some hF
  refine ps_backV (M' := M9) hS (ps_callS C hW mf_X4_put tq_440 tq_626 ⟨Nat.le_of_ble_eq_true rfl, Nat.le_of_ble_eq_true rfl⟩ rfl rfl (As := [.ref (B + av1), .int x1, .int xv5]) (rest := []) (c_X4_put hc) rfl hl.1 rfl (Nat.le_of_ble_eq_true rfl) dX7_tire_25 ⟨Nat.le_of_ble_eq_true rfl, Nat.le_of_ble_eq_true rfl⟩) (fun H locs hW hS => ?_)
  clear hc
  generalize M9 = M at hW hF
  exact pw_vret C hW hS dX7_tire_28 hF
theorem mf_X7_tire : ps_mf yX7_tire cX7_tire 3 none 2 := ⟨tq_625, tq_66, by decide +kernel, by decide +kernel, by decide +kernel⟩
theorem c_X7_tire {l : Launch} {D : va_G} {Y : ps_A} {B : Nat} {M : ps_M} {a0 : Nat} {x1 : Int32} {x2 : Int32} {M' : ps_M} (hF : f_X7_tire M a0 x1 x2 = some M') : Met l yX7_tire (Cond.code yX7_tire cX7_tire 3 none :: tb_G) rm_X7_tire (ps_PB D Y B M [.ref (B + a0), .int x1, .int x2]) (va_Qv (fun (_ : Unit) => True) (fun _ t => ps_St D Y B M' t) (fun q => B ≤ q)) 0 0 (fun q => B ≤ q) :=
  pm_of (by decide +kernel) (Nat.le_of_ble_eq_true rfl) (fun p e s m args below meth c C hW hS ls hl => kb_X7_tire C hF hW hS hl)

abbrev rm_X7_feel : Room := { frames := 1, cells := 0, slots := 0, locals := 22 }
def f_X7_feel_b67 (M : ps_M) (a0 : Nat) (x1 : Int32) (x4 : Int32) : Option (ps_M) := ps_gR M a0 6 12 (fun av1 => ps_v (if (-9 : Int32) < x4 then x4 else (-9 : Int32)) (fun xv2 => ps_v (if xv2 < (9 : Int32) then xv2 else (9 : Int32)) (fun xv3 => ps_b1 (f_X4_put M av1 x1 xv3) (fun M => some M))))
def f_X7_feel_b41 (M : ps_M) (a0 : Nat) (x1 : Int32) (t0 : Int32) (t1 : Int32) : Option (ps_M) := ps_v ((t0 + t1)) (fun xv4 => f_X7_feel_b67 M a0 x1 xv4)
def f_X7_feel_b64 (M : ps_M) (a0 : Nat) (x1 : Int32) (t0 : Int32) (t1 : Int32) : Option (ps_M) := ps_v ((t0 + t1)) (fun xv5 => f_X7_feel_b67 M a0 x1 xv5)
def f_X7_feel_b47 (M : ps_M) (a0 : Nat) (x1 : Int32) (x4 : Int32) : Option (ps_M) := if x4 = 0 then (f_X7_feel_b67 M a0 x1 x4) else (if x4 ≤ 0 then (f_X7_feel_b64 M a0 x1 x4 (1 : Int32)) else (f_X7_feel_b64 M a0 x1 x4 (-1 : Int32)))
def f_X7_feel (M : ps_M) (a0 : Nat) (x1 : Int32) (x2 : Int32) (x3 : Int32) : Option (ps_M) := ps_gR M a0 6 12 (fun av8 => ps_b2 (f_X4_at M av8 x1) (fun xv9 M => if x3 < (1 : Int32) then (f_X7_feel_b47 M a0 x1 xv9) else (if (5 : Int32) ≤ x3 then (f_X7_feel_b47 M a0 x1 xv9) else (if x2 = (1 : Int32) then (f_X7_feel_b41 M a0 x1 xv9 (1 : Int32)) else (if x2 = (2 : Int32) then (f_X7_feel_b41 M a0 x1 xv9 (-1 : Int32)) else (f_X7_feel_b41 M a0 x1 xv9 (0 : Int32)))))))
set_option maxRecDepth 100000 in
set_option maxHeartbeats 4000000 in
theorem kb_X7_feel_b67 (C : ps_C p s m args meth c cX7_feel 5 RX7 none "feel" D Y B) {q : ps_M}  {M : ps_M} {a0 : Nat} {x1 : Int32} {x4 : Int32} (hF : f_X7_feel_b67 M a0 x1 x4 = some q) (hW : ps_W D Y B M H) (hS : va_S (fun q => B ≤ q) s.heap H locs) (hl : lv_has ls 5 [(0, .ref (B + a0)), (1, .int x1), (4, .int x4)]) : W p l e rm_X7_feel s m args below meth c H locs 0 0 (ps_Qv D Y B below args s 0 0 q) (F0 m 67 ls []) := by
  have hx := C.1
  have hb := C.2.1
  have hml := C.2.2.1
  have hown := C.2.2.2.1
  have hts := C.2.2.2.2.1
  unfold f_X7_feel_b67 at hF
  refine lv_aload_n hx hb dX7_feel_67 rfl (lv_at hl 0 rfl) ?_
  refine pw_gR C hW pc_6 (k := 12) (by decide) rfl tq_252 dX7_feel_68 hF (fun av1 hF => ?_)
  refine lv_iload_n hx hb dX7_feel_71 rfl (lv_at hl 1 rfl) ?_
  refine lv_bipush (v := 9) hx hb dX7_feel_72 (by decide) ?_
  refine lv_bipush (v := -9) hx hb dX7_feel_74 (by decide) ?_
  refine lv_iload hx hb dX7_feel_76 (lv_at hl 2 rfl) ?_
  refine va_mmax hx hb (hml.trans hl.1.symm) hown (hts _ tq_614) (hts _ tq_174) (hts _ tq_65) (hts _ tq_175) (Nat.le_of_ble_eq_true rfl) (Nat.le_of_ble_eq_true rfl) (Nat.le_of_ble_eq_true rfl) (Nat.le_of_ble_eq_true rfl) dX7_feel_78 ?_
  refine pw_v hF (fun xv2 hF => ?_)
  refine va_mmin hx hb (hml.trans hl.1.symm) hown (hts _ tq_613) (hts _ tq_602) (hts _ tq_65) (hts _ tq_603) (Nat.le_of_ble_eq_true rfl) (Nat.le_of_ble_eq_true rfl) (Nat.le_of_ble_eq_true rfl) (Nat.le_of_ble_eq_true rfl) dX7_feel_81 ?_
  refine pw_v hF (fun xv3 hF => ?_)
  obtain ⟨M9, hc, hF⟩ := ps_b1_some hF
  refine ps_backV (M' := M9) hS (ps_callS C hW mf_X4_put tq_440 tq_626 ⟨Nat.le_of_ble_eq_true rfl, Nat.le_of_ble_eq_true rfl⟩ rfl rfl (As := [.ref (B + av1), .int x1, .int xv3]) (rest := []) (c_X4_put hc) rfl hl.1 rfl (Nat.le_of_ble_eq_true rfl) dX7_feel_84 ⟨Nat.le_of_ble_eq_true rfl, Nat.le_of_ble_eq_true rfl⟩) (fun H locs hW hS => ?_)
  clear hc
  generalize M9 = M at hW hF
  exact pw_vret C hW hS dX7_feel_87 hF
set_option maxRecDepth 100000 in
set_option maxHeartbeats 4000000 in
theorem kb_X7_feel_b41 (C : ps_C p s m args meth c cX7_feel 5 RX7 none "feel" D Y B) {q : ps_M}  {M : ps_M} {a0 : Nat} {x1 : Int32} {t0 : Int32} {t1 : Int32} (hF : f_X7_feel_b41 M a0 x1 t0 t1 = some q) (hW : ps_W D Y B M H) (hS : va_S (fun q => B ≤ q) s.heap H locs) (hl : lv_has ls 5 [(0, .ref (B + a0)), (1, .int x1)]) : W p l e rm_X7_feel s m args below meth c H locs 0 0 (ps_Qv D Y B below args s 0 0 q) (F0 m 41 ls [.int t1, .int t0]) := by
  have hx := C.1
  have hb := C.2.1
  have hml := C.2.2.1
  have hown := C.2.2.2.1
  have hts := C.2.2.2.2.1
  unfold f_X7_feel_b41 at hF
  refine lv_iadd hx hb dX7_feel_41 ?_
  refine pw_v hF (fun xv4 hF => ?_)
  refine lv_istore (lv' := [(4, .int xv4), (0, .ref (B + a0)), (1, .int x1)]) hx hb dX7_feel_42 hl (by decide) rfl (fun ls hl => ?_)
  refine lv_goto (tgt := 67) hx hb dX7_feel_44 (by decide) ?_
  exact kb_X7_feel_b67 C hF hW hS (lv_sub hl [1, 2, 0] rfl)
set_option maxRecDepth 100000 in
set_option maxHeartbeats 4000000 in
theorem kb_X7_feel_b64 (C : ps_C p s m args meth c cX7_feel 5 RX7 none "feel" D Y B) {q : ps_M}  {M : ps_M} {a0 : Nat} {x1 : Int32} {t0 : Int32} {t1 : Int32} (hF : f_X7_feel_b64 M a0 x1 t0 t1 = some q) (hW : ps_W D Y B M H) (hS : va_S (fun q => B ≤ q) s.heap H locs) (hl : lv_has ls 5 [(0, .ref (B + a0)), (1, .int x1)]) : W p l e rm_X7_feel s m args below meth c H locs 0 0 (ps_Qv D Y B below args s 0 0 q) (F0 m 64 ls [.int t1, .int t0]) := by
  have hx := C.1
  have hb := C.2.1
  have hml := C.2.2.1
  have hown := C.2.2.2.1
  have hts := C.2.2.2.2.1
  unfold f_X7_feel_b64 at hF
  refine lv_iadd hx hb dX7_feel_64 ?_
  refine pw_v hF (fun xv5 hF => ?_)
  refine lv_istore (lv' := [(4, .int xv5), (0, .ref (B + a0)), (1, .int x1)]) hx hb dX7_feel_65 hl (by decide) rfl (fun ls hl => ?_)
  exact kb_X7_feel_b67 C hF hW hS (lv_sub hl [1, 2, 0] rfl)
set_option maxRecDepth 100000 in
set_option maxHeartbeats 4000000 in
theorem kb_X7_feel_b47 (C : ps_C p s m args meth c cX7_feel 5 RX7 none "feel" D Y B) {q : ps_M}  {M : ps_M} {a0 : Nat} {x1 : Int32} {x4 : Int32} (hF : f_X7_feel_b47 M a0 x1 x4 = some q) (hW : ps_W D Y B M H) (hS : va_S (fun q => B ≤ q) s.heap H locs) (hl : lv_has ls 5 [(0, .ref (B + a0)), (1, .int x1), (4, .int x4)]) : W p l e rm_X7_feel s m args below meth c H locs 0 0 (ps_Qv D Y B below args s 0 0 q) (F0 m 47 ls []) := by
  have hx := C.1
  have hb := C.2.1
  have hml := C.2.2.1
  have hown := C.2.2.2.1
  have hts := C.2.2.2.2.1
  unfold f_X7_feel_b47 at hF
  refine lv_iload hx hb dX7_feel_47 (lv_at hl 2 rfl) ?_
  refine lv_if_eq (tgt := 67) hx hb dX7_feel_49 (by decide) (fun hv6 => ?_) (fun hv6 => ?_)
  · replace hF := (if_pos hv6).symm.trans hF
    exact kb_X7_feel_b67 C hF hW hS (lv_sub hl [0, 1, 2] rfl)
  · replace hF := (if_neg hv6).symm.trans hF
    refine lv_iload hx hb dX7_feel_52 (lv_at hl 2 rfl) ?_
    refine lv_iload hx hb dX7_feel_54 (lv_at hl 2 rfl) ?_
    refine lv_if_le (tgt := 63) hx hb dX7_feel_56 (by decide) (fun hv7 => ?_) (fun hv7 => ?_)
    · replace hF := (if_pos hv7).symm.trans hF
      refine lv_iconst (v := 1) hx hb dX7_feel_63 (by decide) ?_
      exact kb_X7_feel_b64 C hF hW hS (lv_sub hl [0, 1] rfl)
    · replace hF := (if_neg hv7).symm.trans hF
      refine lv_iconst (v := -1) hx hb dX7_feel_59 (by decide) ?_
      refine lv_goto (tgt := 64) hx hb dX7_feel_60 (by decide) ?_
      exact kb_X7_feel_b64 C hF hW hS (lv_sub hl [0, 1] rfl)
set_option maxRecDepth 100000 in
set_option maxHeartbeats 4000000 in
theorem kb_X7_feel (C : ps_C p s m args meth c cX7_feel 5 RX7 none "feel" D Y B) {q : ps_M}  {M : ps_M} {a0 : Nat} {x1 : Int32} {x2 : Int32} {x3 : Int32} (hF : f_X7_feel M a0 x1 x2 x3 = some q) (hW : ps_W D Y B M H) (hS : va_S (fun q => B ≤ q) s.heap H locs) (hl : lv_has ls 5 [(0, .ref (B + a0)), (1, .int x1), (2, .int x2), (3, .int x3)]) : W p l e rm_X7_feel s m args below meth c H locs 0 0 (ps_Qv D Y B below args s 0 0 q) (F0 m 0 ls []) := by
  have hx := C.1
  have hb := C.2.1
  have hml := C.2.2.1
  have hown := C.2.2.2.1
  have hts := C.2.2.2.2.1
  unfold f_X7_feel at hF
  refine lv_aload_n hx hb dX7_feel_0 rfl (lv_at hl 0 rfl) ?_
  refine pw_gR C hW pc_6 (k := 12) (by decide) rfl tq_252 dX7_feel_1 hF (fun av8 hF => ?_)
  refine lv_iload_n hx hb dX7_feel_4 rfl (lv_at hl 1 rfl) ?_
  obtain ⟨xv9, M9, hc, hF⟩ := ps_b2_some hF
  refine ps_backI (x0 := xv9) (M' := M9) hS (ps_callS C hW mf_X4_at tq_549 tq_608 ⟨Nat.le_of_ble_eq_true rfl, Nat.le_of_ble_eq_true rfl⟩ rfl rfl (As := [.ref (B + av8), .int x1]) (rest := []) (c_X4_at hc) rfl hl.1 rfl (Nat.le_of_ble_eq_true rfl) dX7_feel_5 ⟨Nat.le_of_ble_eq_true rfl, Nat.le_of_ble_eq_true rfl⟩) (fun H locs hW hS => ?_)
  clear hc
  generalize M9 = M at hW hF
  refine lv_istore (lv' := [(4, .int xv9), (0, .ref (B + a0)), (1, .int x1), (2, .int x2), (3, .int x3)]) hx hb dX7_feel_8 hl (by decide) rfl (fun ls hl => ?_)
  refine lv_iload_n hx hb dX7_feel_10 rfl (lv_at hl 4 rfl) ?_
  refine lv_iconst (v := 1) hx hb dX7_feel_11 (by decide) ?_
  refine lv_icmp_lt (tgt := 47) hx hb dX7_feel_12 (by decide) (fun hv10 => ?_) (fun hv10 => ?_)
  · replace hF := (if_pos hv10).symm.trans hF
    exact kb_X7_feel_b47 C hF hW hS (lv_sub hl [1, 2, 0] rfl)
  · replace hF := (if_neg hv10).symm.trans hF
    refine lv_iload_n hx hb dX7_feel_15 rfl (lv_at hl 4 rfl) ?_
    refine lv_iconst (v := 5) hx hb dX7_feel_16 (by decide) ?_
    refine lv_icmp_ge (tgt := 47) hx hb dX7_feel_17 (by decide) (fun hv11 => ?_) (fun hv11 => ?_)
    · replace hF := (if_pos hv11).symm.trans hF
      exact kb_X7_feel_b47 C hF hW hS (lv_sub hl [1, 2, 0] rfl)
    · replace hF := (if_neg hv11).symm.trans hF
      refine lv_iload hx hb dX7_feel_20 (lv_at hl 0 rfl) ?_
      refine lv_iload_n hx hb dX7_feel_22 rfl (lv_at hl 3 rfl) ?_
      refine lv_iconst (v := 1) hx hb dX7_feel_23 (by decide) ?_
      refine lv_icmp_ne (tgt := 31) hx hb dX7_feel_24 (by decide) (fun hv12 => ?_) (fun hv12 => ?_)
      · replace hF := (if_neg hv12).symm.trans hF
        refine lv_iload_n hx hb dX7_feel_31 rfl (lv_at hl 3 rfl) ?_
        refine lv_iconst (v := 2) hx hb dX7_feel_32 (by decide) ?_
        refine lv_icmp_ne (tgt := 40) hx hb dX7_feel_33 (by decide) (fun hv13 => ?_) (fun hv13 => ?_)
        · replace hF := (if_neg hv13).symm.trans hF
          refine lv_iconst (v := 0) hx hb dX7_feel_40 (by decide) ?_
          exact kb_X7_feel_b41 C hF hW hS (lv_sub hl [1, 2] rfl)
        · replace hF := (if_pos hv13).symm.trans hF
          refine lv_iconst (v := -1) hx hb dX7_feel_36 (by decide) ?_
          refine lv_goto (tgt := 41) hx hb dX7_feel_37 (by decide) ?_
          exact kb_X7_feel_b41 C hF hW hS (lv_sub hl [1, 2] rfl)
      · replace hF := (if_pos hv12).symm.trans hF
        refine lv_iconst (v := 1) hx hb dX7_feel_27 (by decide) ?_
        refine lv_goto (tgt := 41) hx hb dX7_feel_28 (by decide) ?_
        exact kb_X7_feel_b41 C hF hW hS (lv_sub hl [1, 2] rfl)
theorem mf_X7_feel : ps_mf yX7_feel cX7_feel 5 none 3 := ⟨tq_630, tq_66, by decide +kernel, by decide +kernel, by decide +kernel⟩
theorem c_X7_feel {l : Launch} {D : va_G} {Y : ps_A} {B : Nat} {M : ps_M} {a0 : Nat} {x1 : Int32} {x2 : Int32} {x3 : Int32} {M' : ps_M} (hF : f_X7_feel M a0 x1 x2 x3 = some M') : Met l yX7_feel (Cond.code yX7_feel cX7_feel 5 none :: tb_G) rm_X7_feel (ps_PB D Y B M [.ref (B + a0), .int x1, .int x2, .int x3]) (va_Qv (fun (_ : Unit) => True) (fun _ t => ps_St D Y B M' t) (fun q => B ≤ q)) 0 0 (fun q => B ≤ q) :=
  pm_of (by decide +kernel) (Nat.le_of_ble_eq_true rfl) (fun p e s m args below meth c C hW hS ls hl => kb_X7_feel C hF hW hS hl)

abbrev rm_X7_lean : Room := { frames := 1, cells := 0, slots := 0, locals := 21 }
def f_X7_lean (M : ps_M) (a0 : Nat) (a1 : Nat) : Option (Int32 × ps_M) := ps_gR M a1 7 8 (fun av1 => ps_gI M a0 6 0 (fun xv2 => ps_b2 (f_X4_at M av1 xv2) (fun xv3 M => ps_gR M a1 7 8 (fun av4 => ps_gI M a0 6 1 (fun xv5 => ps_b2 (f_X4_at M av4 xv5) (fun xv6 M => some ((xv3 - xv6), M)))))))
set_option maxRecDepth 100000 in
set_option maxHeartbeats 4000000 in
theorem kb_X7_lean (C : ps_C p s m args meth c cX7_lean 2 RX7 ((some .int)) "lean" D Y B) {q : Int32 × ps_M}  {M : ps_M} {a0 : Nat} {a1 : Nat} (hF : f_X7_lean M a0 a1 = some q) (hW : ps_W D Y B M H) (hS : va_S (fun q => B ≤ q) s.heap H locs) (hl : lv_has ls 2 [(0, .ref (B + a0)), (1, .ref (B + a1))]) : W p l e rm_X7_lean s m args below meth c H locs 0 0 (ps_Qi D Y B below args s 0 0 q) (F0 m 0 ls []) := by
  have hx := C.1
  have hb := C.2.1
  have hml := C.2.2.1
  have hown := C.2.2.2.1
  have hts := C.2.2.2.2.1
  unfold f_X7_lean at hF
  refine lv_aload_n hx hb dX7_lean_0 rfl (lv_at hl 1 rfl) ?_
  refine pw_gR C hW pc_7 (k := 8) (by decide) rfl tq_122 dX7_lean_1 hF (fun av1 hF => ?_)
  refine lv_aload_n hx hb dX7_lean_4 rfl (lv_at hl 0 rfl) ?_
  refine pw_gI C hW pc_6 (k := 0) (by decide) rfl tq_220 dX7_lean_5 hF (fun xv2 hF => ?_)
  obtain ⟨xv3, M9, hc, hF⟩ := ps_b2_some hF
  refine ps_backI (x0 := xv3) (M' := M9) hS (ps_callS C hW mf_X4_at tq_549 tq_608 ⟨Nat.le_of_ble_eq_true rfl, Nat.le_of_ble_eq_true rfl⟩ rfl rfl (As := [.ref (B + av1), .int xv2]) (rest := []) (c_X4_at hc) rfl hl.1 rfl (Nat.le_of_ble_eq_true rfl) dX7_lean_8 ⟨Nat.le_of_ble_eq_true rfl, Nat.le_of_ble_eq_true rfl⟩) (fun H locs hW hS => ?_)
  clear hc
  generalize M9 = M at hW hF
  refine lv_aload_n hx hb dX7_lean_11 rfl (lv_at hl 1 rfl) ?_
  refine pw_gR C hW pc_7 (k := 8) (by decide) rfl tq_122 dX7_lean_12 hF (fun av4 hF => ?_)
  refine lv_aload_n hx hb dX7_lean_15 rfl (lv_at hl 0 rfl) ?_
  refine pw_gI C hW pc_6 (k := 1) (by decide) rfl tq_223 dX7_lean_16 hF (fun xv5 hF => ?_)
  obtain ⟨xv6, M9, hc, hF⟩ := ps_b2_some hF
  refine ps_backI (x0 := xv6) (M' := M9) hS (ps_callS C hW mf_X4_at tq_549 tq_608 ⟨Nat.le_of_ble_eq_true rfl, Nat.le_of_ble_eq_true rfl⟩ rfl rfl (As := [.ref (B + av4), .int xv5]) (rest := [.int xv3]) (c_X4_at hc) rfl hl.1 rfl (Nat.le_of_ble_eq_true rfl) dX7_lean_19 ⟨Nat.le_of_ble_eq_true rfl, Nat.le_of_ble_eq_true rfl⟩) (fun H locs hW hS => ?_)
  clear hc
  generalize M9 = M at hW hF
  refine lv_isub hx hb dX7_lean_22 ?_
  exact pw_iret C hW hS dX7_lean_23 hF
theorem mf_X7_lean : ps_mf yX7_lean cX7_lean 2 ((some .int)) 1 := ⟨tq_634, tq_66, by decide +kernel, by decide +kernel, by decide +kernel⟩
theorem c_X7_lean {l : Launch} {D : va_G} {Y : ps_A} {B : Nat} {M : ps_M} {a0 : Nat} {a1 : Nat} {r : Int32} {M' : ps_M} (hF : f_X7_lean M a0 a1 = some (r, M')) : Met l yX7_lean (Cond.code yX7_lean cX7_lean 2 ((some .int)) :: tb_G) rm_X7_lean (ps_PB D Y B M [.ref (B + a0), .ref (B + a1)]) (va_Qi (fun x (_ : Unit) => x = r) (fun _ t => ps_St D Y B M' t) (fun q => B ≤ q)) 0 0 (fun q => B ≤ q) :=
  pm_of (by decide +kernel) (Nat.le_of_ble_eq_true rfl) (fun p e s m args below meth c C hW hS ls hl => kb_X7_lean C hF hW hS hl)

abbrev rm_X7_pullOnce : Room := { frames := 2, cells := 0, slots := 0, locals := 46 }
def f_X7_pullOnce_b155 (M : ps_M) (a0 : Nat) (x3 : Int32) (x5 : Int32) : Option (Int32 × ps_M) := ps_gI M a0 6 4 (fun xv1 => ps_pI M a0 6 4 (xv1 + (1 : Int32)) (fun M => ps_pI M a0 6 2 x3 (fun M => some (x5, M))))
def f_X7_pullOnce_b102 (M : ps_M) (a0 : Nat) (a1 : Nat) (x2 : Int32) (x3 : Int32) (x4 : Int32) (x5 : Int32) : Option (Int32 × ps_M) := ps_gR M a1 7 9 (fun av2 => ps_b2 (f_X4_at M av2 x2) (fun xv3 M => ps_ck M a0 6 (ps_b1 (f_X7_tire M a0 x2 xv3) (fun M => ps_ck M a0 6 (ps_b1 (f_X7_tire M a0 x3 (-1 : Int32)) (fun M => ps_gR M a1 7 11 (fun av4 => ps_b2 (f_X4_at M av4 x2) (fun xv5 M => ps_ck M a0 6 (ps_b1 (f_X7_feel M a0 x2 xv5 x4) (fun M => if x5 ≤ 0 then (f_X7_pullOnce_b155 M a0 x3 x5) else (ps_gI M a0 6 5 (fun xv7 => ps_ck M a0 6 (ps_b2 (f_X7_lean M a0 a1) (fun xv8 M => ps_pI M a0 6 5 (xv7 + xv8) (fun M => f_X7_pullOnce_b155 M a0 x3 x5)))))))))))))))
def f_X7_pullOnce_b24 (M : ps_M) (a0 : Nat) (a1 : Nat) (x2 : Int32) (t0 : Int32) : Option (Int32 × ps_M) := ps_gR M a0 6 10 (fun av9 => ps_b2 (f_X4_at M av9 t0) (fun xv10 M => ps_ck M a0 6 (ps_b2 (f_X7_pullOf M a0 a1 x2 xv10) (fun xv11 M => ps_ck M a0 6 (ps_b2 (f_X7_cutBy M a0 a1 xv11) (fun xv12 M => ps_gI M a0 6 3 (fun xv13 => ps_ck M a1 7 (ps_b2 (f_X8_bottom M a1 ) (fun xv14 M => ps_v (if xv14 < (xv13 + xv12) then xv14 else (xv13 + xv12)) (fun xv15 => ps_pI M a0 6 3 xv15 (fun M => ps_gI M a0 6 6 (fun xv16 => ps_gI M a1 7 4 (fun xv17 => ps_pI M a0 6 6 (xv16 + xv17) (fun M => ps_b2 (f_X7_buckles M a1 xv10) (fun xv18 M => if xv18 = 0 then (f_X7_pullOnce_b102 M a0 a1 x2 t0 xv10 xv12) else (ps_ck M a0 6 (ps_b1 (f_X7_tire M a0 x2 (2 : Int32)) (fun M => ps_ck M a0 6 (ps_b1 (f_X7_tire M a0 t0 (2 : Int32)) (fun M => f_X7_pullOnce_b102 M a0 a1 x2 t0 xv10 xv12))))))))))))))))))))
def f_X7_pullOnce (M : ps_M) (a0 : Nat) (a1 : Nat) : Option (Int32 × ps_M) := ps_gI M a0 6 2 (fun xv20 => ps_gI M a0 6 0 (fun xv21 => if xv20 = xv21 then (ps_gI M a0 6 1 (fun xv24 => f_X7_pullOnce_b24 M a0 a1 xv20 xv24)) else (ps_gI M a0 6 0 (fun xv23 => f_X7_pullOnce_b24 M a0 a1 xv20 xv23))))
set_option maxRecDepth 100000 in
set_option maxHeartbeats 4000000 in
theorem kb_X7_pullOnce_b155 (C : ps_C p s m args meth c cX7_pullOnce 6 RX7 ((some .int)) "pullOnce" D Y B) {q : Int32 × ps_M}  {M : ps_M} {a0 : Nat} {x3 : Int32} {x5 : Int32} (hF : f_X7_pullOnce_b155 M a0 x3 x5 = some q) (hW : ps_W D Y B M H) (hS : va_S (fun q => B ≤ q) s.heap H locs) (hl : lv_has ls 6 [(0, .ref (B + a0)), (3, .int x3), (5, .int x5)]) : W p l e rm_X7_pullOnce s m args below meth c H locs 0 0 (ps_Qi D Y B below args s 0 0 q) (F0 m 155 ls []) := by
  have hx := C.1
  have hb := C.2.1
  have hml := C.2.2.1
  have hown := C.2.2.2.1
  have hts := C.2.2.2.2.1
  unfold f_X7_pullOnce_b155 at hF
  refine lv_aload_n hx hb dX7_pullOnce_155 rfl (lv_at hl 0 rfl) ?_
  refine lv_dup hx hb dX7_pullOnce_156 rfl ?_
  refine pw_gI C hW pc_6 (k := 4) (by decide) rfl tq_231 dX7_pullOnce_157 hF (fun xv1 hF => ?_)
  refine lv_iconst (v := 1) hx hb dX7_pullOnce_160 (by decide) ?_
  refine lv_iadd hx hb dX7_pullOnce_161 ?_
  refine pw_pI C hW hS pc_6 (k := 4) (by decide) rfl rfl tq_231 rfl dX7_pullOnce_162 hF (fun M H locs hW hS hF => ?_)
  refine lv_aload_n hx hb dX7_pullOnce_165 rfl (lv_at hl 0 rfl) ?_
  refine lv_iload_n hx hb dX7_pullOnce_166 rfl (lv_at hl 1 rfl) ?_
  refine pw_pI C hW hS pc_6 (k := 2) (by decide) rfl rfl tq_226 rfl dX7_pullOnce_167 hF (fun M H locs hW hS hF => ?_)
  refine lv_iload hx hb dX7_pullOnce_170 (lv_at hl 2 rfl) ?_
  exact pw_iret C hW hS dX7_pullOnce_172 hF
set_option maxRecDepth 100000 in
set_option maxHeartbeats 4000000 in
theorem kb_X7_pullOnce_b102 (C : ps_C p s m args meth c cX7_pullOnce 6 RX7 ((some .int)) "pullOnce" D Y B) {q : Int32 × ps_M}  {M : ps_M} {a0 : Nat} {a1 : Nat} {x2 : Int32} {x3 : Int32} {x4 : Int32} {x5 : Int32} (hF : f_X7_pullOnce_b102 M a0 a1 x2 x3 x4 x5 = some q) (hW : ps_W D Y B M H) (hS : va_S (fun q => B ≤ q) s.heap H locs) (hl : lv_has ls 6 [(0, .ref (B + a0)), (1, .ref (B + a1)), (2, .int x2), (3, .int x3), (4, .int x4), (5, .int x5)]) : W p l e rm_X7_pullOnce s m args below meth c H locs 0 0 (ps_Qi D Y B below args s 0 0 q) (F0 m 102 ls []) := by
  have hx := C.1
  have hb := C.2.1
  have hml := C.2.2.1
  have hown := C.2.2.2.1
  have hts := C.2.2.2.2.1
  unfold f_X7_pullOnce_b102 at hF
  refine lv_aload_n hx hb dX7_pullOnce_102 rfl (lv_at hl 0 rfl) ?_
  refine lv_iload_n hx hb dX7_pullOnce_103 rfl (lv_at hl 2 rfl) ?_
  refine lv_aload_n hx hb dX7_pullOnce_104 rfl (lv_at hl 1 rfl) ?_
  refine pw_gR C hW pc_7 (k := 9) (by decide) rfl tq_127 dX7_pullOnce_105 hF (fun av2 hF => ?_)
  refine lv_iload_n hx hb dX7_pullOnce_108 rfl (lv_at hl 2 rfl) ?_
  obtain ⟨xv3, M9, hc, hF⟩ := ps_b2_some hF
  refine ps_backI (x0 := xv3) (M' := M9) hS (ps_callS C hW mf_X4_at tq_549 tq_608 ⟨Nat.le_of_ble_eq_true rfl, Nat.le_of_ble_eq_true rfl⟩ rfl rfl (As := [.ref (B + av2), .int x2]) (rest := [.int x2, .ref (B + a0)]) (c_X4_at hc) rfl hl.1 rfl (Nat.le_of_ble_eq_true rfl) dX7_pullOnce_109 ⟨Nat.le_of_ble_eq_true rfl, Nat.le_of_ble_eq_true rfl⟩) (fun H locs hW hS => ?_)
  clear hc
  generalize M9 = M at hW hF
  obtain ⟨hK, hF⟩ := ps_ck_some hF
  obtain ⟨M9, hc, hF⟩ := ps_b1_some hF
  refine ps_backV (M' := M9) hS (ps_callV C hW pc_6 mf_X7_tire tq_624 tq_14 tq_622 ⟨Nat.le_of_ble_eq_true rfl, Nat.le_of_ble_eq_true rfl⟩ rfl rfl (As := [.int x2, .int xv3]) (rest := []) (c_X7_tire hc) hK rfl hl.1 rfl (Nat.le_of_ble_eq_true rfl) dX7_pullOnce_112 ⟨Nat.le_of_ble_eq_true rfl, Nat.le_of_ble_eq_true rfl⟩) (fun H locs hW hS => ?_)
  clear hc
  generalize M9 = M at hW hF
  refine lv_aload_n hx hb dX7_pullOnce_115 rfl (lv_at hl 0 rfl) ?_
  refine lv_iload_n hx hb dX7_pullOnce_116 rfl (lv_at hl 3 rfl) ?_
  refine lv_iconst (v := -1) hx hb dX7_pullOnce_117 (by decide) ?_
  obtain ⟨hK, hF⟩ := ps_ck_some hF
  obtain ⟨M9, hc, hF⟩ := ps_b1_some hF
  refine ps_backV (M' := M9) hS (ps_callV C hW pc_6 mf_X7_tire tq_624 tq_14 tq_622 ⟨Nat.le_of_ble_eq_true rfl, Nat.le_of_ble_eq_true rfl⟩ rfl rfl (As := [.int x3, .int (-1 : Int32)]) (rest := []) (c_X7_tire hc) hK rfl hl.1 rfl (Nat.le_of_ble_eq_true rfl) dX7_pullOnce_118 ⟨Nat.le_of_ble_eq_true rfl, Nat.le_of_ble_eq_true rfl⟩) (fun H locs hW hS => ?_)
  clear hc
  generalize M9 = M at hW hF
  refine lv_aload_n hx hb dX7_pullOnce_121 rfl (lv_at hl 0 rfl) ?_
  refine lv_iload_n hx hb dX7_pullOnce_122 rfl (lv_at hl 2 rfl) ?_
  refine lv_aload_n hx hb dX7_pullOnce_123 rfl (lv_at hl 1 rfl) ?_
  refine pw_gR C hW pc_7 (k := 11) (by decide) rfl tq_134 dX7_pullOnce_124 hF (fun av4 hF => ?_)
  refine lv_iload_n hx hb dX7_pullOnce_127 rfl (lv_at hl 2 rfl) ?_
  obtain ⟨xv5, M9, hc, hF⟩ := ps_b2_some hF
  refine ps_backI (x0 := xv5) (M' := M9) hS (ps_callS C hW mf_X4_at tq_549 tq_608 ⟨Nat.le_of_ble_eq_true rfl, Nat.le_of_ble_eq_true rfl⟩ rfl rfl (As := [.ref (B + av4), .int x2]) (rest := [.int x2, .ref (B + a0)]) (c_X4_at hc) rfl hl.1 rfl (Nat.le_of_ble_eq_true rfl) dX7_pullOnce_128 ⟨Nat.le_of_ble_eq_true rfl, Nat.le_of_ble_eq_true rfl⟩) (fun H locs hW hS => ?_)
  clear hc
  generalize M9 = M at hW hF
  refine lv_iload hx hb dX7_pullOnce_131 (lv_at hl 4 rfl) ?_
  obtain ⟨hK, hF⟩ := ps_ck_some hF
  obtain ⟨M9, hc, hF⟩ := ps_b1_some hF
  refine ps_backV (M' := M9) hS (ps_callV C hW pc_6 mf_X7_feel tq_629 tq_15 tq_627 ⟨Nat.le_of_ble_eq_true rfl, Nat.le_of_ble_eq_true rfl⟩ rfl rfl (As := [.int x2, .int xv5, .int x4]) (rest := []) (c_X7_feel hc) hK rfl hl.1 rfl (Nat.le_of_ble_eq_true rfl) dX7_pullOnce_133 ⟨Nat.le_of_ble_eq_true rfl, Nat.le_of_ble_eq_true rfl⟩) (fun H locs hW hS => ?_)
  clear hc
  generalize M9 = M at hW hF
  refine lv_iload hx hb dX7_pullOnce_136 (lv_at hl 5 rfl) ?_
  refine lv_if_le (tgt := 155) hx hb dX7_pullOnce_138 (by decide) (fun hv6 => ?_) (fun hv6 => ?_)
  · replace hF := (if_pos hv6).symm.trans hF
    exact kb_X7_pullOnce_b155 C hF hW hS (lv_sub hl [0, 3, 5] rfl)
  · replace hF := (if_neg hv6).symm.trans hF
    refine lv_aload_n hx hb dX7_pullOnce_141 rfl (lv_at hl 0 rfl) ?_
    refine lv_dup hx hb dX7_pullOnce_142 rfl ?_
    refine pw_gI C hW pc_6 (k := 5) (by decide) rfl tq_233 dX7_pullOnce_143 hF (fun xv7 hF => ?_)
    refine lv_aload_n hx hb dX7_pullOnce_146 rfl (lv_at hl 0 rfl) ?_
    refine lv_aload_n hx hb dX7_pullOnce_147 rfl (lv_at hl 1 rfl) ?_
    obtain ⟨hK, hF⟩ := ps_ck_some hF
    obtain ⟨xv8, M9, hc, hF⟩ := ps_b2_some hF
    refine ps_backI (x0 := xv8) (M' := M9) hS (ps_callV C hW pc_6 mf_X7_lean tq_632 tq_633 tq_631 ⟨Nat.le_of_ble_eq_true rfl, Nat.le_of_ble_eq_true rfl⟩ rfl rfl (As := [.ref (B + a1)]) (rest := [.int xv7, .ref (B + a0)]) (c_X7_lean hc) hK rfl hl.1 rfl (Nat.le_of_ble_eq_true rfl) dX7_pullOnce_148 ⟨Nat.le_of_ble_eq_true rfl, Nat.le_of_ble_eq_true rfl⟩) (fun H locs hW hS => ?_)
    clear hc
    generalize M9 = M at hW hF
    refine lv_iadd hx hb dX7_pullOnce_151 ?_
    refine pw_pI C hW hS pc_6 (k := 5) (by decide) rfl rfl tq_233 rfl dX7_pullOnce_152 hF (fun M H locs hW hS hF => ?_)
    exact kb_X7_pullOnce_b155 C hF hW hS (lv_sub hl [0, 3, 5] rfl)
set_option maxRecDepth 100000 in
set_option maxHeartbeats 4000000 in
theorem kb_X7_pullOnce_b24 (C : ps_C p s m args meth c cX7_pullOnce 6 RX7 ((some .int)) "pullOnce" D Y B) {q : Int32 × ps_M}  {M : ps_M} {a0 : Nat} {a1 : Nat} {x2 : Int32} {t0 : Int32} (hF : f_X7_pullOnce_b24 M a0 a1 x2 t0 = some q) (hW : ps_W D Y B M H) (hS : va_S (fun q => B ≤ q) s.heap H locs) (hl : lv_has ls 6 [(0, .ref (B + a0)), (1, .ref (B + a1)), (2, .int x2)]) : W p l e rm_X7_pullOnce s m args below meth c H locs 0 0 (ps_Qi D Y B below args s 0 0 q) (F0 m 24 ls [.int t0]) := by
  have hx := C.1
  have hb := C.2.1
  have hml := C.2.2.1
  have hown := C.2.2.2.1
  have hts := C.2.2.2.2.1
  unfold f_X7_pullOnce_b24 at hF
  refine lv_istore_n (lv' := [(3, .int t0), (0, .ref (B + a0)), (1, .ref (B + a1)), (2, .int x2)]) hx hb dX7_pullOnce_24 rfl hl (by decide) rfl (fun ls hl => ?_)
  refine lv_aload_n hx hb dX7_pullOnce_25 rfl (lv_at hl 1 rfl) ?_
  refine pw_gR C hW pc_6 (k := 10) (by decide) rfl tq_246 dX7_pullOnce_26 hF (fun av9 hF => ?_)
  refine lv_iload_n hx hb dX7_pullOnce_29 rfl (lv_at hl 0 rfl) ?_
  obtain ⟨xv10, M9, hc, hF⟩ := ps_b2_some hF
  refine ps_backI (x0 := xv10) (M' := M9) hS (ps_callS C hW mf_X4_at tq_549 tq_608 ⟨Nat.le_of_ble_eq_true rfl, Nat.le_of_ble_eq_true rfl⟩ rfl rfl (As := [.ref (B + av9), .int t0]) (rest := []) (c_X4_at hc) rfl hl.1 rfl (Nat.le_of_ble_eq_true rfl) dX7_pullOnce_30 ⟨Nat.le_of_ble_eq_true rfl, Nat.le_of_ble_eq_true rfl⟩) (fun H locs hW hS => ?_)
  clear hc
  generalize M9 = M at hW hF
  refine lv_istore (lv' := [(4, .int xv10), (3, .int t0), (0, .ref (B + a0)), (1, .ref (B + a1)), (2, .int x2)]) hx hb dX7_pullOnce_33 hl (by decide) rfl (fun ls hl => ?_)
  refine lv_aload_n hx hb dX7_pullOnce_35 rfl (lv_at hl 2 rfl) ?_
  refine lv_aload_n hx hb dX7_pullOnce_36 rfl (lv_at hl 3 rfl) ?_
  refine lv_aload_n hx hb dX7_pullOnce_37 rfl (lv_at hl 2 rfl) ?_
  refine lv_aload_n hx hb dX7_pullOnce_38 rfl (lv_at hl 3 rfl) ?_
  refine lv_iload_n hx hb dX7_pullOnce_39 rfl (lv_at hl 4 rfl) ?_
  refine lv_iload hx hb dX7_pullOnce_40 (lv_at hl 0 rfl) ?_
  obtain ⟨hK, hF⟩ := ps_ck_some hF
  obtain ⟨xv11, M9, hc, hF⟩ := ps_b2_some hF
  refine ps_backI (x0 := xv11) (M' := M9) hS (ps_callV C hW pc_6 mf_X7_pullOf tq_611 tq_12 tq_609 ⟨Nat.le_of_ble_eq_true rfl, Nat.le_of_ble_eq_true rfl⟩ rfl rfl (As := [.ref (B + a1), .int x2, .int xv10]) (rest := [.ref (B + a1), .ref (B + a0)]) (c_X7_pullOf hc) hK rfl hl.1 rfl (Nat.le_of_ble_eq_true rfl) dX7_pullOnce_42 ⟨Nat.le_of_ble_eq_true rfl, Nat.le_of_ble_eq_true rfl⟩) (fun H locs hW hS => ?_)
  clear hc
  generalize M9 = M at hW hF
  obtain ⟨hK, hF⟩ := ps_ck_some hF
  obtain ⟨xv12, M9, hc, hF⟩ := ps_b2_some hF
  refine ps_backI (x0 := xv12) (M' := M9) hS (ps_callV C hW pc_6 mf_X7_cutBy tq_620 tq_13 tq_618 ⟨Nat.le_of_ble_eq_true rfl, Nat.le_of_ble_eq_true rfl⟩ rfl rfl (As := [.ref (B + a1), .int xv11]) (rest := []) (c_X7_cutBy hc) hK rfl hl.1 rfl (Nat.le_of_ble_eq_true rfl) dX7_pullOnce_45 ⟨Nat.le_of_ble_eq_true rfl, Nat.le_of_ble_eq_true rfl⟩) (fun H locs hW hS => ?_)
  clear hc
  generalize M9 = M at hW hF
  refine lv_istore (lv' := [(5, .int xv12), (4, .int xv10), (3, .int t0), (0, .ref (B + a0)), (1, .ref (B + a1)), (2, .int x2)]) hx hb dX7_pullOnce_48 hl (by decide) rfl (fun ls hl => ?_)
  refine lv_aload_n hx hb dX7_pullOnce_50 rfl (lv_at hl 3 rfl) ?_
  refine lv_aload_n hx hb dX7_pullOnce_51 rfl (lv_at hl 3 rfl) ?_
  refine pw_gI C hW pc_6 (k := 3) (by decide) rfl tq_228 dX7_pullOnce_52 hF (fun xv13 hF => ?_)
  refine lv_iload hx hb dX7_pullOnce_55 (lv_at hl 0 rfl) ?_
  refine lv_iadd hx hb dX7_pullOnce_57 ?_
  refine lv_aload_n hx hb dX7_pullOnce_58 rfl (lv_at hl 4 rfl) ?_
  obtain ⟨hK, hF⟩ := ps_ck_some hF
  obtain ⟨xv14, M9, hc, hF⟩ := ps_b2_some hF
  refine ps_backI (x0 := xv14) (M' := M9) hS (ps_callV C hW pc_7 mf_X8_bottom tq_540 tq_541 tq_539 ⟨Nat.le_of_ble_eq_true rfl, Nat.le_of_ble_eq_true rfl⟩ rfl rfl (As := []) (rest := [.int (xv13 + xv12), .ref (B + a0)]) (c_X8_bottom hc) hK rfl hl.1 rfl (Nat.le_of_ble_eq_true rfl) dX7_pullOnce_59 ⟨Nat.le_of_ble_eq_true rfl, Nat.le_of_ble_eq_true rfl⟩) (fun H locs hW hS => ?_)
  clear hc
  generalize M9 = M at hW hF
  refine va_mmin hx hb (hml.trans hl.1.symm) hown (hts _ tq_613) (hts _ tq_602) (hts _ tq_65) (hts _ tq_603) (Nat.le_of_ble_eq_true rfl) (Nat.le_of_ble_eq_true rfl) (Nat.le_of_ble_eq_true rfl) (Nat.le_of_ble_eq_true rfl) dX7_pullOnce_62 ?_
  refine pw_v hF (fun xv15 hF => ?_)
  refine pw_pI C hW hS pc_6 (k := 3) (by decide) rfl rfl tq_228 rfl dX7_pullOnce_65 hF (fun M H locs hW hS hF => ?_)
  refine lv_aload_n hx hb dX7_pullOnce_68 rfl (lv_at hl 3 rfl) ?_
  refine lv_dup hx hb dX7_pullOnce_69 rfl ?_
  refine pw_gI C hW pc_6 (k := 6) (by decide) rfl tq_235 dX7_pullOnce_70 hF (fun xv16 hF => ?_)
  refine lv_aload_n hx hb dX7_pullOnce_73 rfl (lv_at hl 4 rfl) ?_
  refine pw_gI C hW pc_7 (k := 4) (by decide) rfl tq_106 dX7_pullOnce_74 hF (fun xv17 hF => ?_)
  refine lv_iadd hx hb dX7_pullOnce_77 ?_
  refine pw_pI C hW hS pc_6 (k := 6) (by decide) rfl rfl tq_235 rfl dX7_pullOnce_78 hF (fun M H locs hW hS hF => ?_)
  refine lv_aload_n hx hb dX7_pullOnce_81 rfl (lv_at hl 4 rfl) ?_
  refine lv_iload hx hb dX7_pullOnce_82 (lv_at hl 1 rfl) ?_
  obtain ⟨xv18, M9, hc, hF⟩ := ps_b2_some hF
  refine ps_backI (x0 := xv18) (M' := M9) hS (ps_callS C hW mf_X7_buckles tq_616 tq_615 ⟨Nat.le_of_ble_eq_true rfl, Nat.le_of_ble_eq_true rfl⟩ rfl rfl (As := [.ref (B + a1), .int xv10]) (rest := []) (c_X7_buckles hc) rfl hl.1 rfl (Nat.le_of_ble_eq_true rfl) dX7_pullOnce_84 ⟨Nat.le_of_ble_eq_true rfl, Nat.le_of_ble_eq_true rfl⟩) (fun H locs hW hS => ?_)
  clear hc
  generalize M9 = M at hW hF
  refine lv_if_eq (tgt := 102) hx hb dX7_pullOnce_87 (by decide) (fun hv19 => ?_) (fun hv19 => ?_)
  · replace hF := (if_pos hv19).symm.trans hF
    exact kb_X7_pullOnce_b102 C hF hW hS (lv_sub hl [3, 4, 5, 2, 1, 0] rfl)
  · replace hF := (if_neg hv19).symm.trans hF
    refine lv_aload_n hx hb dX7_pullOnce_90 rfl (lv_at hl 3 rfl) ?_
    refine lv_iload_n hx hb dX7_pullOnce_91 rfl (lv_at hl 5 rfl) ?_
    refine lv_iconst (v := 2) hx hb dX7_pullOnce_92 (by decide) ?_
    obtain ⟨hK, hF⟩ := ps_ck_some hF
    obtain ⟨M9, hc, hF⟩ := ps_b1_some hF
    refine ps_backV (M' := M9) hS (ps_callV C hW pc_6 mf_X7_tire tq_624 tq_14 tq_622 ⟨Nat.le_of_ble_eq_true rfl, Nat.le_of_ble_eq_true rfl⟩ rfl rfl (As := [.int x2, .int (2 : Int32)]) (rest := []) (c_X7_tire hc) hK rfl hl.1 rfl (Nat.le_of_ble_eq_true rfl) dX7_pullOnce_93 ⟨Nat.le_of_ble_eq_true rfl, Nat.le_of_ble_eq_true rfl⟩) (fun H locs hW hS => ?_)
    clear hc
    generalize M9 = M at hW hF
    refine lv_aload_n hx hb dX7_pullOnce_96 rfl (lv_at hl 3 rfl) ?_
    refine lv_iload_n hx hb dX7_pullOnce_97 rfl (lv_at hl 2 rfl) ?_
    refine lv_iconst (v := 2) hx hb dX7_pullOnce_98 (by decide) ?_
    obtain ⟨hK, hF⟩ := ps_ck_some hF
    obtain ⟨M9, hc, hF⟩ := ps_b1_some hF
    refine ps_backV (M' := M9) hS (ps_callV C hW pc_6 mf_X7_tire tq_624 tq_14 tq_622 ⟨Nat.le_of_ble_eq_true rfl, Nat.le_of_ble_eq_true rfl⟩ rfl rfl (As := [.int t0, .int (2 : Int32)]) (rest := []) (c_X7_tire hc) hK rfl hl.1 rfl (Nat.le_of_ble_eq_true rfl) dX7_pullOnce_99 ⟨Nat.le_of_ble_eq_true rfl, Nat.le_of_ble_eq_true rfl⟩) (fun H locs hW hS => ?_)
    clear hc
    generalize M9 = M at hW hF
    exact kb_X7_pullOnce_b102 C hF hW hS (lv_sub hl [3, 4, 5, 2, 1, 0] rfl)
set_option maxRecDepth 100000 in
set_option maxHeartbeats 4000000 in
theorem kb_X7_pullOnce (C : ps_C p s m args meth c cX7_pullOnce 6 RX7 ((some .int)) "pullOnce" D Y B) {q : Int32 × ps_M}  {M : ps_M} {a0 : Nat} {a1 : Nat} (hF : f_X7_pullOnce M a0 a1 = some q) (hW : ps_W D Y B M H) (hS : va_S (fun q => B ≤ q) s.heap H locs) (hl : lv_has ls 6 [(0, .ref (B + a0)), (1, .ref (B + a1))]) : W p l e rm_X7_pullOnce s m args below meth c H locs 0 0 (ps_Qi D Y B below args s 0 0 q) (F0 m 0 ls []) := by
  have hx := C.1
  have hb := C.2.1
  have hml := C.2.2.1
  have hown := C.2.2.2.1
  have hts := C.2.2.2.2.1
  unfold f_X7_pullOnce at hF
  refine lv_aload_n hx hb dX7_pullOnce_0 rfl (lv_at hl 0 rfl) ?_
  refine pw_gI C hW pc_6 (k := 2) (by decide) rfl tq_226 dX7_pullOnce_1 hF (fun xv20 hF => ?_)
  refine lv_istore_n (lv' := [(2, .int xv20), (0, .ref (B + a0)), (1, .ref (B + a1))]) hx hb dX7_pullOnce_4 rfl hl (by decide) rfl (fun ls hl => ?_)
  refine lv_iload_n hx hb dX7_pullOnce_5 rfl (lv_at hl 0 rfl) ?_
  refine lv_aload_n hx hb dX7_pullOnce_6 rfl (lv_at hl 1 rfl) ?_
  refine pw_gI C hW pc_6 (k := 0) (by decide) rfl tq_220 dX7_pullOnce_7 hF (fun xv21 hF => ?_)
  refine lv_icmp_ne (tgt := 20) hx hb dX7_pullOnce_10 (by decide) (fun hv22 => ?_) (fun hv22 => ?_)
  · replace hF := (if_neg hv22).symm.trans hF
    refine lv_aload_n hx hb dX7_pullOnce_20 rfl (lv_at hl 1 rfl) ?_
    refine pw_gI C hW pc_6 (k := 0) (by decide) rfl tq_220 dX7_pullOnce_21 hF (fun xv23 hF => ?_)
    exact kb_X7_pullOnce_b24 C hF hW hS (lv_sub hl [1, 2, 0] rfl)
  · replace hF := (if_pos hv22).symm.trans hF
    refine lv_aload_n hx hb dX7_pullOnce_13 rfl (lv_at hl 1 rfl) ?_
    refine pw_gI C hW pc_6 (k := 1) (by decide) rfl tq_223 dX7_pullOnce_14 hF (fun xv24 hF => ?_)
    refine lv_goto (tgt := 24) hx hb dX7_pullOnce_17 (by decide) ?_
    exact kb_X7_pullOnce_b24 C hF hW hS (lv_sub hl [1, 2, 0] rfl)
theorem mf_X7_pullOnce : ps_mf yX7_pullOnce cX7_pullOnce 6 ((some .int)) 1 := ⟨tq_607, tq_66, by decide +kernel, by decide +kernel, by decide +kernel⟩
theorem c_X7_pullOnce {l : Launch} {D : va_G} {Y : ps_A} {B : Nat} {M : ps_M} {a0 : Nat} {a1 : Nat} {r : Int32} {M' : ps_M} (hF : f_X7_pullOnce M a0 a1 = some (r, M')) : Met l yX7_pullOnce (Cond.code yX7_pullOnce cX7_pullOnce 6 ((some .int)) :: tb_G) rm_X7_pullOnce (ps_PB D Y B M [.ref (B + a0), .ref (B + a1)]) (va_Qi (fun x (_ : Unit) => x = r) (fun _ t => ps_St D Y B M' t) (fun q => B ≤ q)) 0 0 (fun q => B ≤ q) :=
  pm_of (by decide +kernel) (Nat.le_of_ble_eq_true rfl) (fun p e s m args below meth c C hW hS ls hl => kb_X7_pullOnce C hF hW hS hl)

abbrev rm_X6_isNoFresher : Room := { frames := 1, cells := 0, slots := 0, locals := 21 }
def f_X6_isNoFresher_b77 (M : ps_M) (t0 : Int32) : Option (Int32 × ps_M) := ps_z t0 M
def f_X6_isNoFresher_b76 (M : ps_M)  : Option (Int32 × ps_M) := f_X6_isNoFresher_b77 M (0 : Int32)
def f_X6_isNoFresher (M : ps_M) (a0 : Nat) (a1 : Nat) : Option (Int32 × ps_M) := ps_gR M a1 6 11 (fun av1 => ps_gI M a1 6 0 (fun xv2 => ps_b2 (f_X4_at M av1 xv2) (fun xv3 M => ps_gI M a0 5 4 (fun xv4 => if xv3 < xv4 then (f_X6_isNoFresher_b76 M ) else (ps_gR M a1 6 11 (fun av6 => ps_gI M a1 6 1 (fun xv7 => ps_b2 (f_X4_at M av6 xv7) (fun xv8 M => ps_gI M a0 5 5 (fun xv9 => if xv8 < xv9 then (f_X6_isNoFresher_b76 M ) else (ps_gR M a1 6 12 (fun av11 => ps_gI M a1 6 0 (fun xv12 => ps_b2 (f_X4_at M av11 xv12) (fun xv13 M => ps_gI M a0 5 6 (fun xv14 => if xv13 = xv14 then (ps_gR M a1 6 12 (fun av16 => ps_gI M a1 6 1 (fun xv17 => ps_b2 (f_X4_at M av16 xv17) (fun xv18 M => ps_gI M a0 5 7 (fun xv19 => if xv18 = xv19 then (f_X6_isNoFresher_b77 M (1 : Int32)) else (f_X6_isNoFresher_b76 M )))))) else (f_X6_isNoFresher_b76 M )))))))))))))))
set_option maxRecDepth 100000 in
set_option maxHeartbeats 4000000 in
theorem kb_X6_isNoFresher_b77 (C : ps_C p s m args meth c cX6_isNoFresher 2 RX6 ((some .boolean)) "isNoFresher" D Y B) {q : Int32 × ps_M}  {M : ps_M} {t0 : Int32} (hF : f_X6_isNoFresher_b77 M t0 = some q) (hW : ps_W D Y B M H) (hS : va_S (fun q => B ≤ q) s.heap H locs) (hl : lv_has ls 2 []) : W p l e rm_X6_isNoFresher s m args below meth c H locs 0 0 (ps_Qi D Y B below args s 0 0 q) (F0 m 77 ls [.int t0]) := by
  have hx := C.1
  have hb := C.2.1
  have hml := C.2.2.1
  have hown := C.2.2.2.1
  have hts := C.2.2.2.2.1
  unfold f_X6_isNoFresher_b77 at hF
  exact pw_zret C hW hS dX6_isNoFresher_77 hF
set_option maxRecDepth 100000 in
set_option maxHeartbeats 4000000 in
theorem kb_X6_isNoFresher_b76 (C : ps_C p s m args meth c cX6_isNoFresher 2 RX6 ((some .boolean)) "isNoFresher" D Y B) {q : Int32 × ps_M}  {M : ps_M}  (hF : f_X6_isNoFresher_b76 M  = some q) (hW : ps_W D Y B M H) (hS : va_S (fun q => B ≤ q) s.heap H locs) (hl : lv_has ls 2 []) : W p l e rm_X6_isNoFresher s m args below meth c H locs 0 0 (ps_Qi D Y B below args s 0 0 q) (F0 m 76 ls []) := by
  have hx := C.1
  have hb := C.2.1
  have hml := C.2.2.1
  have hown := C.2.2.2.1
  have hts := C.2.2.2.2.1
  unfold f_X6_isNoFresher_b76 at hF
  refine lv_iconst (v := 0) hx hb dX6_isNoFresher_76 (by decide) ?_
  exact kb_X6_isNoFresher_b77 C hF hW hS (lv_sub hl [] rfl)
set_option maxRecDepth 100000 in
set_option maxHeartbeats 4000000 in
theorem kb_X6_isNoFresher (C : ps_C p s m args meth c cX6_isNoFresher 2 RX6 ((some .boolean)) "isNoFresher" D Y B) {q : Int32 × ps_M}  {M : ps_M} {a0 : Nat} {a1 : Nat} (hF : f_X6_isNoFresher M a0 a1 = some q) (hW : ps_W D Y B M H) (hS : va_S (fun q => B ≤ q) s.heap H locs) (hl : lv_has ls 2 [(0, .ref (B + a0)), (1, .ref (B + a1))]) : W p l e rm_X6_isNoFresher s m args below meth c H locs 0 0 (ps_Qi D Y B below args s 0 0 q) (F0 m 0 ls []) := by
  have hx := C.1
  have hb := C.2.1
  have hml := C.2.2.1
  have hown := C.2.2.2.1
  have hts := C.2.2.2.2.1
  unfold f_X6_isNoFresher at hF
  refine lv_aload_n hx hb dX6_isNoFresher_0 rfl (lv_at hl 1 rfl) ?_
  refine pw_gR C hW pc_6 (k := 11) (by decide) rfl tq_250 dX6_isNoFresher_1 hF (fun av1 hF => ?_)
  refine lv_aload_n hx hb dX6_isNoFresher_4 rfl (lv_at hl 1 rfl) ?_
  refine pw_gI C hW pc_6 (k := 0) (by decide) rfl tq_222 dX6_isNoFresher_5 hF (fun xv2 hF => ?_)
  obtain ⟨xv3, M9, hc, hF⟩ := ps_b2_some hF
  refine ps_backI (x0 := xv3) (M' := M9) hS (ps_callS C hW mf_X4_at tq_549 tq_718 ⟨Nat.le_of_ble_eq_true rfl, Nat.le_of_ble_eq_true rfl⟩ rfl rfl (As := [.ref (B + av1), .int xv2]) (rest := []) (c_X4_at hc) rfl hl.1 rfl (Nat.le_of_ble_eq_true rfl) dX6_isNoFresher_8 ⟨Nat.le_of_ble_eq_true rfl, Nat.le_of_ble_eq_true rfl⟩) (fun H locs hW hS => ?_)
  clear hc
  generalize M9 = M at hW hF
  refine lv_aload_n hx hb dX6_isNoFresher_11 rfl (lv_at hl 0 rfl) ?_
  refine pw_gI C hW pc_5 (k := 4) (by decide) rfl tq_318 dX6_isNoFresher_12 hF (fun xv4 hF => ?_)
  refine lv_icmp_lt (tgt := 76) hx hb dX6_isNoFresher_15 (by decide) (fun hv5 => ?_) (fun hv5 => ?_)
  · replace hF := (if_pos hv5).symm.trans hF
    exact kb_X6_isNoFresher_b76 C hF hW hS (lv_sub hl [] rfl)
  · replace hF := (if_neg hv5).symm.trans hF
    refine lv_aload_n hx hb dX6_isNoFresher_18 rfl (lv_at hl 1 rfl) ?_
    refine pw_gR C hW pc_6 (k := 11) (by decide) rfl tq_250 dX6_isNoFresher_19 hF (fun av6 hF => ?_)
    refine lv_aload_n hx hb dX6_isNoFresher_22 rfl (lv_at hl 1 rfl) ?_
    refine pw_gI C hW pc_6 (k := 1) (by decide) rfl tq_225 dX6_isNoFresher_23 hF (fun xv7 hF => ?_)
    obtain ⟨xv8, M9, hc, hF⟩ := ps_b2_some hF
    refine ps_backI (x0 := xv8) (M' := M9) hS (ps_callS C hW mf_X4_at tq_549 tq_718 ⟨Nat.le_of_ble_eq_true rfl, Nat.le_of_ble_eq_true rfl⟩ rfl rfl (As := [.ref (B + av6), .int xv7]) (rest := []) (c_X4_at hc) rfl hl.1 rfl (Nat.le_of_ble_eq_true rfl) dX6_isNoFresher_26 ⟨Nat.le_of_ble_eq_true rfl, Nat.le_of_ble_eq_true rfl⟩) (fun H locs hW hS => ?_)
    clear hc
    generalize M9 = M at hW hF
    refine lv_aload_n hx hb dX6_isNoFresher_29 rfl (lv_at hl 0 rfl) ?_
    refine pw_gI C hW pc_5 (k := 5) (by decide) rfl tq_319 dX6_isNoFresher_30 hF (fun xv9 hF => ?_)
    refine lv_icmp_lt (tgt := 76) hx hb dX6_isNoFresher_33 (by decide) (fun hv10 => ?_) (fun hv10 => ?_)
    · replace hF := (if_pos hv10).symm.trans hF
      exact kb_X6_isNoFresher_b76 C hF hW hS (lv_sub hl [] rfl)
    · replace hF := (if_neg hv10).symm.trans hF
      refine lv_aload_n hx hb dX6_isNoFresher_36 rfl (lv_at hl 1 rfl) ?_
      refine pw_gR C hW pc_6 (k := 12) (by decide) rfl tq_253 dX6_isNoFresher_37 hF (fun av11 hF => ?_)
      refine lv_aload_n hx hb dX6_isNoFresher_40 rfl (lv_at hl 1 rfl) ?_
      refine pw_gI C hW pc_6 (k := 0) (by decide) rfl tq_222 dX6_isNoFresher_41 hF (fun xv12 hF => ?_)
      obtain ⟨xv13, M9, hc, hF⟩ := ps_b2_some hF
      refine ps_backI (x0 := xv13) (M' := M9) hS (ps_callS C hW mf_X4_at tq_549 tq_718 ⟨Nat.le_of_ble_eq_true rfl, Nat.le_of_ble_eq_true rfl⟩ rfl rfl (As := [.ref (B + av11), .int xv12]) (rest := []) (c_X4_at hc) rfl hl.1 rfl (Nat.le_of_ble_eq_true rfl) dX6_isNoFresher_44 ⟨Nat.le_of_ble_eq_true rfl, Nat.le_of_ble_eq_true rfl⟩) (fun H locs hW hS => ?_)
      clear hc
      generalize M9 = M at hW hF
      refine lv_aload_n hx hb dX6_isNoFresher_47 rfl (lv_at hl 0 rfl) ?_
      refine pw_gI C hW pc_5 (k := 6) (by decide) rfl tq_320 dX6_isNoFresher_48 hF (fun xv14 hF => ?_)
      refine lv_icmp_ne (tgt := 76) hx hb dX6_isNoFresher_51 (by decide) (fun hv15 => ?_) (fun hv15 => ?_)
      · replace hF := (if_neg hv15).symm.trans hF
        exact kb_X6_isNoFresher_b76 C hF hW hS (lv_sub hl [] rfl)
      · replace hF := (if_pos hv15).symm.trans hF
        refine lv_aload_n hx hb dX6_isNoFresher_54 rfl (lv_at hl 1 rfl) ?_
        refine pw_gR C hW pc_6 (k := 12) (by decide) rfl tq_253 dX6_isNoFresher_55 hF (fun av16 hF => ?_)
        refine lv_aload_n hx hb dX6_isNoFresher_58 rfl (lv_at hl 1 rfl) ?_
        refine pw_gI C hW pc_6 (k := 1) (by decide) rfl tq_225 dX6_isNoFresher_59 hF (fun xv17 hF => ?_)
        obtain ⟨xv18, M9, hc, hF⟩ := ps_b2_some hF
        refine ps_backI (x0 := xv18) (M' := M9) hS (ps_callS C hW mf_X4_at tq_549 tq_718 ⟨Nat.le_of_ble_eq_true rfl, Nat.le_of_ble_eq_true rfl⟩ rfl rfl (As := [.ref (B + av16), .int xv17]) (rest := []) (c_X4_at hc) rfl hl.1 rfl (Nat.le_of_ble_eq_true rfl) dX6_isNoFresher_62 ⟨Nat.le_of_ble_eq_true rfl, Nat.le_of_ble_eq_true rfl⟩) (fun H locs hW hS => ?_)
        clear hc
        generalize M9 = M at hW hF
        refine lv_aload_n hx hb dX6_isNoFresher_65 rfl (lv_at hl 0 rfl) ?_
        refine pw_gI C hW pc_5 (k := 7) (by decide) rfl tq_321 dX6_isNoFresher_66 hF (fun xv19 hF => ?_)
        refine lv_icmp_ne (tgt := 76) hx hb dX6_isNoFresher_69 (by decide) (fun hv20 => ?_) (fun hv20 => ?_)
        · replace hF := (if_neg hv20).symm.trans hF
          exact kb_X6_isNoFresher_b76 C hF hW hS (lv_sub hl [] rfl)
        · replace hF := (if_pos hv20).symm.trans hF
          refine lv_iconst (v := 1) hx hb dX6_isNoFresher_72 (by decide) ?_
          refine lv_goto (tgt := 77) hx hb dX6_isNoFresher_73 (by decide) ?_
          exact kb_X6_isNoFresher_b77 C hF hW hS (lv_sub hl [] rfl)
theorem mf_X6_isNoFresher : ps_mf yX6_isNoFresher cX6_isNoFresher 2 ((some .boolean)) 1 := ⟨tq_717, tq_68, by decide +kernel, by decide +kernel, by decide +kernel⟩
theorem c_X6_isNoFresher {l : Launch} {D : va_G} {Y : ps_A} {B : Nat} {M : ps_M} {a0 : Nat} {a1 : Nat} {r : Int32} {M' : ps_M} (hF : f_X6_isNoFresher M a0 a1 = some (r, M')) : Met l yX6_isNoFresher (Cond.code yX6_isNoFresher cX6_isNoFresher 2 ((some .boolean)) :: tb_G) rm_X6_isNoFresher (ps_PB D Y B M [.ref (B + a0), .ref (B + a1)]) (va_Qi (fun x (_ : Unit) => x = r) (fun _ t => ps_St D Y B M' t) (fun q => B ≤ q)) 0 0 (fun q => B ≤ q) :=
  pm_of (by decide +kernel) (Nat.le_of_ble_eq_true rfl) (fun p e s m args below meth c C hW hS ls hl => kb_X6_isNoFresher C hF hW hS hl)

abbrev rm_X6_rememberPair : Room := { frames := 1, cells := 0, slots := 0, locals := 21 }
def f_X6_rememberPair (M : ps_M) (a0 : Nat) (a1 : Nat) : Option (ps_M) := ps_gR M a1 6 11 (fun av1 => ps_gI M a1 6 0 (fun xv2 => ps_b2 (f_X4_at M av1 xv2) (fun xv3 M => ps_pI M a0 5 4 xv3 (fun M => ps_gR M a1 6 11 (fun av4 => ps_gI M a1 6 1 (fun xv5 => ps_b2 (f_X4_at M av4 xv5) (fun xv6 M => ps_pI M a0 5 5 xv6 (fun M => ps_gR M a1 6 12 (fun av7 => ps_gI M a1 6 0 (fun xv8 => ps_b2 (f_X4_at M av7 xv8) (fun xv9 M => ps_pI M a0 5 6 xv9 (fun M => ps_gR M a1 6 12 (fun av10 => ps_gI M a1 6 1 (fun xv11 => ps_b2 (f_X4_at M av10 xv11) (fun xv12 M => ps_pI M a0 5 7 xv12 (fun M => some M))))))))))))))))
set_option maxRecDepth 100000 in
set_option maxHeartbeats 4000000 in
theorem kb_X6_rememberPair (C : ps_C p s m args meth c cX6_rememberPair 2 RX6 none "rememberPair" D Y B) {q : ps_M}  {M : ps_M} {a0 : Nat} {a1 : Nat} (hF : f_X6_rememberPair M a0 a1 = some q) (hW : ps_W D Y B M H) (hS : va_S (fun q => B ≤ q) s.heap H locs) (hl : lv_has ls 2 [(0, .ref (B + a0)), (1, .ref (B + a1))]) : W p l e rm_X6_rememberPair s m args below meth c H locs 0 0 (ps_Qv D Y B below args s 0 0 q) (F0 m 0 ls []) := by
  have hx := C.1
  have hb := C.2.1
  have hml := C.2.2.1
  have hown := C.2.2.2.1
  have hts := C.2.2.2.2.1
  unfold f_X6_rememberPair at hF
  refine lv_aload_n hx hb dX6_rememberPair_0 rfl (lv_at hl 0 rfl) ?_
  refine lv_aload_n hx hb dX6_rememberPair_1 rfl (lv_at hl 1 rfl) ?_
  refine pw_gR C hW pc_6 (k := 11) (by decide) rfl tq_250 dX6_rememberPair_2 hF (fun av1 hF => ?_)
  refine lv_aload_n hx hb dX6_rememberPair_5 rfl (lv_at hl 1 rfl) ?_
  refine pw_gI C hW pc_6 (k := 0) (by decide) rfl tq_222 dX6_rememberPair_6 hF (fun xv2 hF => ?_)
  obtain ⟨xv3, M9, hc, hF⟩ := ps_b2_some hF
  refine ps_backI (x0 := xv3) (M' := M9) hS (ps_callS C hW mf_X4_at tq_549 tq_718 ⟨Nat.le_of_ble_eq_true rfl, Nat.le_of_ble_eq_true rfl⟩ rfl rfl (As := [.ref (B + av1), .int xv2]) (rest := [.ref (B + a0)]) (c_X4_at hc) rfl hl.1 rfl (Nat.le_of_ble_eq_true rfl) dX6_rememberPair_9 ⟨Nat.le_of_ble_eq_true rfl, Nat.le_of_ble_eq_true rfl⟩) (fun H locs hW hS => ?_)
  clear hc
  generalize M9 = M at hW hF
  refine pw_pI C hW hS pc_5 (k := 4) (by decide) rfl rfl tq_318 rfl dX6_rememberPair_12 hF (fun M H locs hW hS hF => ?_)
  refine lv_aload_n hx hb dX6_rememberPair_15 rfl (lv_at hl 0 rfl) ?_
  refine lv_aload_n hx hb dX6_rememberPair_16 rfl (lv_at hl 1 rfl) ?_
  refine pw_gR C hW pc_6 (k := 11) (by decide) rfl tq_250 dX6_rememberPair_17 hF (fun av4 hF => ?_)
  refine lv_aload_n hx hb dX6_rememberPair_20 rfl (lv_at hl 1 rfl) ?_
  refine pw_gI C hW pc_6 (k := 1) (by decide) rfl tq_225 dX6_rememberPair_21 hF (fun xv5 hF => ?_)
  obtain ⟨xv6, M9, hc, hF⟩ := ps_b2_some hF
  refine ps_backI (x0 := xv6) (M' := M9) hS (ps_callS C hW mf_X4_at tq_549 tq_718 ⟨Nat.le_of_ble_eq_true rfl, Nat.le_of_ble_eq_true rfl⟩ rfl rfl (As := [.ref (B + av4), .int xv5]) (rest := [.ref (B + a0)]) (c_X4_at hc) rfl hl.1 rfl (Nat.le_of_ble_eq_true rfl) dX6_rememberPair_24 ⟨Nat.le_of_ble_eq_true rfl, Nat.le_of_ble_eq_true rfl⟩) (fun H locs hW hS => ?_)
  clear hc
  generalize M9 = M at hW hF
  refine pw_pI C hW hS pc_5 (k := 5) (by decide) rfl rfl tq_319 rfl dX6_rememberPair_27 hF (fun M H locs hW hS hF => ?_)
  refine lv_aload_n hx hb dX6_rememberPair_30 rfl (lv_at hl 0 rfl) ?_
  refine lv_aload_n hx hb dX6_rememberPair_31 rfl (lv_at hl 1 rfl) ?_
  refine pw_gR C hW pc_6 (k := 12) (by decide) rfl tq_253 dX6_rememberPair_32 hF (fun av7 hF => ?_)
  refine lv_aload_n hx hb dX6_rememberPair_35 rfl (lv_at hl 1 rfl) ?_
  refine pw_gI C hW pc_6 (k := 0) (by decide) rfl tq_222 dX6_rememberPair_36 hF (fun xv8 hF => ?_)
  obtain ⟨xv9, M9, hc, hF⟩ := ps_b2_some hF
  refine ps_backI (x0 := xv9) (M' := M9) hS (ps_callS C hW mf_X4_at tq_549 tq_718 ⟨Nat.le_of_ble_eq_true rfl, Nat.le_of_ble_eq_true rfl⟩ rfl rfl (As := [.ref (B + av7), .int xv8]) (rest := [.ref (B + a0)]) (c_X4_at hc) rfl hl.1 rfl (Nat.le_of_ble_eq_true rfl) dX6_rememberPair_39 ⟨Nat.le_of_ble_eq_true rfl, Nat.le_of_ble_eq_true rfl⟩) (fun H locs hW hS => ?_)
  clear hc
  generalize M9 = M at hW hF
  refine pw_pI C hW hS pc_5 (k := 6) (by decide) rfl rfl tq_320 rfl dX6_rememberPair_42 hF (fun M H locs hW hS hF => ?_)
  refine lv_aload_n hx hb dX6_rememberPair_45 rfl (lv_at hl 0 rfl) ?_
  refine lv_aload_n hx hb dX6_rememberPair_46 rfl (lv_at hl 1 rfl) ?_
  refine pw_gR C hW pc_6 (k := 12) (by decide) rfl tq_253 dX6_rememberPair_47 hF (fun av10 hF => ?_)
  refine lv_aload_n hx hb dX6_rememberPair_50 rfl (lv_at hl 1 rfl) ?_
  refine pw_gI C hW pc_6 (k := 1) (by decide) rfl tq_225 dX6_rememberPair_51 hF (fun xv11 hF => ?_)
  obtain ⟨xv12, M9, hc, hF⟩ := ps_b2_some hF
  refine ps_backI (x0 := xv12) (M' := M9) hS (ps_callS C hW mf_X4_at tq_549 tq_718 ⟨Nat.le_of_ble_eq_true rfl, Nat.le_of_ble_eq_true rfl⟩ rfl rfl (As := [.ref (B + av10), .int xv11]) (rest := [.ref (B + a0)]) (c_X4_at hc) rfl hl.1 rfl (Nat.le_of_ble_eq_true rfl) dX6_rememberPair_54 ⟨Nat.le_of_ble_eq_true rfl, Nat.le_of_ble_eq_true rfl⟩) (fun H locs hW hS => ?_)
  clear hc
  generalize M9 = M at hW hF
  refine pw_pI C hW hS pc_5 (k := 7) (by decide) rfl rfl tq_321 rfl dX6_rememberPair_57 hF (fun M H locs hW hS hF => ?_)
  exact pw_vret C hW hS dX6_rememberPair_60 hF
theorem mf_X6_rememberPair : ps_mf yX6_rememberPair cX6_rememberPair 2 none 1 := ⟨tq_722, tq_68, by decide +kernel, by decide +kernel, by decide +kernel⟩
theorem c_X6_rememberPair {l : Launch} {D : va_G} {Y : ps_A} {B : Nat} {M : ps_M} {a0 : Nat} {a1 : Nat} {M' : ps_M} (hF : f_X6_rememberPair M a0 a1 = some M') : Met l yX6_rememberPair (Cond.code yX6_rememberPair cX6_rememberPair 2 none :: tb_G) rm_X6_rememberPair (ps_PB D Y B M [.ref (B + a0), .ref (B + a1)]) (va_Qv (fun (_ : Unit) => True) (fun _ t => ps_St D Y B M' t) (fun q => B ≤ q)) 0 0 (fun q => B ≤ q) :=
  pm_of (by decide +kernel) (Nat.le_of_ble_eq_true rfl) (fun p e s m args below meth c C hW hS ls hl => kb_X6_rememberPair C hF hW hS hl)

abbrev rm_X6_strokesThrough : Room := { frames := 3, cells := 0, slots := 0, locals := 71 }
def f_X6_strokesThrough_b62 (k6 : ps_M → Nat → Nat → Nat → Int32 → Int32 → Int32 → Option (Int32 × ps_M)) (M : ps_M) (a0 : Nat) (a1 : Nat) (a2 : Nat) (x3 : Int32) (x4 : Int32) (x5 : Int32) : Option (Int32 × ps_M) := if x5 = (1 : Int32) then (ps_ck M a0 5 (ps_b1 (f_X6_rememberPair M a0 a2) (fun M => k6 M a0 a1 a2 x3 x4 x5))) else (k6 M a0 a1 a2 x3 x4 x5)
def f_X6_strokesThrough_b36 (k6 : ps_M → Nat → Nat → Nat → Int32 → Int32 → Int32 → Option (Int32 × ps_M)) (M : ps_M) (a0 : Nat) (a1 : Nat) (a2 : Nat) (x3 : Int32) (x4 : Int32) (t0 : Int32) : Option (Int32 × ps_M) := ps_v (x4 + 1) (fun xv2 => if t0 = (3 : Int32) then (ps_ck M a0 5 (ps_b2 (f_X6_isNoFresher M a0 a2) (fun xv4 M => if xv4 = 0 then (f_X6_strokesThrough_b62 k6 M a0 a1 a2 x3 xv2 (1 : Int32)) else (some ((1000 : Int32), M))))) else (f_X6_strokesThrough_b62 k6 M a0 a1 a2 x3 xv2 t0))
def f_X6_strokesThrough_b92 (M : ps_M) (t0 : Int32) : Option (Int32 × ps_M) := some (t0, M)
def f_X6_strokesThrough_b76 (M : ps_M) (a1 : Nat) (a2 : Nat) (x4 : Int32) : Option (Int32 × ps_M) := ps_ck M a2 6 (ps_b2 (f_X7_isThrough M a2 a1) (fun xv6 M => if xv6 = 0 then (f_X6_strokesThrough_b92 M (1000 : Int32)) else (f_X6_strokesThrough_b92 M x4)))
def f_X6_strokesThrough_w6 (k6 : ps_M → Nat → Nat → Nat → Int32 → Int32 → Int32 → Option (Int32 × ps_M)) (M : ps_M) (a0 : Nat) (a1 : Nat) (a2 : Nat) (x3 : Int32) (x4 : Int32) (x5 : Int32) : Option (Int32 × ps_M) := if x3 ≤ x4 then (f_X6_strokesThrough_b76 M a1 a2 x4) else (ps_ck M a2 6 (ps_b2 (f_X7_isThrough M a2 a1) (fun xv9 M => if xv9 = 0 then (ps_ck M a2 6 (ps_b2 (f_X7_pullOnce M a2 a1) (fun xv11 M => if xv11 ≤ 0 then (f_X6_strokesThrough_b36 k6 M a0 a1 a2 x3 x4 (x5 + (1 : Int32))) else (f_X6_strokesThrough_b36 k6 M a0 a1 a2 x3 x4 (0 : Int32))))) else (f_X6_strokesThrough_b76 M a1 a2 x4))))
def f_X6_strokesThrough_l6 : Nat → ps_M → Nat → Nat → Nat → Int32 → Int32 → Int32 → Option (Int32 × ps_M)
  | 0, _, _, _, _, _, _, _ => none
  | n + 1, M, a0, a1, a2, x3, x4, x5 => f_X6_strokesThrough_w6 (f_X6_strokesThrough_l6 n) M a0 a1 a2 x3 x4 x5
def f_X6_strokesThrough (M : ps_M) (a0 : Nat) (a1 : Nat) (a2 : Nat) (x3 : Int32) : Option (Int32 × ps_M) := f_X6_strokesThrough_l6 ps_fu M a0 a1 a2 x3 (0 : Int32) (0 : Int32)
set_option maxRecDepth 100000 in
set_option maxHeartbeats 4000000 in
theorem kb_X6_strokesThrough_b62 (C : ps_C p s m args meth c cX6_strokesThrough 6 RX6 ((some .int)) "strokesThrough" D Y B) {q : Int32 × ps_M} (k6 : ps_M → Nat → Nat → Nat → Int32 → Int32 → Int32 → Option (Int32 × ps_M)) (hk6 : ∀ (M : ps_M) (H : Heap) (locs : List Loc) (ls : Array Slot) (a0 : Nat) (a1 : Nat) (a2 : Nat) (x3 : Int32) (x4 : Int32) (x5 : Int32), k6 M a0 a1 a2 x3 x4 x5 = some q → ps_W D Y B M H → va_S (fun q => B ≤ q) s.heap H locs → lv_has ls 6 [(0, .ref (B + a0)), (1, .ref (B + a1)), (2, .ref (B + a2)), (3, .int x3), (4, .int x4), (5, .int x5)] → W p l e rm_X6_strokesThrough s m args below meth c H locs 0 0 (ps_Qi D Y B below args s 0 0 q) (F0 m 6 ls [])) {M : ps_M} {a0 : Nat} {a1 : Nat} {a2 : Nat} {x3 : Int32} {x4 : Int32} {x5 : Int32} (hF : f_X6_strokesThrough_b62 k6 M a0 a1 a2 x3 x4 x5 = some q) (hW : ps_W D Y B M H) (hS : va_S (fun q => B ≤ q) s.heap H locs) (hl : lv_has ls 6 [(0, .ref (B + a0)), (1, .ref (B + a1)), (2, .ref (B + a2)), (3, .int x3), (4, .int x4), (5, .int x5)]) : W p l e rm_X6_strokesThrough s m args below meth c H locs 0 0 (ps_Qi D Y B below args s 0 0 q) (F0 m 62 ls []) := by
  have hx := C.1
  have hb := C.2.1
  have hml := C.2.2.1
  have hown := C.2.2.2.1
  have hts := C.2.2.2.2.1
  unfold f_X6_strokesThrough_b62 at hF
  refine lv_iload hx hb dX6_strokesThrough_62 (lv_at hl 5 rfl) ?_
  refine lv_iconst (v := 1) hx hb dX6_strokesThrough_64 (by decide) ?_
  refine lv_icmp_ne (tgt := 6) hx hb dX6_strokesThrough_65 (by decide) (fun hv1 => ?_) (fun hv1 => ?_)
  · replace hF := (if_neg hv1).symm.trans hF
    exact hk6 M _ _ _ a0 a1 a2 x3 x4 x5 hF hW hS (lv_sub hl [0, 1, 2, 3, 4, 5] rfl)
  · replace hF := (if_pos hv1).symm.trans hF
    refine lv_aload_n hx hb dX6_strokesThrough_68 rfl (lv_at hl 0 rfl) ?_
    refine lv_aload_n hx hb dX6_strokesThrough_69 rfl (lv_at hl 2 rfl) ?_
    obtain ⟨hK, hF⟩ := ps_ck_some hF
    obtain ⟨M9, hc, hF⟩ := ps_b1_some hF
    refine ps_backV (M' := M9) hS (ps_callV C hW pc_5 mf_X6_rememberPair tq_721 tq_21 tq_719 ⟨Nat.le_of_ble_eq_true rfl, Nat.le_of_ble_eq_true rfl⟩ rfl rfl (As := [.ref (B + a2)]) (rest := []) (c_X6_rememberPair hc) hK rfl hl.1 rfl (Nat.le_of_ble_eq_true rfl) dX6_strokesThrough_70 ⟨Nat.le_of_ble_eq_true rfl, Nat.le_of_ble_eq_true rfl⟩) (fun H locs hW hS => ?_)
    clear hc
    generalize M9 = M at hW hF
    refine lv_goto (tgt := 6) hx hb dX6_strokesThrough_73 (by decide) ?_
    exact hk6 M _ _ _ a0 a1 a2 x3 x4 x5 hF hW hS (lv_sub hl [0, 1, 2, 3, 4, 5] rfl)
set_option maxRecDepth 100000 in
set_option maxHeartbeats 4000000 in
theorem kb_X6_strokesThrough_b36 (C : ps_C p s m args meth c cX6_strokesThrough 6 RX6 ((some .int)) "strokesThrough" D Y B) {q : Int32 × ps_M} (k6 : ps_M → Nat → Nat → Nat → Int32 → Int32 → Int32 → Option (Int32 × ps_M)) (hk6 : ∀ (M : ps_M) (H : Heap) (locs : List Loc) (ls : Array Slot) (a0 : Nat) (a1 : Nat) (a2 : Nat) (x3 : Int32) (x4 : Int32) (x5 : Int32), k6 M a0 a1 a2 x3 x4 x5 = some q → ps_W D Y B M H → va_S (fun q => B ≤ q) s.heap H locs → lv_has ls 6 [(0, .ref (B + a0)), (1, .ref (B + a1)), (2, .ref (B + a2)), (3, .int x3), (4, .int x4), (5, .int x5)] → W p l e rm_X6_strokesThrough s m args below meth c H locs 0 0 (ps_Qi D Y B below args s 0 0 q) (F0 m 6 ls [])) {M : ps_M} {a0 : Nat} {a1 : Nat} {a2 : Nat} {x3 : Int32} {x4 : Int32} {t0 : Int32} (hF : f_X6_strokesThrough_b36 k6 M a0 a1 a2 x3 x4 t0 = some q) (hW : ps_W D Y B M H) (hS : va_S (fun q => B ≤ q) s.heap H locs) (hl : lv_has ls 6 [(0, .ref (B + a0)), (1, .ref (B + a1)), (2, .ref (B + a2)), (3, .int x3), (4, .int x4)]) : W p l e rm_X6_strokesThrough s m args below meth c H locs 0 0 (ps_Qi D Y B below args s 0 0 q) (F0 m 36 ls [.int t0]) := by
  have hx := C.1
  have hb := C.2.1
  have hml := C.2.2.1
  have hown := C.2.2.2.1
  have hts := C.2.2.2.2.1
  unfold f_X6_strokesThrough_b36 at hF
  refine lv_istore (lv' := [(5, .int t0), (0, .ref (B + a0)), (1, .ref (B + a1)), (2, .ref (B + a2)), (3, .int x3), (4, .int x4)]) hx hb dX6_strokesThrough_36 hl (by decide) rfl (fun ls hl => ?_)
  obtain ⟨xv2, exv2, hF⟩ := ps_ve hF
  refine lv_iinc (v := xv2) (lv' := [(4, .int xv2), (5, .int t0), (0, .ref (B + a0)), (1, .ref (B + a1)), (2, .ref (B + a2)), (3, .int x3)]) hx hb dX6_strokesThrough_38 hl (k := 5) rfl (by rw [exv2]; rfl) (by decide) rfl (fun ls hl => ?_)
  clear exv2
  refine lv_iload hx hb dX6_strokesThrough_41 (lv_at hl 1 rfl) ?_
  refine lv_iconst (v := 3) hx hb dX6_strokesThrough_43 (by decide) ?_
  refine lv_icmp_ne (tgt := 62) hx hb dX6_strokesThrough_44 (by decide) (fun hv3 => ?_) (fun hv3 => ?_)
  · replace hF := (if_neg hv3).symm.trans hF
    exact kb_X6_strokesThrough_b62 C k6 hk6 hF hW hS (lv_sub hl [2, 3, 4, 5, 0, 1] rfl)
  · replace hF := (if_pos hv3).symm.trans hF
    refine lv_aload_n hx hb dX6_strokesThrough_47 rfl (lv_at hl 2 rfl) ?_
    refine lv_aload_n hx hb dX6_strokesThrough_48 rfl (lv_at hl 4 rfl) ?_
    obtain ⟨hK, hF⟩ := ps_ck_some hF
    obtain ⟨xv4, M9, hc, hF⟩ := ps_b2_some hF
    refine ps_backI (x0 := xv4) (M' := M9) hS (ps_callV C hW pc_5 mf_X6_isNoFresher tq_716 tq_20 tq_714 ⟨Nat.le_of_ble_eq_true rfl, Nat.le_of_ble_eq_true rfl⟩ rfl rfl (As := [.ref (B + a2)]) (rest := []) (c_X6_isNoFresher hc) hK rfl hl.1 rfl (Nat.le_of_ble_eq_true rfl) dX6_strokesThrough_49 ⟨Nat.le_of_ble_eq_true rfl, Nat.le_of_ble_eq_true rfl⟩) (fun H locs hW hS => ?_)
    clear hc
    generalize M9 = M at hW hF
    refine lv_if_eq (tgt := 59) hx hb dX6_strokesThrough_52 (by decide) (fun hv5 => ?_) (fun hv5 => ?_)
    · replace hF := (if_pos hv5).symm.trans hF
      refine lv_iconst (v := 1) hx hb dX6_strokesThrough_59 (by decide) ?_
      refine lv_istore (lv' := [(5, .int (1 : Int32)), (4, .int xv2), (0, .ref (B + a0)), (1, .ref (B + a1)), (2, .ref (B + a2)), (3, .int x3)]) hx hb dX6_strokesThrough_60 hl (by decide) rfl (fun ls hl => ?_)
      exact kb_X6_strokesThrough_b62 C k6 hk6 hF hW hS (lv_sub hl [2, 3, 4, 5, 1, 0] rfl)
    · replace hF := (if_neg hv5).symm.trans hF
      refine lv_sipush (v := 1000) hx hb dX6_strokesThrough_55 (by decide) ?_
      exact pw_iret C hW hS dX6_strokesThrough_58 hF
set_option maxRecDepth 100000 in
set_option maxHeartbeats 4000000 in
theorem kb_X6_strokesThrough_b92 (C : ps_C p s m args meth c cX6_strokesThrough 6 RX6 ((some .int)) "strokesThrough" D Y B) {q : Int32 × ps_M}  {M : ps_M} {t0 : Int32} (hF : f_X6_strokesThrough_b92 M t0 = some q) (hW : ps_W D Y B M H) (hS : va_S (fun q => B ≤ q) s.heap H locs) (hl : lv_has ls 6 []) : W p l e rm_X6_strokesThrough s m args below meth c H locs 0 0 (ps_Qi D Y B below args s 0 0 q) (F0 m 92 ls [.int t0]) := by
  have hx := C.1
  have hb := C.2.1
  have hml := C.2.2.1
  have hown := C.2.2.2.1
  have hts := C.2.2.2.2.1
  unfold f_X6_strokesThrough_b92 at hF
  exact pw_iret C hW hS dX6_strokesThrough_92 hF
set_option maxRecDepth 100000 in
set_option maxHeartbeats 4000000 in
theorem kb_X6_strokesThrough_b76 (C : ps_C p s m args meth c cX6_strokesThrough 6 RX6 ((some .int)) "strokesThrough" D Y B) {q : Int32 × ps_M}  {M : ps_M} {a1 : Nat} {a2 : Nat} {x4 : Int32} (hF : f_X6_strokesThrough_b76 M a1 a2 x4 = some q) (hW : ps_W D Y B M H) (hS : va_S (fun q => B ≤ q) s.heap H locs) (hl : lv_has ls 6 [(1, .ref (B + a1)), (2, .ref (B + a2)), (4, .int x4)]) : W p l e rm_X6_strokesThrough s m args below meth c H locs 0 0 (ps_Qi D Y B below args s 0 0 q) (F0 m 76 ls []) := by
  have hx := C.1
  have hb := C.2.1
  have hml := C.2.2.1
  have hown := C.2.2.2.1
  have hts := C.2.2.2.2.1
  unfold f_X6_strokesThrough_b76 at hF
  refine lv_aload_n hx hb dX6_strokesThrough_76 rfl (lv_at hl 1 rfl) ?_
  refine lv_aload_n hx hb dX6_strokesThrough_77 rfl (lv_at hl 0 rfl) ?_
  obtain ⟨hK, hF⟩ := ps_ck_some hF
  obtain ⟨xv6, M9, hc, hF⟩ := ps_b2_some hF
  refine ps_backI (x0 := xv6) (M' := M9) hS (ps_callV C hW pc_6 mf_X7_isThrough tq_536 tq_537 tq_712 ⟨Nat.le_of_ble_eq_true rfl, Nat.le_of_ble_eq_true rfl⟩ rfl rfl (As := [.ref (B + a1)]) (rest := []) (c_X7_isThrough hc) hK rfl hl.1 rfl (Nat.le_of_ble_eq_true rfl) dX6_strokesThrough_78 ⟨Nat.le_of_ble_eq_true rfl, Nat.le_of_ble_eq_true rfl⟩) (fun H locs hW hS => ?_)
  clear hc
  generalize M9 = M at hW hF
  refine lv_if_eq (tgt := 89) hx hb dX6_strokesThrough_81 (by decide) (fun hv7 => ?_) (fun hv7 => ?_)
  · replace hF := (if_pos hv7).symm.trans hF
    refine lv_sipush (v := 1000) hx hb dX6_strokesThrough_89 (by decide) ?_
    exact kb_X6_strokesThrough_b92 C hF hW hS (lv_sub hl [] rfl)
  · replace hF := (if_neg hv7).symm.trans hF
    refine lv_iload hx hb dX6_strokesThrough_84 (lv_at hl 2 rfl) ?_
    refine lv_goto (tgt := 92) hx hb dX6_strokesThrough_86 (by decide) ?_
    exact kb_X6_strokesThrough_b92 C hF hW hS (lv_sub hl [] rfl)
set_option maxRecDepth 100000 in
set_option maxHeartbeats 4000000 in
theorem kb_X6_strokesThrough_w6 (C : ps_C p s m args meth c cX6_strokesThrough 6 RX6 ((some .int)) "strokesThrough" D Y B) {q : Int32 × ps_M} (k6 : ps_M → Nat → Nat → Nat → Int32 → Int32 → Int32 → Option (Int32 × ps_M)) (hk6 : ∀ (M : ps_M) (H : Heap) (locs : List Loc) (ls : Array Slot) (a0 : Nat) (a1 : Nat) (a2 : Nat) (x3 : Int32) (x4 : Int32) (x5 : Int32), k6 M a0 a1 a2 x3 x4 x5 = some q → ps_W D Y B M H → va_S (fun q => B ≤ q) s.heap H locs → lv_has ls 6 [(0, .ref (B + a0)), (1, .ref (B + a1)), (2, .ref (B + a2)), (3, .int x3), (4, .int x4), (5, .int x5)] → W p l e rm_X6_strokesThrough s m args below meth c H locs 0 0 (ps_Qi D Y B below args s 0 0 q) (F0 m 6 ls [])) {M : ps_M} {a0 : Nat} {a1 : Nat} {a2 : Nat} {x3 : Int32} {x4 : Int32} {x5 : Int32} (hF : f_X6_strokesThrough_w6 k6 M a0 a1 a2 x3 x4 x5 = some q) (hW : ps_W D Y B M H) (hS : va_S (fun q => B ≤ q) s.heap H locs) (hl : lv_has ls 6 [(0, .ref (B + a0)), (1, .ref (B + a1)), (2, .ref (B + a2)), (3, .int x3), (4, .int x4), (5, .int x5)]) : W p l e rm_X6_strokesThrough s m args below meth c H locs 0 0 (ps_Qi D Y B below args s 0 0 q) (F0 m 6 ls []) := by
  have hx := C.1
  have hb := C.2.1
  have hml := C.2.2.1
  have hown := C.2.2.2.1
  have hts := C.2.2.2.2.1
  unfold f_X6_strokesThrough_w6 at hF
  refine lv_iload hx hb dX6_strokesThrough_6 (lv_at hl 4 rfl) ?_
  refine lv_iload_n hx hb dX6_strokesThrough_8 rfl (lv_at hl 3 rfl) ?_
  refine lv_icmp_ge (tgt := 76) hx hb dX6_strokesThrough_9 (by decide) (fun hv8 => ?_) (fun hv8 => ?_)
  · replace hF := (if_pos hv8).symm.trans hF
    exact kb_X6_strokesThrough_b76 C hF hW hS (lv_sub hl [1, 2, 4] rfl)
  · replace hF := (if_neg hv8).symm.trans hF
    refine lv_aload_n hx hb dX6_strokesThrough_12 rfl (lv_at hl 2 rfl) ?_
    refine lv_aload_n hx hb dX6_strokesThrough_13 rfl (lv_at hl 1 rfl) ?_
    obtain ⟨hK, hF⟩ := ps_ck_some hF
    obtain ⟨xv9, M9, hc, hF⟩ := ps_b2_some hF
    refine ps_backI (x0 := xv9) (M' := M9) hS (ps_callV C hW pc_6 mf_X7_isThrough tq_536 tq_537 tq_712 ⟨Nat.le_of_ble_eq_true rfl, Nat.le_of_ble_eq_true rfl⟩ rfl rfl (As := [.ref (B + a1)]) (rest := []) (c_X7_isThrough hc) hK rfl hl.1 rfl (Nat.le_of_ble_eq_true rfl) dX6_strokesThrough_14 ⟨Nat.le_of_ble_eq_true rfl, Nat.le_of_ble_eq_true rfl⟩) (fun H locs hW hS => ?_)
    clear hc
    generalize M9 = M at hW hF
    refine lv_if_ne (tgt := 76) hx hb dX6_strokesThrough_17 (by decide) (fun hv10 => ?_) (fun hv10 => ?_)
    · replace hF := (if_neg hv10).symm.trans hF
      exact kb_X6_strokesThrough_b76 C hF hW hS (lv_sub hl [1, 2, 4] rfl)
    · replace hF := (if_pos hv10).symm.trans hF
      refine lv_aload_n hx hb dX6_strokesThrough_20 rfl (lv_at hl 2 rfl) ?_
      refine lv_aload_n hx hb dX6_strokesThrough_21 rfl (lv_at hl 1 rfl) ?_
      obtain ⟨hK, hF⟩ := ps_ck_some hF
      obtain ⟨xv11, M9, hc, hF⟩ := ps_b2_some hF
      refine ps_backI (x0 := xv11) (M' := M9) hS (ps_callV C hW pc_6 mf_X7_pullOnce tq_605 tq_606 tq_713 ⟨Nat.le_of_ble_eq_true rfl, Nat.le_of_ble_eq_true rfl⟩ rfl rfl (As := [.ref (B + a1)]) (rest := []) (c_X7_pullOnce hc) hK rfl hl.1 rfl (Nat.le_of_ble_eq_true rfl) dX6_strokesThrough_22 ⟨Nat.le_of_ble_eq_true rfl, Nat.le_of_ble_eq_true rfl⟩) (fun H locs hW hS => ?_)
      clear hc
      generalize M9 = M at hW hF
      refine lv_if_le (tgt := 32) hx hb dX6_strokesThrough_25 (by decide) (fun hv12 => ?_) (fun hv12 => ?_)
      · replace hF := (if_pos hv12).symm.trans hF
        refine lv_iload hx hb dX6_strokesThrough_32 (lv_at hl 5 rfl) ?_
        refine lv_iconst (v := 1) hx hb dX6_strokesThrough_34 (by decide) ?_
        refine lv_iadd hx hb dX6_strokesThrough_35 ?_
        exact kb_X6_strokesThrough_b36 C k6 hk6 hF hW hS (lv_sub hl [0, 1, 2, 3, 4] rfl)
      · replace hF := (if_neg hv12).symm.trans hF
        refine lv_iconst (v := 0) hx hb dX6_strokesThrough_28 (by decide) ?_
        refine lv_goto (tgt := 36) hx hb dX6_strokesThrough_29 (by decide) ?_
        exact kb_X6_strokesThrough_b36 C k6 hk6 hF hW hS (lv_sub hl [0, 1, 2, 3, 4] rfl)
theorem kb_X6_strokesThrough_l6 (C : ps_C p s m args meth c cX6_strokesThrough 6 RX6 ((some .int)) "strokesThrough" D Y B) {q : Int32 × ps_M}  : ∀ (n : Nat) (M : ps_M) (H : Heap) (locs : List Loc) (ls : Array Slot) (a0 : Nat) (a1 : Nat) (a2 : Nat) (x3 : Int32) (x4 : Int32) (x5 : Int32), f_X6_strokesThrough_l6 n M a0 a1 a2 x3 x4 x5 = some q → ps_W D Y B M H → va_S (fun q => B ≤ q) s.heap H locs → lv_has ls 6 [(0, .ref (B + a0)), (1, .ref (B + a1)), (2, .ref (B + a2)), (3, .int x3), (4, .int x4), (5, .int x5)] → W p l e rm_X6_strokesThrough s m args below meth c H locs 0 0 (ps_Qi D Y B below args s 0 0 q) (F0 m 6 ls []) := by
  intro n
  induction n with
  | zero => intro M H locs ls a0 a1 a2 x3 x4 x5 hF; cases hF
  | succ n ih => intro M H locs ls a0 a1 a2 x3 x4 x5 hF hW hS hl; exact kb_X6_strokesThrough_w6 C  (f_X6_strokesThrough_l6 n) ih hF hW hS hl
set_option maxRecDepth 100000 in
set_option maxHeartbeats 4000000 in
theorem kb_X6_strokesThrough (C : ps_C p s m args meth c cX6_strokesThrough 6 RX6 ((some .int)) "strokesThrough" D Y B) {q : Int32 × ps_M}  {M : ps_M} {a0 : Nat} {a1 : Nat} {a2 : Nat} {x3 : Int32} (hF : f_X6_strokesThrough M a0 a1 a2 x3 = some q) (hW : ps_W D Y B M H) (hS : va_S (fun q => B ≤ q) s.heap H locs) (hl : lv_has ls 6 [(0, .ref (B + a0)), (1, .ref (B + a1)), (2, .ref (B + a2)), (3, .int x3)]) : W p l e rm_X6_strokesThrough s m args below meth c H locs 0 0 (ps_Qi D Y B below args s 0 0 q) (F0 m 0 ls []) := by
  have hx := C.1
  have hb := C.2.1
  have hml := C.2.2.1
  have hown := C.2.2.2.1
  have hts := C.2.2.2.2.1
  unfold f_X6_strokesThrough at hF
  refine lv_iconst (v := 0) hx hb dX6_strokesThrough_0 (by decide) ?_
  refine lv_istore (lv' := [(4, .int (0 : Int32)), (0, .ref (B + a0)), (1, .ref (B + a1)), (2, .ref (B + a2)), (3, .int x3)]) hx hb dX6_strokesThrough_1 hl (by decide) rfl (fun ls hl => ?_)
  refine lv_iconst (v := 0) hx hb dX6_strokesThrough_3 (by decide) ?_
  refine lv_istore (lv' := [(5, .int (0 : Int32)), (4, .int (0 : Int32)), (0, .ref (B + a0)), (1, .ref (B + a1)), (2, .ref (B + a2)), (3, .int x3)]) hx hb dX6_strokesThrough_4 hl (by decide) rfl (fun ls hl => ?_)
  exact kb_X6_strokesThrough_l6 C ps_fu M _ _ _ a0 a1 a2 x3 (0 : Int32) (0 : Int32) hF hW hS (lv_sub hl [2, 3, 4, 5, 1, 0] rfl)
theorem mf_X6_strokesThrough : ps_mf yX6_strokesThrough cX6_strokesThrough 6 ((some .int)) 3 := ⟨tq_711, tq_68, by decide +kernel, by decide +kernel, by decide +kernel⟩
theorem c_X6_strokesThrough {l : Launch} {D : va_G} {Y : ps_A} {B : Nat} {M : ps_M} {a0 : Nat} {a1 : Nat} {a2 : Nat} {x3 : Int32} {r : Int32} {M' : ps_M} (hF : f_X6_strokesThrough M a0 a1 a2 x3 = some (r, M')) : Met l yX6_strokesThrough (Cond.code yX6_strokesThrough cX6_strokesThrough 6 ((some .int)) :: tb_G) rm_X6_strokesThrough (ps_PB D Y B M [.ref (B + a0), .ref (B + a1), .ref (B + a2), .int x3]) (va_Qi (fun x (_ : Unit) => x = r) (fun _ t => ps_St D Y B M' t) (fun q => B ≤ q)) 0 0 (fun q => B ≤ q) :=
  pm_of (by decide +kernel) (Nat.le_of_ble_eq_true rfl) (fun p e s m args below meth c C hW hS ls hl => kb_X6_strokesThrough C hF hW hS hl)

abbrev rm_X6_strokesFrom : Room := { frames := 4, cells := 0, slots := 0, locals := 96 }
def f_X6_strokesFrom (M : ps_M) (a0 : Nat) (a1 : Nat) (a2 : Nat) : Option (Int32 × ps_M) := ps_gR M a0 5 8 (fun av1 => ps_ck M av1 6 (ps_b1 (f_X7_become M av1 a2) (fun M => ps_gR M a0 5 8 (fun av2 => ps_ck M a0 5 (ps_b2 (f_X6_strokesThrough M a0 a1 av2 (999 : Int32)) (fun xv3 M => some (xv3, M)))))))
set_option maxRecDepth 100000 in
set_option maxHeartbeats 4000000 in
theorem kb_X6_strokesFrom (C : ps_C p s m args meth c cX6_strokesFrom 3 RX6 ((some .int)) "strokesFrom" D Y B) {q : Int32 × ps_M}  {M : ps_M} {a0 : Nat} {a1 : Nat} {a2 : Nat} (hF : f_X6_strokesFrom M a0 a1 a2 = some q) (hW : ps_W D Y B M H) (hS : va_S (fun q => B ≤ q) s.heap H locs) (hl : lv_has ls 3 [(0, .ref (B + a0)), (1, .ref (B + a1)), (2, .ref (B + a2))]) : W p l e rm_X6_strokesFrom s m args below meth c H locs 0 0 (ps_Qi D Y B below args s 0 0 q) (F0 m 0 ls []) := by
  have hx := C.1
  have hb := C.2.1
  have hml := C.2.2.1
  have hown := C.2.2.2.1
  have hts := C.2.2.2.2.1
  unfold f_X6_strokesFrom at hF
  refine lv_aload_n hx hb dX6_strokesFrom_0 rfl (lv_at hl 0 rfl) ?_
  refine pw_gR C hW pc_5 (k := 8) (by decide) rfl tq_322 dX6_strokesFrom_1 hF (fun av1 hF => ?_)
  refine lv_aload_n hx hb dX6_strokesFrom_4 rfl (lv_at hl 2 rfl) ?_
  obtain ⟨hK, hF⟩ := ps_ck_some hF
  obtain ⟨M9, hc, hF⟩ := ps_b1_some hF
  refine ps_backV (M' := M9) hS (ps_callV C hW pc_6 mf_X7_become tq_598 tq_599 tq_707 ⟨Nat.le_of_ble_eq_true rfl, Nat.le_of_ble_eq_true rfl⟩ rfl rfl (As := [.ref (B + a2)]) (rest := []) (c_X7_become hc) hK rfl hl.1 rfl (Nat.le_of_ble_eq_true rfl) dX6_strokesFrom_5 ⟨Nat.le_of_ble_eq_true rfl, Nat.le_of_ble_eq_true rfl⟩) (fun H locs hW hS => ?_)
  clear hc
  generalize M9 = M at hW hF
  refine lv_aload_n hx hb dX6_strokesFrom_8 rfl (lv_at hl 0 rfl) ?_
  refine lv_aload_n hx hb dX6_strokesFrom_9 rfl (lv_at hl 1 rfl) ?_
  refine lv_aload_n hx hb dX6_strokesFrom_10 rfl (lv_at hl 0 rfl) ?_
  refine pw_gR C hW pc_5 (k := 8) (by decide) rfl tq_322 dX6_strokesFrom_11 hF (fun av2 hF => ?_)
  refine lv_sipush (v := 999) hx hb dX6_strokesFrom_14 (by decide) ?_
  obtain ⟨hK, hF⟩ := ps_ck_some hF
  obtain ⟨xv3, M9, hc, hF⟩ := ps_b2_some hF
  refine ps_backI (x0 := xv3) (M' := M9) hS (ps_callV C hW pc_5 mf_X6_strokesThrough tq_710 tq_19 tq_708 ⟨Nat.le_of_ble_eq_true rfl, Nat.le_of_ble_eq_true rfl⟩ rfl rfl (As := [.ref (B + a1), .ref (B + av2), .int (999 : Int32)]) (rest := []) (c_X6_strokesThrough hc) hK rfl hl.1 rfl (Nat.le_of_ble_eq_true rfl) dX6_strokesFrom_17 ⟨Nat.le_of_ble_eq_true rfl, Nat.le_of_ble_eq_true rfl⟩) (fun H locs hW hS => ?_)
  clear hc
  generalize M9 = M at hW hF
  exact pw_iret C hW hS dX6_strokesFrom_20 hF
theorem mf_X6_strokesFrom : ps_mf yX6_strokesFrom cX6_strokesFrom 3 ((some .int)) 2 := ⟨tq_706, tq_68, by decide +kernel, by decide +kernel, by decide +kernel⟩
theorem c_X6_strokesFrom {l : Launch} {D : va_G} {Y : ps_A} {B : Nat} {M : ps_M} {a0 : Nat} {a1 : Nat} {a2 : Nat} {r : Int32} {M' : ps_M} (hF : f_X6_strokesFrom M a0 a1 a2 = some (r, M')) : Met l yX6_strokesFrom (Cond.code yX6_strokesFrom cX6_strokesFrom 3 ((some .int)) :: tb_G) rm_X6_strokesFrom (ps_PB D Y B M [.ref (B + a0), .ref (B + a1), .ref (B + a2)]) (va_Qi (fun x (_ : Unit) => x = r) (fun _ t => ps_St D Y B M' t) (fun q => B ≤ q)) 0 0 (fun q => B ≤ q) :=
  pm_of (by decide +kernel) (Nat.le_of_ble_eq_true rfl) (fun p e s m args below meth c C hW hS ls hl => kb_X6_strokesFrom C hF hW hS hl)

abbrev rm_X7_startLog : Room := { frames := 1, cells := 0, slots := 0, locals := 22 }
def f_X7_startLog (M : ps_M) (a0 : Nat) (x1 : Int32) (x2 : Int32) : Option (ps_M) := ps_pI M a0 6 0 x1 (fun M => ps_pI M a0 6 1 x2 (fun M => ps_pI M a0 6 2 x1 (fun M => ps_pI M a0 6 3 (0 : Int32) (fun M => ps_pI M a0 6 4 (0 : Int32) (fun M => ps_pI M a0 6 5 (0 : Int32) (fun M => ps_pI M a0 6 6 (0 : Int32) (fun M => ps_pZ M a0 6 8 (0 : Int32) (fun M => ps_gR M a0 6 11 (fun av1 => ps_b1 (f_X4_fill M av1 (0 : Int32)) (fun M => ps_gR M a0 6 12 (fun av2 => ps_b1 (f_X4_fill M av2 (0 : Int32)) (fun M => some M))))))))))))
set_option maxRecDepth 100000 in
set_option maxHeartbeats 4000000 in
theorem kb_X7_startLog (C : ps_C p s m args meth c cX7_startLog 3 RX7 none "startLog" D Y B) {q : ps_M}  {M : ps_M} {a0 : Nat} {x1 : Int32} {x2 : Int32} (hF : f_X7_startLog M a0 x1 x2 = some q) (hW : ps_W D Y B M H) (hS : va_S (fun q => B ≤ q) s.heap H locs) (hl : lv_has ls 3 [(0, .ref (B + a0)), (1, .int x1), (2, .int x2)]) : W p l e rm_X7_startLog s m args below meth c H locs 0 0 (ps_Qv D Y B below args s 0 0 q) (F0 m 0 ls []) := by
  have hx := C.1
  have hb := C.2.1
  have hml := C.2.2.1
  have hown := C.2.2.2.1
  have hts := C.2.2.2.2.1
  unfold f_X7_startLog at hF
  refine lv_aload_n hx hb dX7_startLog_0 rfl (lv_at hl 0 rfl) ?_
  refine lv_iload_n hx hb dX7_startLog_1 rfl (lv_at hl 1 rfl) ?_
  refine pw_pI C hW hS pc_6 (k := 0) (by decide) rfl rfl tq_220 rfl dX7_startLog_2 hF (fun M H locs hW hS hF => ?_)
  refine lv_aload_n hx hb dX7_startLog_5 rfl (lv_at hl 0 rfl) ?_
  refine lv_iload_n hx hb dX7_startLog_6 rfl (lv_at hl 2 rfl) ?_
  refine pw_pI C hW hS pc_6 (k := 1) (by decide) rfl rfl tq_223 rfl dX7_startLog_7 hF (fun M H locs hW hS hF => ?_)
  refine lv_aload_n hx hb dX7_startLog_10 rfl (lv_at hl 0 rfl) ?_
  refine lv_iload_n hx hb dX7_startLog_11 rfl (lv_at hl 1 rfl) ?_
  refine pw_pI C hW hS pc_6 (k := 2) (by decide) rfl rfl tq_226 rfl dX7_startLog_12 hF (fun M H locs hW hS hF => ?_)
  refine lv_aload_n hx hb dX7_startLog_15 rfl (lv_at hl 0 rfl) ?_
  refine lv_iconst (v := 0) hx hb dX7_startLog_16 (by decide) ?_
  refine pw_pI C hW hS pc_6 (k := 3) (by decide) rfl rfl tq_228 rfl dX7_startLog_17 hF (fun M H locs hW hS hF => ?_)
  refine lv_aload_n hx hb dX7_startLog_20 rfl (lv_at hl 0 rfl) ?_
  refine lv_iconst (v := 0) hx hb dX7_startLog_21 (by decide) ?_
  refine pw_pI C hW hS pc_6 (k := 4) (by decide) rfl rfl tq_231 rfl dX7_startLog_22 hF (fun M H locs hW hS hF => ?_)
  refine lv_aload_n hx hb dX7_startLog_25 rfl (lv_at hl 0 rfl) ?_
  refine lv_iconst (v := 0) hx hb dX7_startLog_26 (by decide) ?_
  refine pw_pI C hW hS pc_6 (k := 5) (by decide) rfl rfl tq_233 rfl dX7_startLog_27 hF (fun M H locs hW hS hF => ?_)
  refine lv_aload_n hx hb dX7_startLog_30 rfl (lv_at hl 0 rfl) ?_
  refine lv_iconst (v := 0) hx hb dX7_startLog_31 (by decide) ?_
  refine pw_pI C hW hS pc_6 (k := 6) (by decide) rfl rfl tq_235 rfl dX7_startLog_32 hF (fun M H locs hW hS hF => ?_)
  refine lv_aload_n hx hb dX7_startLog_35 rfl (lv_at hl 0 rfl) ?_
  refine lv_iconst (v := 0) hx hb dX7_startLog_36 (by decide) ?_
  refine pw_pZ C hW hS pc_6 (k := 8) (by decide) rfl rfl tq_240 rfl dX7_startLog_37 hF (fun M H locs hW hS hF => ?_)
  refine lv_aload_n hx hb dX7_startLog_40 rfl (lv_at hl 0 rfl) ?_
  refine pw_gR C hW pc_6 (k := 11) (by decide) rfl tq_249 dX7_startLog_41 hF (fun av1 hF => ?_)
  refine lv_iconst (v := 0) hx hb dX7_startLog_44 (by decide) ?_
  obtain ⟨M9, hc, hF⟩ := ps_b1_some hF
  refine ps_backV (M' := M9) hS (ps_callS C hW mf_X4_fill tq_519 tq_518 ⟨Nat.le_of_ble_eq_true rfl, Nat.le_of_ble_eq_true rfl⟩ rfl rfl (As := [.ref (B + av1), .int (0 : Int32)]) (rest := []) (c_X4_fill hc) rfl hl.1 rfl (Nat.le_of_ble_eq_true rfl) dX7_startLog_45 ⟨Nat.le_of_ble_eq_true rfl, Nat.le_of_ble_eq_true rfl⟩) (fun H locs hW hS => ?_)
  clear hc
  generalize M9 = M at hW hF
  refine lv_aload_n hx hb dX7_startLog_48 rfl (lv_at hl 0 rfl) ?_
  refine pw_gR C hW pc_6 (k := 12) (by decide) rfl tq_252 dX7_startLog_49 hF (fun av2 hF => ?_)
  refine lv_iconst (v := 0) hx hb dX7_startLog_52 (by decide) ?_
  obtain ⟨M9, hc, hF⟩ := ps_b1_some hF
  refine ps_backV (M' := M9) hS (ps_callS C hW mf_X4_fill tq_519 tq_518 ⟨Nat.le_of_ble_eq_true rfl, Nat.le_of_ble_eq_true rfl⟩ rfl rfl (As := [.ref (B + av2), .int (0 : Int32)]) (rest := []) (c_X4_fill hc) rfl hl.1 rfl (Nat.le_of_ble_eq_true rfl) dX7_startLog_53 ⟨Nat.le_of_ble_eq_true rfl, Nat.le_of_ble_eq_true rfl⟩) (fun H locs hW hS => ?_)
  clear hc
  generalize M9 = M at hW hF
  exact pw_vret C hW hS dX7_startLog_56 hF
theorem mf_X7_startLog : ps_mf yX7_startLog cX7_startLog 3 none 2 := ⟨tq_517, tq_66, by decide +kernel, by decide +kernel, by decide +kernel⟩
theorem c_X7_startLog {l : Launch} {D : va_G} {Y : ps_A} {B : Nat} {M : ps_M} {a0 : Nat} {x1 : Int32} {x2 : Int32} {M' : ps_M} (hF : f_X7_startLog M a0 x1 x2 = some M') : Met l yX7_startLog (Cond.code yX7_startLog cX7_startLog 3 none :: tb_G) rm_X7_startLog (ps_PB D Y B M [.ref (B + a0), .int x1, .int x2]) (va_Qv (fun (_ : Unit) => True) (fun _ t => ps_St D Y B M' t) (fun q => B ≤ q)) 0 0 (fun q => B ≤ q) :=
  pm_of (by decide +kernel) (Nat.le_of_ble_eq_true rfl) (fun p e s m args below meth c C hW hS ls hl => kb_X7_startLog C hF hW hS hl)

abbrev rm_X6_begin : Room := { frames := 2, cells := 0, slots := 0, locals := 44 }
def f_X6_begin (M : ps_M) (a0 : Nat) (a1 : Nat) (a2 : Nat) (x3 : Int32) (x4 : Int32) : Option (ps_M) := ps_gR M a0 5 8 (fun av1 => ps_ck M av1 6 (ps_b1 (f_X7_become M av1 a2) (fun M => ps_gR M a0 5 8 (fun av2 => ps_ck M av2 6 (ps_b1 (f_X7_startLog M av2 x3 x4) (fun M => ps_gR M a1 7 7 (fun av3 => ps_gR M a0 5 8 (fun av4 => ps_gR M av4 6 9 (fun av5 => ps_b1 (f_X4_copy M av3 av5) (fun M => some M))))))))))
set_option maxRecDepth 100000 in
set_option maxHeartbeats 4000000 in
theorem kb_X6_begin (C : ps_C p s m args meth c cX6_begin 5 RX6 none "begin" D Y B) {q : ps_M}  {M : ps_M} {a0 : Nat} {a1 : Nat} {a2 : Nat} {x3 : Int32} {x4 : Int32} (hF : f_X6_begin M a0 a1 a2 x3 x4 = some q) (hW : ps_W D Y B M H) (hS : va_S (fun q => B ≤ q) s.heap H locs) (hl : lv_has ls 5 [(0, .ref (B + a0)), (1, .ref (B + a1)), (2, .ref (B + a2)), (3, .int x3), (4, .int x4)]) : W p l e rm_X6_begin s m args below meth c H locs 0 0 (ps_Qv D Y B below args s 0 0 q) (F0 m 0 ls []) := by
  have hx := C.1
  have hb := C.2.1
  have hml := C.2.2.1
  have hown := C.2.2.2.1
  have hts := C.2.2.2.2.1
  unfold f_X6_begin at hF
  refine lv_aload_n hx hb dX6_begin_0 rfl (lv_at hl 0 rfl) ?_
  refine pw_gR C hW pc_5 (k := 8) (by decide) rfl tq_322 dX6_begin_1 hF (fun av1 hF => ?_)
  refine lv_aload_n hx hb dX6_begin_4 rfl (lv_at hl 2 rfl) ?_
  obtain ⟨hK, hF⟩ := ps_ck_some hF
  obtain ⟨M9, hc, hF⟩ := ps_b1_some hF
  refine ps_backV (M' := M9) hS (ps_callV C hW pc_6 mf_X7_become tq_598 tq_599 tq_707 ⟨Nat.le_of_ble_eq_true rfl, Nat.le_of_ble_eq_true rfl⟩ rfl rfl (As := [.ref (B + a2)]) (rest := []) (c_X7_become hc) hK rfl hl.1 rfl (Nat.le_of_ble_eq_true rfl) dX6_begin_5 ⟨Nat.le_of_ble_eq_true rfl, Nat.le_of_ble_eq_true rfl⟩) (fun H locs hW hS => ?_)
  clear hc
  generalize M9 = M at hW hF
  refine lv_aload_n hx hb dX6_begin_8 rfl (lv_at hl 0 rfl) ?_
  refine pw_gR C hW pc_5 (k := 8) (by decide) rfl tq_322 dX6_begin_9 hF (fun av2 hF => ?_)
  refine lv_iload_n hx hb dX6_begin_12 rfl (lv_at hl 3 rfl) ?_
  refine lv_iload hx hb dX6_begin_13 (lv_at hl 4 rfl) ?_
  obtain ⟨hK, hF⟩ := ps_ck_some hF
  obtain ⟨M9, hc, hF⟩ := ps_b1_some hF
  refine ps_backV (M' := M9) hS (ps_callV C hW pc_6 mf_X7_startLog tq_515 tq_516 tq_738 ⟨Nat.le_of_ble_eq_true rfl, Nat.le_of_ble_eq_true rfl⟩ rfl rfl (As := [.int x3, .int x4]) (rest := []) (c_X7_startLog hc) hK rfl hl.1 rfl (Nat.le_of_ble_eq_true rfl) dX6_begin_15 ⟨Nat.le_of_ble_eq_true rfl, Nat.le_of_ble_eq_true rfl⟩) (fun H locs hW hS => ?_)
  clear hc
  generalize M9 = M at hW hF
  refine lv_aload_n hx hb dX6_begin_18 rfl (lv_at hl 1 rfl) ?_
  refine pw_gR C hW pc_7 (k := 7) (by decide) rfl tq_117 dX6_begin_19 hF (fun av3 hF => ?_)
  refine lv_aload_n hx hb dX6_begin_22 rfl (lv_at hl 0 rfl) ?_
  refine pw_gR C hW pc_5 (k := 8) (by decide) rfl tq_322 dX6_begin_23 hF (fun av4 hF => ?_)
  refine pw_gR C hW pc_6 (k := 9) (by decide) rfl tq_244 dX6_begin_26 hF (fun av5 hF => ?_)
  obtain ⟨M9, hc, hF⟩ := ps_b1_some hF
  refine ps_backV (M' := M9) hS (ps_callS C hW mf_X4_copy tq_508 tq_739 ⟨Nat.le_of_ble_eq_true rfl, Nat.le_of_ble_eq_true rfl⟩ rfl rfl (As := [.ref (B + av3), .ref (B + av5)]) (rest := []) (c_X4_copy hc) rfl hl.1 rfl (Nat.le_of_ble_eq_true rfl) dX6_begin_29 ⟨Nat.le_of_ble_eq_true rfl, Nat.le_of_ble_eq_true rfl⟩) (fun H locs hW hS => ?_)
  clear hc
  generalize M9 = M at hW hF
  exact pw_vret C hW hS dX6_begin_32 hF
theorem mf_X6_begin : ps_mf yX6_begin cX6_begin 5 none 4 := ⟨tq_737, tq_68, by decide +kernel, by decide +kernel, by decide +kernel⟩
theorem c_X6_begin {l : Launch} {D : va_G} {Y : ps_A} {B : Nat} {M : ps_M} {a0 : Nat} {a1 : Nat} {a2 : Nat} {x3 : Int32} {x4 : Int32} {M' : ps_M} (hF : f_X6_begin M a0 a1 a2 x3 x4 = some M') : Met l yX6_begin (Cond.code yX6_begin cX6_begin 5 none :: tb_G) rm_X6_begin (ps_PB D Y B M [.ref (B + a0), .ref (B + a1), .ref (B + a2), .int x3, .int x4]) (va_Qv (fun (_ : Unit) => True) (fun _ t => ps_St D Y B M' t) (fun q => B ≤ q)) 0 0 (fun q => B ≤ q) :=
  pm_of (by decide +kernel) (Nat.le_of_ble_eq_true rfl) (fun p e s m args below meth c C hW hS ls hl => kb_X6_begin C hF hW hS hl)

abbrev rm_X6_strokesFresh : Room := { frames := 4, cells := 0, slots := 0, locals := 96 }
def f_X6_strokesFresh (M : ps_M) (a0 : Nat) (a1 : Nat) (a2 : Nat) (x3 : Int32) (x4 : Int32) : Option (Int32 × ps_M) := ps_ck M a0 5 (ps_b1 (f_X6_begin M a0 a1 a2 x3 x4) (fun M => ps_gR M a0 5 8 (fun av1 => ps_ck M a0 5 (ps_b2 (f_X6_strokesThrough M a0 a1 av1 (999 : Int32)) (fun xv2 M => some (xv2, M))))))
set_option maxRecDepth 100000 in
set_option maxHeartbeats 4000000 in
theorem kb_X6_strokesFresh (C : ps_C p s m args meth c cX6_strokesFresh 5 RX6 ((some .int)) "strokesFresh" D Y B) {q : Int32 × ps_M}  {M : ps_M} {a0 : Nat} {a1 : Nat} {a2 : Nat} {x3 : Int32} {x4 : Int32} (hF : f_X6_strokesFresh M a0 a1 a2 x3 x4 = some q) (hW : ps_W D Y B M H) (hS : va_S (fun q => B ≤ q) s.heap H locs) (hl : lv_has ls 5 [(0, .ref (B + a0)), (1, .ref (B + a1)), (2, .ref (B + a2)), (3, .int x3), (4, .int x4)]) : W p l e rm_X6_strokesFresh s m args below meth c H locs 0 0 (ps_Qi D Y B below args s 0 0 q) (F0 m 0 ls []) := by
  have hx := C.1
  have hb := C.2.1
  have hml := C.2.2.1
  have hown := C.2.2.2.1
  have hts := C.2.2.2.2.1
  unfold f_X6_strokesFresh at hF
  refine lv_aload_n hx hb dX6_strokesFresh_0 rfl (lv_at hl 0 rfl) ?_
  refine lv_aload_n hx hb dX6_strokesFresh_1 rfl (lv_at hl 1 rfl) ?_
  refine lv_aload_n hx hb dX6_strokesFresh_2 rfl (lv_at hl 2 rfl) ?_
  refine lv_iload_n hx hb dX6_strokesFresh_3 rfl (lv_at hl 3 rfl) ?_
  refine lv_iload hx hb dX6_strokesFresh_4 (lv_at hl 4 rfl) ?_
  obtain ⟨hK, hF⟩ := ps_ck_some hF
  obtain ⟨M9, hc, hF⟩ := ps_b1_some hF
  refine ps_backV (M' := M9) hS (ps_callV C hW pc_5 mf_X6_begin tq_736 tq_22 tq_734 ⟨Nat.le_of_ble_eq_true rfl, Nat.le_of_ble_eq_true rfl⟩ rfl rfl (As := [.ref (B + a1), .ref (B + a2), .int x3, .int x4]) (rest := []) (c_X6_begin hc) hK rfl hl.1 rfl (Nat.le_of_ble_eq_true rfl) dX6_strokesFresh_6 ⟨Nat.le_of_ble_eq_true rfl, Nat.le_of_ble_eq_true rfl⟩) (fun H locs hW hS => ?_)
  clear hc
  generalize M9 = M at hW hF
  refine lv_aload_n hx hb dX6_strokesFresh_9 rfl (lv_at hl 0 rfl) ?_
  refine lv_aload_n hx hb dX6_strokesFresh_10 rfl (lv_at hl 1 rfl) ?_
  refine lv_aload_n hx hb dX6_strokesFresh_11 rfl (lv_at hl 0 rfl) ?_
  refine pw_gR C hW pc_5 (k := 8) (by decide) rfl tq_322 dX6_strokesFresh_12 hF (fun av1 hF => ?_)
  refine lv_sipush (v := 999) hx hb dX6_strokesFresh_15 (by decide) ?_
  obtain ⟨hK, hF⟩ := ps_ck_some hF
  obtain ⟨xv2, M9, hc, hF⟩ := ps_b2_some hF
  refine ps_backI (x0 := xv2) (M' := M9) hS (ps_callV C hW pc_5 mf_X6_strokesThrough tq_710 tq_19 tq_708 ⟨Nat.le_of_ble_eq_true rfl, Nat.le_of_ble_eq_true rfl⟩ rfl rfl (As := [.ref (B + a1), .ref (B + av1), .int (999 : Int32)]) (rest := []) (c_X6_strokesThrough hc) hK rfl hl.1 rfl (Nat.le_of_ble_eq_true rfl) dX6_strokesFresh_18 ⟨Nat.le_of_ble_eq_true rfl, Nat.le_of_ble_eq_true rfl⟩) (fun H locs hW hS => ?_)
  clear hc
  generalize M9 = M at hW hF
  exact pw_iret C hW hS dX6_strokesFresh_21 hF
theorem mf_X6_strokesFresh : ps_mf yX6_strokesFresh cX6_strokesFresh 5 ((some .int)) 4 := ⟨tq_733, tq_68, by decide +kernel, by decide +kernel, by decide +kernel⟩
theorem c_X6_strokesFresh {l : Launch} {D : va_G} {Y : ps_A} {B : Nat} {M : ps_M} {a0 : Nat} {a1 : Nat} {a2 : Nat} {x3 : Int32} {x4 : Int32} {r : Int32} {M' : ps_M} (hF : f_X6_strokesFresh M a0 a1 a2 x3 x4 = some (r, M')) : Met l yX6_strokesFresh (Cond.code yX6_strokesFresh cX6_strokesFresh 5 ((some .int)) :: tb_G) rm_X6_strokesFresh (ps_PB D Y B M [.ref (B + a0), .ref (B + a1), .ref (B + a2), .int x3, .int x4]) (va_Qi (fun x (_ : Unit) => x = r) (fun _ t => ps_St D Y B M' t) (fun q => B ≤ q)) 0 0 (fun q => B ≤ q) :=
  pm_of (by decide +kernel) (Nat.le_of_ble_eq_true rfl) (fun p e s m args below meth c C hW hS ls hl => kb_X6_strokesFresh C hF hW hS hl)

abbrev rm_X6_findWishes : Room := { frames := 4, cells := 0, slots := 0, locals := 96 }
def f_X6_findWishes_b148 (k51 : ps_M → Nat → Nat → Nat → Int32 → Int32 → Int32 → Int32 → Int32 → Option (ps_M)) (k61 : ps_M → Nat → Nat → Nat → Int32 → Int32 → Int32 → Int32 → Int32 → Int32 → Option (ps_M)) (M : ps_M) (a0 : Nat) (a1 : Nat) (a2 : Nat) (x3 : Int32) (x4 : Int32) (x5 : Int32) (x6 : Int32) (x7 : Int32) (x8 : Int32) : Option (ps_M) := ps_v (x8 + 1) (fun xv1 => k61 M a0 a1 a2 x3 x4 x5 x6 x7 xv1)
def f_X6_findWishes_w61 (k51 : ps_M → Nat → Nat → Nat → Int32 → Int32 → Int32 → Int32 → Int32 → Option (ps_M)) (k61 : ps_M → Nat → Nat → Nat → Int32 → Int32 → Int32 → Int32 → Int32 → Int32 → Option (ps_M)) (M : ps_M) (a0 : Nat) (a1 : Nat) (a2 : Nat) (x3 : Int32) (x4 : Int32) (x5 : Int32) (x6 : Int32) (x7 : Int32) (x8 : Int32) : Option (ps_M) := if x6 < x8 then (ps_v (x7 + 1) (fun xv3 => k51 M a0 a1 a2 x3 x4 x5 x6 xv3)) else (ps_ck M a0 5 (ps_b1 (f_X6_begin M a0 a1 a2 x3 x4) (fun M => ps_gR M a0 5 8 (fun av4 => ps_gR M av4 6 9 (fun av5 => ps_b1 (f_X4_put M av5 x3 x7) (fun M => ps_gR M a0 5 8 (fun av6 => ps_gR M av6 6 9 (fun av7 => ps_b1 (f_X4_put M av7 x4 x8) (fun M => ps_gR M a0 5 8 (fun av8 => ps_gI M a0 5 0 (fun xv9 => ps_ck M a0 5 (ps_b2 (f_X6_strokesThrough M a0 a1 av8 (xv9 - (1 : Int32))) (fun xv10 M => ps_gI M a0 5 0 (fun xv11 => if xv11 ≤ xv10 then (f_X6_findWishes_b148 k51 k61 M a0 a1 a2 x3 x4 x5 x6 x7 x8) else (ps_pI M a0 5 0 xv10 (fun M => ps_pI M a0 5 1 x7 (fun M => ps_pI M a0 5 2 x8 (fun M => f_X6_findWishes_b148 k51 k61 M a0 a1 a2 x3 x4 x5 x6 x7 x8))))))))))))))))))
def f_X6_findWishes_l61 (k51 : ps_M → Nat → Nat → Nat → Int32 → Int32 → Int32 → Int32 → Int32 → Option (ps_M)) : Nat → ps_M → Nat → Nat → Nat → Int32 → Int32 → Int32 → Int32 → Int32 → Int32 → Option (ps_M)
  | 0, _, _, _, _, _, _, _, _, _, _ => none
  | n + 1, M, a0, a1, a2, x3, x4, x5, x6, x7, x8 => f_X6_findWishes_w61 k51 (f_X6_findWishes_l61 k51 n) M a0 a1 a2 x3 x4 x5 x6 x7 x8
def f_X6_findWishes_w51 (k51 : ps_M → Nat → Nat → Nat → Int32 → Int32 → Int32 → Int32 → Int32 → Option (ps_M)) (M : ps_M) (a0 : Nat) (a1 : Nat) (a2 : Nat) (x3 : Int32) (x4 : Int32) (x5 : Int32) (x6 : Int32) (x7 : Int32) : Option (ps_M) := if x5 < x7 then (some M) else (f_X6_findWishes_l61 k51 ps_fu M a0 a1 a2 x3 x4 x5 x6 x7 (1 : Int32))
def f_X6_findWishes_l51 : Nat → ps_M → Nat → Nat → Nat → Int32 → Int32 → Int32 → Int32 → Int32 → Option (ps_M)
  | 0, _, _, _, _, _, _, _, _, _ => none
  | n + 1, M, a0, a1, a2, x3, x4, x5, x6, x7 => f_X6_findWishes_w51 (f_X6_findWishes_l51 n) M a0 a1 a2 x3 x4 x5 x6 x7
def f_X6_findWishes (M : ps_M) (a0 : Nat) (a1 : Nat) (a2 : Nat) (x3 : Int32) (x4 : Int32) : Option (ps_M) := ps_pI M a0 5 0 (1000 : Int32) (fun M => ps_pI M a0 5 1 (-1 : Int32) (fun M => ps_pI M a0 5 2 (-1 : Int32) (fun M => ps_gR M a1 7 7 (fun av14 => ps_b2 (f_X4_at M av14 x3) (fun xv15 M => ps_v (if xv15 < (20 : Int32) then xv15 else (20 : Int32)) (fun xv16 => ps_gR M a1 7 7 (fun av17 => ps_b2 (f_X4_at M av17 x4) (fun xv18 M => ps_v (if xv18 < (20 : Int32) then xv18 else (20 : Int32)) (fun xv19 => f_X6_findWishes_l51 ps_fu M a0 a1 a2 x3 x4 xv16 xv19 (1 : Int32))))))))))
set_option maxRecDepth 100000 in
set_option maxHeartbeats 4000000 in
theorem kb_X6_findWishes_b148 (C : ps_C p s m args meth c cX6_findWishes 10 RX6 none "findWishes" D Y B) {q : ps_M} (k51 : ps_M → Nat → Nat → Nat → Int32 → Int32 → Int32 → Int32 → Int32 → Option (ps_M)) (hk51 : ∀ (M : ps_M) (H : Heap) (locs : List Loc) (ls : Array Slot) (a0 : Nat) (a1 : Nat) (a2 : Nat) (x3 : Int32) (x4 : Int32) (x5 : Int32) (x6 : Int32) (x7 : Int32), k51 M a0 a1 a2 x3 x4 x5 x6 x7 = some q → ps_W D Y B M H → va_S (fun q => B ≤ q) s.heap H locs → lv_has ls 10 [(0, .ref (B + a0)), (1, .ref (B + a1)), (2, .ref (B + a2)), (3, .int x3), (4, .int x4), (5, .int x5), (6, .int x6), (7, .int x7)] → W p l e rm_X6_findWishes s m args below meth c H locs 0 0 (ps_Qv D Y B below args s 0 0 q) (F0 m 51 ls [])) (k61 : ps_M → Nat → Nat → Nat → Int32 → Int32 → Int32 → Int32 → Int32 → Int32 → Option (ps_M)) (hk61 : ∀ (M : ps_M) (H : Heap) (locs : List Loc) (ls : Array Slot) (a0 : Nat) (a1 : Nat) (a2 : Nat) (x3 : Int32) (x4 : Int32) (x5 : Int32) (x6 : Int32) (x7 : Int32) (x8 : Int32), k61 M a0 a1 a2 x3 x4 x5 x6 x7 x8 = some q → ps_W D Y B M H → va_S (fun q => B ≤ q) s.heap H locs → lv_has ls 10 [(0, .ref (B + a0)), (1, .ref (B + a1)), (2, .ref (B + a2)), (3, .int x3), (4, .int x4), (5, .int x5), (6, .int x6), (7, .int x7), (8, .int x8)] → W p l e rm_X6_findWishes s m args below meth c H locs 0 0 (ps_Qv D Y B below args s 0 0 q) (F0 m 61 ls [])) {M : ps_M} {a0 : Nat} {a1 : Nat} {a2 : Nat} {x3 : Int32} {x4 : Int32} {x5 : Int32} {x6 : Int32} {x7 : Int32} {x8 : Int32} (hF : f_X6_findWishes_b148 k51 k61 M a0 a1 a2 x3 x4 x5 x6 x7 x8 = some q) (hW : ps_W D Y B M H) (hS : va_S (fun q => B ≤ q) s.heap H locs) (hl : lv_has ls 10 [(0, .ref (B + a0)), (1, .ref (B + a1)), (2, .ref (B + a2)), (3, .int x3), (4, .int x4), (5, .int x5), (6, .int x6), (7, .int x7), (8, .int x8)]) : W p l e rm_X6_findWishes s m args below meth c H locs 0 0 (ps_Qv D Y B below args s 0 0 q) (F0 m 148 ls []) := by
  have hx := C.1
  have hb := C.2.1
  have hml := C.2.2.1
  have hown := C.2.2.2.1
  have hts := C.2.2.2.2.1
  unfold f_X6_findWishes_b148 at hF
  obtain ⟨xv1, exv1, hF⟩ := ps_ve hF
  refine lv_iinc (v := xv1) (lv' := [(8, .int xv1), (0, .ref (B + a0)), (1, .ref (B + a1)), (2, .ref (B + a2)), (3, .int x3), (4, .int x4), (5, .int x5), (6, .int x6), (7, .int x7)]) hx hb dX6_findWishes_148 hl (k := 8) rfl (by rw [exv1]; rfl) (by decide) rfl (fun ls hl => ?_)
  clear exv1
  refine lv_goto (tgt := 61) hx hb dX6_findWishes_151 (by decide) ?_
  exact hk61 M _ _ _ a0 a1 a2 x3 x4 x5 x6 x7 xv1 hF hW hS (lv_sub hl [1, 2, 3, 4, 5, 6, 7, 8, 0] rfl)
set_option maxRecDepth 100000 in
set_option maxHeartbeats 4000000 in
theorem kb_X6_findWishes_w61 (C : ps_C p s m args meth c cX6_findWishes 10 RX6 none "findWishes" D Y B) {q : ps_M} (k51 : ps_M → Nat → Nat → Nat → Int32 → Int32 → Int32 → Int32 → Int32 → Option (ps_M)) (hk51 : ∀ (M : ps_M) (H : Heap) (locs : List Loc) (ls : Array Slot) (a0 : Nat) (a1 : Nat) (a2 : Nat) (x3 : Int32) (x4 : Int32) (x5 : Int32) (x6 : Int32) (x7 : Int32), k51 M a0 a1 a2 x3 x4 x5 x6 x7 = some q → ps_W D Y B M H → va_S (fun q => B ≤ q) s.heap H locs → lv_has ls 10 [(0, .ref (B + a0)), (1, .ref (B + a1)), (2, .ref (B + a2)), (3, .int x3), (4, .int x4), (5, .int x5), (6, .int x6), (7, .int x7)] → W p l e rm_X6_findWishes s m args below meth c H locs 0 0 (ps_Qv D Y B below args s 0 0 q) (F0 m 51 ls [])) (k61 : ps_M → Nat → Nat → Nat → Int32 → Int32 → Int32 → Int32 → Int32 → Int32 → Option (ps_M)) (hk61 : ∀ (M : ps_M) (H : Heap) (locs : List Loc) (ls : Array Slot) (a0 : Nat) (a1 : Nat) (a2 : Nat) (x3 : Int32) (x4 : Int32) (x5 : Int32) (x6 : Int32) (x7 : Int32) (x8 : Int32), k61 M a0 a1 a2 x3 x4 x5 x6 x7 x8 = some q → ps_W D Y B M H → va_S (fun q => B ≤ q) s.heap H locs → lv_has ls 10 [(0, .ref (B + a0)), (1, .ref (B + a1)), (2, .ref (B + a2)), (3, .int x3), (4, .int x4), (5, .int x5), (6, .int x6), (7, .int x7), (8, .int x8)] → W p l e rm_X6_findWishes s m args below meth c H locs 0 0 (ps_Qv D Y B below args s 0 0 q) (F0 m 61 ls [])) {M : ps_M} {a0 : Nat} {a1 : Nat} {a2 : Nat} {x3 : Int32} {x4 : Int32} {x5 : Int32} {x6 : Int32} {x7 : Int32} {x8 : Int32} (hF : f_X6_findWishes_w61 k51 k61 M a0 a1 a2 x3 x4 x5 x6 x7 x8 = some q) (hW : ps_W D Y B M H) (hS : va_S (fun q => B ≤ q) s.heap H locs) (hl : lv_has ls 10 [(0, .ref (B + a0)), (1, .ref (B + a1)), (2, .ref (B + a2)), (3, .int x3), (4, .int x4), (5, .int x5), (6, .int x6), (7, .int x7), (8, .int x8)]) : W p l e rm_X6_findWishes s m args below meth c H locs 0 0 (ps_Qv D Y B below args s 0 0 q) (F0 m 61 ls []) := by
  have hx := C.1
  have hb := C.2.1
  have hml := C.2.2.1
  have hown := C.2.2.2.1
  have hts := C.2.2.2.2.1
  unfold f_X6_findWishes_w61 at hF
  refine lv_iload hx hb dX6_findWishes_61 (lv_at hl 8 rfl) ?_
  refine lv_iload hx hb dX6_findWishes_63 (lv_at hl 6 rfl) ?_
  refine lv_icmp_gt (tgt := 154) hx hb dX6_findWishes_65 (by decide) (fun hv2 => ?_) (fun hv2 => ?_)
  · replace hF := (if_pos hv2).symm.trans hF
    obtain ⟨xv3, exv3, hF⟩ := ps_ve hF
    refine lv_iinc (v := xv3) (lv' := [(7, .int xv3), (0, .ref (B + a0)), (1, .ref (B + a1)), (2, .ref (B + a2)), (3, .int x3), (4, .int x4), (5, .int x5), (6, .int x6), (8, .int x8)]) hx hb dX6_findWishes_154 hl (k := 7) rfl (by rw [exv3]; rfl) (by decide) rfl (fun ls hl => ?_)
    clear exv3
    refine lv_goto (tgt := 51) hx hb dX6_findWishes_157 (by decide) ?_
    exact hk51 M _ _ _ a0 a1 a2 x3 x4 x5 x6 xv3 hF hW hS (lv_sub hl [1, 2, 3, 4, 5, 6, 7, 0] rfl)
  · replace hF := (if_neg hv2).symm.trans hF
    refine lv_aload_n hx hb dX6_findWishes_68 rfl (lv_at hl 0 rfl) ?_
    refine lv_aload_n hx hb dX6_findWishes_69 rfl (lv_at hl 1 rfl) ?_
    refine lv_aload_n hx hb dX6_findWishes_70 rfl (lv_at hl 2 rfl) ?_
    refine lv_iload_n hx hb dX6_findWishes_71 rfl (lv_at hl 3 rfl) ?_
    refine lv_iload hx hb dX6_findWishes_72 (lv_at hl 4 rfl) ?_
    obtain ⟨hK, hF⟩ := ps_ck_some hF
    obtain ⟨M9, hc, hF⟩ := ps_b1_some hF
    refine ps_backV (M' := M9) hS (ps_callV C hW pc_5 mf_X6_begin tq_736 tq_22 tq_734 ⟨Nat.le_of_ble_eq_true rfl, Nat.le_of_ble_eq_true rfl⟩ rfl rfl (As := [.ref (B + a1), .ref (B + a2), .int x3, .int x4]) (rest := []) (c_X6_begin hc) hK rfl hl.1 rfl (Nat.le_of_ble_eq_true rfl) dX6_findWishes_74 ⟨Nat.le_of_ble_eq_true rfl, Nat.le_of_ble_eq_true rfl⟩) (fun H locs hW hS => ?_)
    clear hc
    generalize M9 = M at hW hF
    refine lv_aload_n hx hb dX6_findWishes_77 rfl (lv_at hl 0 rfl) ?_
    refine pw_gR C hW pc_5 (k := 8) (by decide) rfl tq_322 dX6_findWishes_78 hF (fun av4 hF => ?_)
    refine pw_gR C hW pc_6 (k := 9) (by decide) rfl tq_244 dX6_findWishes_81 hF (fun av5 hF => ?_)
    refine lv_iload_n hx hb dX6_findWishes_84 rfl (lv_at hl 3 rfl) ?_
    refine lv_iload hx hb dX6_findWishes_85 (lv_at hl 7 rfl) ?_
    obtain ⟨M9, hc, hF⟩ := ps_b1_some hF
    refine ps_backV (M' := M9) hS (ps_callS C hW mf_X4_put tq_440 tq_749 ⟨Nat.le_of_ble_eq_true rfl, Nat.le_of_ble_eq_true rfl⟩ rfl rfl (As := [.ref (B + av5), .int x3, .int x7]) (rest := []) (c_X4_put hc) rfl hl.1 rfl (Nat.le_of_ble_eq_true rfl) dX6_findWishes_87 ⟨Nat.le_of_ble_eq_true rfl, Nat.le_of_ble_eq_true rfl⟩) (fun H locs hW hS => ?_)
    clear hc
    generalize M9 = M at hW hF
    refine lv_aload_n hx hb dX6_findWishes_90 rfl (lv_at hl 0 rfl) ?_
    refine pw_gR C hW pc_5 (k := 8) (by decide) rfl tq_322 dX6_findWishes_91 hF (fun av6 hF => ?_)
    refine pw_gR C hW pc_6 (k := 9) (by decide) rfl tq_244 dX6_findWishes_94 hF (fun av7 hF => ?_)
    refine lv_iload hx hb dX6_findWishes_97 (lv_at hl 4 rfl) ?_
    refine lv_iload hx hb dX6_findWishes_99 (lv_at hl 8 rfl) ?_
    obtain ⟨M9, hc, hF⟩ := ps_b1_some hF
    refine ps_backV (M' := M9) hS (ps_callS C hW mf_X4_put tq_440 tq_749 ⟨Nat.le_of_ble_eq_true rfl, Nat.le_of_ble_eq_true rfl⟩ rfl rfl (As := [.ref (B + av7), .int x4, .int x8]) (rest := []) (c_X4_put hc) rfl hl.1 rfl (Nat.le_of_ble_eq_true rfl) dX6_findWishes_101 ⟨Nat.le_of_ble_eq_true rfl, Nat.le_of_ble_eq_true rfl⟩) (fun H locs hW hS => ?_)
    clear hc
    generalize M9 = M at hW hF
    refine lv_aload_n hx hb dX6_findWishes_104 rfl (lv_at hl 0 rfl) ?_
    refine lv_aload_n hx hb dX6_findWishes_105 rfl (lv_at hl 1 rfl) ?_
    refine lv_aload_n hx hb dX6_findWishes_106 rfl (lv_at hl 0 rfl) ?_
    refine pw_gR C hW pc_5 (k := 8) (by decide) rfl tq_322 dX6_findWishes_107 hF (fun av8 hF => ?_)
    refine lv_aload_n hx hb dX6_findWishes_110 rfl (lv_at hl 0 rfl) ?_
    refine pw_gI C hW pc_5 (k := 0) (by decide) rfl tq_310 dX6_findWishes_111 hF (fun xv9 hF => ?_)
    refine lv_iconst (v := 1) hx hb dX6_findWishes_114 (by decide) ?_
    refine lv_isub hx hb dX6_findWishes_115 ?_
    obtain ⟨hK, hF⟩ := ps_ck_some hF
    obtain ⟨xv10, M9, hc, hF⟩ := ps_b2_some hF
    refine ps_backI (x0 := xv10) (M' := M9) hS (ps_callV C hW pc_5 mf_X6_strokesThrough tq_710 tq_19 tq_708 ⟨Nat.le_of_ble_eq_true rfl, Nat.le_of_ble_eq_true rfl⟩ rfl rfl (As := [.ref (B + a1), .ref (B + av8), .int (xv9 - (1 : Int32))]) (rest := []) (c_X6_strokesThrough hc) hK rfl hl.1 rfl (Nat.le_of_ble_eq_true rfl) dX6_findWishes_116 ⟨Nat.le_of_ble_eq_true rfl, Nat.le_of_ble_eq_true rfl⟩) (fun H locs hW hS => ?_)
    clear hc
    generalize M9 = M at hW hF
    refine lv_istore (lv' := [(9, .int xv10), (0, .ref (B + a0)), (1, .ref (B + a1)), (2, .ref (B + a2)), (3, .int x3), (4, .int x4), (5, .int x5), (6, .int x6), (7, .int x7), (8, .int x8)]) hx hb dX6_findWishes_119 hl (by decide) rfl (fun ls hl => ?_)
    refine lv_iload hx hb dX6_findWishes_121 (lv_at hl 0 rfl) ?_
    refine lv_aload_n hx hb dX6_findWishes_123 rfl (lv_at hl 1 rfl) ?_
    refine pw_gI C hW pc_5 (k := 0) (by decide) rfl tq_310 dX6_findWishes_124 hF (fun xv11 hF => ?_)
    refine lv_icmp_ge (tgt := 148) hx hb dX6_findWishes_127 (by decide) (fun hv12 => ?_) (fun hv12 => ?_)
    · replace hF := (if_pos hv12).symm.trans hF
      exact kb_X6_findWishes_b148 C k51 hk51 k61 hk61 hF hW hS (lv_sub hl [1, 2, 3, 4, 5, 6, 7, 8, 9] rfl)
    · replace hF := (if_neg hv12).symm.trans hF
      refine lv_aload_n hx hb dX6_findWishes_130 rfl (lv_at hl 1 rfl) ?_
      refine lv_iload hx hb dX6_findWishes_131 (lv_at hl 0 rfl) ?_
      refine pw_pI C hW hS pc_5 (k := 0) (by decide) rfl rfl tq_310 rfl dX6_findWishes_133 hF (fun M H locs hW hS hF => ?_)
      refine lv_aload_n hx hb dX6_findWishes_136 rfl (lv_at hl 1 rfl) ?_
      refine lv_iload hx hb dX6_findWishes_137 (lv_at hl 8 rfl) ?_
      refine pw_pI C hW hS pc_5 (k := 1) (by decide) rfl rfl tq_312 rfl dX6_findWishes_139 hF (fun M H locs hW hS hF => ?_)
      refine lv_aload_n hx hb dX6_findWishes_142 rfl (lv_at hl 1 rfl) ?_
      refine lv_iload hx hb dX6_findWishes_143 (lv_at hl 9 rfl) ?_
      refine pw_pI C hW hS pc_5 (k := 2) (by decide) rfl rfl tq_314 rfl dX6_findWishes_145 hF (fun M H locs hW hS hF => ?_)
      exact kb_X6_findWishes_b148 C k51 hk51 k61 hk61 hF hW hS (lv_sub hl [1, 2, 3, 4, 5, 6, 7, 8, 9] rfl)
theorem kb_X6_findWishes_l61 (C : ps_C p s m args meth c cX6_findWishes 10 RX6 none "findWishes" D Y B) {q : ps_M} (k51 : ps_M → Nat → Nat → Nat → Int32 → Int32 → Int32 → Int32 → Int32 → Option (ps_M)) (hk51 : ∀ (M : ps_M) (H : Heap) (locs : List Loc) (ls : Array Slot) (a0 : Nat) (a1 : Nat) (a2 : Nat) (x3 : Int32) (x4 : Int32) (x5 : Int32) (x6 : Int32) (x7 : Int32), k51 M a0 a1 a2 x3 x4 x5 x6 x7 = some q → ps_W D Y B M H → va_S (fun q => B ≤ q) s.heap H locs → lv_has ls 10 [(0, .ref (B + a0)), (1, .ref (B + a1)), (2, .ref (B + a2)), (3, .int x3), (4, .int x4), (5, .int x5), (6, .int x6), (7, .int x7)] → W p l e rm_X6_findWishes s m args below meth c H locs 0 0 (ps_Qv D Y B below args s 0 0 q) (F0 m 51 ls [])) : ∀ (n : Nat) (M : ps_M) (H : Heap) (locs : List Loc) (ls : Array Slot) (a0 : Nat) (a1 : Nat) (a2 : Nat) (x3 : Int32) (x4 : Int32) (x5 : Int32) (x6 : Int32) (x7 : Int32) (x8 : Int32), f_X6_findWishes_l61 k51 n M a0 a1 a2 x3 x4 x5 x6 x7 x8 = some q → ps_W D Y B M H → va_S (fun q => B ≤ q) s.heap H locs → lv_has ls 10 [(0, .ref (B + a0)), (1, .ref (B + a1)), (2, .ref (B + a2)), (3, .int x3), (4, .int x4), (5, .int x5), (6, .int x6), (7, .int x7), (8, .int x8)] → W p l e rm_X6_findWishes s m args below meth c H locs 0 0 (ps_Qv D Y B below args s 0 0 q) (F0 m 61 ls []) := by
  intro n
  induction n with
  | zero => intro M H locs ls a0 a1 a2 x3 x4 x5 x6 x7 x8 hF; cases hF
  | succ n ih => intro M H locs ls a0 a1 a2 x3 x4 x5 x6 x7 x8 hF hW hS hl; exact kb_X6_findWishes_w61 C k51 hk51 (f_X6_findWishes_l61 k51 n) ih hF hW hS hl
set_option maxRecDepth 100000 in
set_option maxHeartbeats 4000000 in
theorem kb_X6_findWishes_w51 (C : ps_C p s m args meth c cX6_findWishes 10 RX6 none "findWishes" D Y B) {q : ps_M} (k51 : ps_M → Nat → Nat → Nat → Int32 → Int32 → Int32 → Int32 → Int32 → Option (ps_M)) (hk51 : ∀ (M : ps_M) (H : Heap) (locs : List Loc) (ls : Array Slot) (a0 : Nat) (a1 : Nat) (a2 : Nat) (x3 : Int32) (x4 : Int32) (x5 : Int32) (x6 : Int32) (x7 : Int32), k51 M a0 a1 a2 x3 x4 x5 x6 x7 = some q → ps_W D Y B M H → va_S (fun q => B ≤ q) s.heap H locs → lv_has ls 10 [(0, .ref (B + a0)), (1, .ref (B + a1)), (2, .ref (B + a2)), (3, .int x3), (4, .int x4), (5, .int x5), (6, .int x6), (7, .int x7)] → W p l e rm_X6_findWishes s m args below meth c H locs 0 0 (ps_Qv D Y B below args s 0 0 q) (F0 m 51 ls [])) {M : ps_M} {a0 : Nat} {a1 : Nat} {a2 : Nat} {x3 : Int32} {x4 : Int32} {x5 : Int32} {x6 : Int32} {x7 : Int32} (hF : f_X6_findWishes_w51 k51 M a0 a1 a2 x3 x4 x5 x6 x7 = some q) (hW : ps_W D Y B M H) (hS : va_S (fun q => B ≤ q) s.heap H locs) (hl : lv_has ls 10 [(0, .ref (B + a0)), (1, .ref (B + a1)), (2, .ref (B + a2)), (3, .int x3), (4, .int x4), (5, .int x5), (6, .int x6), (7, .int x7)]) : W p l e rm_X6_findWishes s m args below meth c H locs 0 0 (ps_Qv D Y B below args s 0 0 q) (F0 m 51 ls []) := by
  have hx := C.1
  have hb := C.2.1
  have hml := C.2.2.1
  have hown := C.2.2.2.1
  have hts := C.2.2.2.2.1
  unfold f_X6_findWishes_w51 at hF
  refine lv_iload hx hb dX6_findWishes_51 (lv_at hl 7 rfl) ?_
  refine lv_iload hx hb dX6_findWishes_53 (lv_at hl 5 rfl) ?_
  refine lv_icmp_gt (tgt := 160) hx hb dX6_findWishes_55 (by decide) (fun hv13 => ?_) (fun hv13 => ?_)
  · replace hF := (if_pos hv13).symm.trans hF
    exact pw_vret C hW hS dX6_findWishes_160 hF
  · replace hF := (if_neg hv13).symm.trans hF
    refine lv_iconst (v := 1) hx hb dX6_findWishes_58 (by decide) ?_
    refine lv_istore (lv' := [(8, .int (1 : Int32)), (0, .ref (B + a0)), (1, .ref (B + a1)), (2, .ref (B + a2)), (3, .int x3), (4, .int x4), (5, .int x5), (6, .int x6), (7, .int x7)]) hx hb dX6_findWishes_59 hl (by decide) rfl (fun ls hl => ?_)
    exact kb_X6_findWishes_l61 C k51 hk51 ps_fu M _ _ _ a0 a1 a2 x3 x4 x5 x6 x7 (1 : Int32) hF hW hS (lv_sub hl [1, 2, 3, 4, 5, 6, 7, 8, 0] rfl)
theorem kb_X6_findWishes_l51 (C : ps_C p s m args meth c cX6_findWishes 10 RX6 none "findWishes" D Y B) {q : ps_M}  : ∀ (n : Nat) (M : ps_M) (H : Heap) (locs : List Loc) (ls : Array Slot) (a0 : Nat) (a1 : Nat) (a2 : Nat) (x3 : Int32) (x4 : Int32) (x5 : Int32) (x6 : Int32) (x7 : Int32), f_X6_findWishes_l51 n M a0 a1 a2 x3 x4 x5 x6 x7 = some q → ps_W D Y B M H → va_S (fun q => B ≤ q) s.heap H locs → lv_has ls 10 [(0, .ref (B + a0)), (1, .ref (B + a1)), (2, .ref (B + a2)), (3, .int x3), (4, .int x4), (5, .int x5), (6, .int x6), (7, .int x7)] → W p l e rm_X6_findWishes s m args below meth c H locs 0 0 (ps_Qv D Y B below args s 0 0 q) (F0 m 51 ls []) := by
  intro n
  induction n with
  | zero => intro M H locs ls a0 a1 a2 x3 x4 x5 x6 x7 hF; cases hF
  | succ n ih => intro M H locs ls a0 a1 a2 x3 x4 x5 x6 x7 hF hW hS hl; exact kb_X6_findWishes_w51 C  (f_X6_findWishes_l51 n) ih hF hW hS hl
set_option maxRecDepth 100000 in
set_option maxHeartbeats 4000000 in
theorem kb_X6_findWishes (C : ps_C p s m args meth c cX6_findWishes 10 RX6 none "findWishes" D Y B) {q : ps_M}  {M : ps_M} {a0 : Nat} {a1 : Nat} {a2 : Nat} {x3 : Int32} {x4 : Int32} (hF : f_X6_findWishes M a0 a1 a2 x3 x4 = some q) (hW : ps_W D Y B M H) (hS : va_S (fun q => B ≤ q) s.heap H locs) (hl : lv_has ls 10 [(0, .ref (B + a0)), (1, .ref (B + a1)), (2, .ref (B + a2)), (3, .int x3), (4, .int x4)]) : W p l e rm_X6_findWishes s m args below meth c H locs 0 0 (ps_Qv D Y B below args s 0 0 q) (F0 m 0 ls []) := by
  have hx := C.1
  have hb := C.2.1
  have hml := C.2.2.1
  have hown := C.2.2.2.1
  have hts := C.2.2.2.2.1
  unfold f_X6_findWishes at hF
  refine lv_aload_n hx hb dX6_findWishes_0 rfl (lv_at hl 0 rfl) ?_
  refine lv_sipush (v := 1000) hx hb dX6_findWishes_1 (by decide) ?_
  refine pw_pI C hW hS pc_5 (k := 0) (by decide) rfl rfl tq_310 rfl dX6_findWishes_4 hF (fun M H locs hW hS hF => ?_)
  refine lv_aload_n hx hb dX6_findWishes_7 rfl (lv_at hl 0 rfl) ?_
  refine lv_iconst (v := -1) hx hb dX6_findWishes_8 (by decide) ?_
  refine pw_pI C hW hS pc_5 (k := 1) (by decide) rfl rfl tq_312 rfl dX6_findWishes_9 hF (fun M H locs hW hS hF => ?_)
  refine lv_aload_n hx hb dX6_findWishes_12 rfl (lv_at hl 0 rfl) ?_
  refine lv_iconst (v := -1) hx hb dX6_findWishes_13 (by decide) ?_
  refine pw_pI C hW hS pc_5 (k := 2) (by decide) rfl rfl tq_314 rfl dX6_findWishes_14 hF (fun M H locs hW hS hF => ?_)
  refine lv_bipush (v := 20) hx hb dX6_findWishes_17 (by decide) ?_
  refine lv_aload_n hx hb dX6_findWishes_19 rfl (lv_at hl 1 rfl) ?_
  refine pw_gR C hW pc_7 (k := 7) (by decide) rfl tq_117 dX6_findWishes_20 hF (fun av14 hF => ?_)
  refine lv_iload_n hx hb dX6_findWishes_23 rfl (lv_at hl 3 rfl) ?_
  obtain ⟨xv15, M9, hc, hF⟩ := ps_b2_some hF
  refine ps_backI (x0 := xv15) (M' := M9) hS (ps_callS C hW mf_X4_at tq_549 tq_718 ⟨Nat.le_of_ble_eq_true rfl, Nat.le_of_ble_eq_true rfl⟩ rfl rfl (As := [.ref (B + av14), .int x3]) (rest := [.int (20 : Int32)]) (c_X4_at hc) rfl hl.1 rfl (Nat.le_of_ble_eq_true rfl) dX6_findWishes_24 ⟨Nat.le_of_ble_eq_true rfl, Nat.le_of_ble_eq_true rfl⟩) (fun H locs hW hS => ?_)
  clear hc
  generalize M9 = M at hW hF
  refine va_mmin hx hb (hml.trans hl.1.symm) hown (hts _ tq_748) (hts _ tq_602) (hts _ tq_65) (hts _ tq_603) (Nat.le_of_ble_eq_true rfl) (Nat.le_of_ble_eq_true rfl) (Nat.le_of_ble_eq_true rfl) (Nat.le_of_ble_eq_true rfl) dX6_findWishes_27 ?_
  refine pw_v hF (fun xv16 hF => ?_)
  refine lv_istore (lv' := [(5, .int xv16), (0, .ref (B + a0)), (1, .ref (B + a1)), (2, .ref (B + a2)), (3, .int x3), (4, .int x4)]) hx hb dX6_findWishes_30 hl (by decide) rfl (fun ls hl => ?_)
  refine lv_bipush (v := 20) hx hb dX6_findWishes_32 (by decide) ?_
  refine lv_aload_n hx hb dX6_findWishes_34 rfl (lv_at hl 2 rfl) ?_
  refine pw_gR C hW pc_7 (k := 7) (by decide) rfl tq_117 dX6_findWishes_35 hF (fun av17 hF => ?_)
  refine lv_iload hx hb dX6_findWishes_38 (lv_at hl 5 rfl) ?_
  obtain ⟨xv18, M9, hc, hF⟩ := ps_b2_some hF
  refine ps_backI (x0 := xv18) (M' := M9) hS (ps_callS C hW mf_X4_at tq_549 tq_718 ⟨Nat.le_of_ble_eq_true rfl, Nat.le_of_ble_eq_true rfl⟩ rfl rfl (As := [.ref (B + av17), .int x4]) (rest := [.int (20 : Int32)]) (c_X4_at hc) rfl hl.1 rfl (Nat.le_of_ble_eq_true rfl) dX6_findWishes_40 ⟨Nat.le_of_ble_eq_true rfl, Nat.le_of_ble_eq_true rfl⟩) (fun H locs hW hS => ?_)
  clear hc
  generalize M9 = M at hW hF
  refine va_mmin hx hb (hml.trans hl.1.symm) hown (hts _ tq_748) (hts _ tq_602) (hts _ tq_65) (hts _ tq_603) (Nat.le_of_ble_eq_true rfl) (Nat.le_of_ble_eq_true rfl) (Nat.le_of_ble_eq_true rfl) (Nat.le_of_ble_eq_true rfl) dX6_findWishes_43 ?_
  refine pw_v hF (fun xv19 hF => ?_)
  refine lv_istore (lv' := [(6, .int xv19), (5, .int xv16), (0, .ref (B + a0)), (1, .ref (B + a1)), (2, .ref (B + a2)), (3, .int x3), (4, .int x4)]) hx hb dX6_findWishes_46 hl (by decide) rfl (fun ls hl => ?_)
  refine lv_iconst (v := 1) hx hb dX6_findWishes_48 (by decide) ?_
  refine lv_istore (lv' := [(7, .int (1 : Int32)), (6, .int xv19), (5, .int xv16), (0, .ref (B + a0)), (1, .ref (B + a1)), (2, .ref (B + a2)), (3, .int x3), (4, .int x4)]) hx hb dX6_findWishes_49 hl (by decide) rfl (fun ls hl => ?_)
  exact kb_X6_findWishes_l51 C ps_fu M _ _ _ a0 a1 a2 x3 x4 xv16 xv19 (1 : Int32) hF hW hS (lv_sub hl [3, 4, 5, 6, 7, 2, 1, 0] rfl)
theorem mf_X6_findWishes : ps_mf yX6_findWishes cX6_findWishes 10 none 4 := ⟨tq_747, tq_68, by decide +kernel, by decide +kernel, by decide +kernel⟩
theorem c_X6_findWishes {l : Launch} {D : va_G} {Y : ps_A} {B : Nat} {M : ps_M} {a0 : Nat} {a1 : Nat} {a2 : Nat} {x3 : Int32} {x4 : Int32} {M' : ps_M} (hF : f_X6_findWishes M a0 a1 a2 x3 x4 = some M') : Met l yX6_findWishes (Cond.code yX6_findWishes cX6_findWishes 10 none :: tb_G) rm_X6_findWishes (ps_PB D Y B M [.ref (B + a0), .ref (B + a1), .ref (B + a2), .int x3, .int x4]) (va_Qv (fun (_ : Unit) => True) (fun _ t => ps_St D Y B M' t) (fun q => B ≤ q)) 0 0 (fun q => B ≤ q) :=
  pm_of (by decide +kernel) (Nat.le_of_ble_eq_true rfl) (fun p e s m args below meth c C hW hS ls hl => kb_X6_findWishes C hF hW hS hl)

abbrev rm_X7_hasQuarrel : Room := { frames := 1, cells := 0, slots := 0, locals := 21 }
def f_X7_hasQuarrel_b43 (M : ps_M) (t0 : Int32) : Option (Int32 × ps_M) := ps_z t0 M
def f_X7_hasQuarrel_b38 (M : ps_M)  : Option (Int32 × ps_M) := f_X7_hasQuarrel_b43 M (1 : Int32)
def f_X7_hasQuarrel (M : ps_M) (a0 : Nat) : Option (Int32 × ps_M) := ps_gR M a0 6 12 (fun av1 => ps_gI M a0 6 0 (fun xv2 => ps_b2 (f_X4_at M av1 xv2) (fun xv3 M => ps_v (if 0 ≤ xv3 then xv3 else 0 - xv3) (fun xv4 => if (9 : Int32) ≤ xv4 then (f_X7_hasQuarrel_b38 M ) else (ps_gR M a0 6 12 (fun av6 => ps_gI M a0 6 1 (fun xv7 => ps_b2 (f_X4_at M av6 xv7) (fun xv8 M => ps_v (if 0 ≤ xv8 then xv8 else 0 - xv8) (fun xv9 => if xv9 < (9 : Int32) then (f_X7_hasQuarrel_b43 M (0 : Int32)) else (f_X7_hasQuarrel_b38 M ))))))))))
set_option maxRecDepth 100000 in
set_option maxHeartbeats 4000000 in
theorem kb_X7_hasQuarrel_b43 (C : ps_C p s m args meth c cX7_hasQuarrel 1 RX7 ((some .boolean)) "hasQuarrel" D Y B) {q : Int32 × ps_M}  {M : ps_M} {t0 : Int32} (hF : f_X7_hasQuarrel_b43 M t0 = some q) (hW : ps_W D Y B M H) (hS : va_S (fun q => B ≤ q) s.heap H locs) (hl : lv_has ls 1 []) : W p l e rm_X7_hasQuarrel s m args below meth c H locs 0 0 (ps_Qi D Y B below args s 0 0 q) (F0 m 43 ls [.int t0]) := by
  have hx := C.1
  have hb := C.2.1
  have hml := C.2.2.1
  have hown := C.2.2.2.1
  have hts := C.2.2.2.2.1
  unfold f_X7_hasQuarrel_b43 at hF
  exact pw_zret C hW hS dX7_hasQuarrel_43 hF
set_option maxRecDepth 100000 in
set_option maxHeartbeats 4000000 in
theorem kb_X7_hasQuarrel_b38 (C : ps_C p s m args meth c cX7_hasQuarrel 1 RX7 ((some .boolean)) "hasQuarrel" D Y B) {q : Int32 × ps_M}  {M : ps_M}  (hF : f_X7_hasQuarrel_b38 M  = some q) (hW : ps_W D Y B M H) (hS : va_S (fun q => B ≤ q) s.heap H locs) (hl : lv_has ls 1 []) : W p l e rm_X7_hasQuarrel s m args below meth c H locs 0 0 (ps_Qi D Y B below args s 0 0 q) (F0 m 38 ls []) := by
  have hx := C.1
  have hb := C.2.1
  have hml := C.2.2.1
  have hown := C.2.2.2.1
  have hts := C.2.2.2.2.1
  unfold f_X7_hasQuarrel_b38 at hF
  refine lv_iconst (v := 1) hx hb dX7_hasQuarrel_38 (by decide) ?_
  refine lv_goto (tgt := 43) hx hb dX7_hasQuarrel_39 (by decide) ?_
  exact kb_X7_hasQuarrel_b43 C hF hW hS (lv_sub hl [] rfl)
set_option maxRecDepth 100000 in
set_option maxHeartbeats 4000000 in
theorem kb_X7_hasQuarrel (C : ps_C p s m args meth c cX7_hasQuarrel 1 RX7 ((some .boolean)) "hasQuarrel" D Y B) {q : Int32 × ps_M}  {M : ps_M} {a0 : Nat} (hF : f_X7_hasQuarrel M a0 = some q) (hW : ps_W D Y B M H) (hS : va_S (fun q => B ≤ q) s.heap H locs) (hl : lv_has ls 1 [(0, .ref (B + a0))]) : W p l e rm_X7_hasQuarrel s m args below meth c H locs 0 0 (ps_Qi D Y B below args s 0 0 q) (F0 m 0 ls []) := by
  have hx := C.1
  have hb := C.2.1
  have hml := C.2.2.1
  have hown := C.2.2.2.1
  have hts := C.2.2.2.2.1
  unfold f_X7_hasQuarrel at hF
  refine lv_aload_n hx hb dX7_hasQuarrel_0 rfl (lv_at hl 0 rfl) ?_
  refine pw_gR C hW pc_6 (k := 12) (by decide) rfl tq_252 dX7_hasQuarrel_1 hF (fun av1 hF => ?_)
  refine lv_aload_n hx hb dX7_hasQuarrel_4 rfl (lv_at hl 0 rfl) ?_
  refine pw_gI C hW pc_6 (k := 0) (by decide) rfl tq_220 dX7_hasQuarrel_5 hF (fun xv2 hF => ?_)
  obtain ⟨xv3, M9, hc, hF⟩ := ps_b2_some hF
  refine ps_backI (x0 := xv3) (M' := M9) hS (ps_callS C hW mf_X4_at tq_549 tq_608 ⟨Nat.le_of_ble_eq_true rfl, Nat.le_of_ble_eq_true rfl⟩ rfl rfl (As := [.ref (B + av1), .int xv2]) (rest := []) (c_X4_at hc) rfl hl.1 rfl (Nat.le_of_ble_eq_true rfl) dX7_hasQuarrel_8 ⟨Nat.le_of_ble_eq_true rfl, Nat.le_of_ble_eq_true rfl⟩) (fun H locs hW hS => ?_)
  clear hc
  generalize M9 = M at hW hF
  refine va_mabs hx hb (hml.trans hl.1.symm) hown (hts _ tq_762) (hts _ tq_763) (hts _ tq_65) (hts _ tq_764) (Nat.le_of_ble_eq_true rfl) (Nat.le_of_ble_eq_true rfl) (Nat.le_of_ble_eq_true rfl) (Nat.le_of_ble_eq_true rfl) dX7_hasQuarrel_11 ?_
  refine pw_v hF (fun xv4 hF => ?_)
  refine lv_bipush (v := 9) hx hb dX7_hasQuarrel_14 (by decide) ?_
  refine lv_icmp_ge (tgt := 38) hx hb dX7_hasQuarrel_16 (by decide) (fun hv5 => ?_) (fun hv5 => ?_)
  · replace hF := (if_pos hv5).symm.trans hF
    exact kb_X7_hasQuarrel_b38 C hF hW hS (lv_sub hl [] rfl)
  · replace hF := (if_neg hv5).symm.trans hF
    refine lv_aload_n hx hb dX7_hasQuarrel_19 rfl (lv_at hl 0 rfl) ?_
    refine pw_gR C hW pc_6 (k := 12) (by decide) rfl tq_252 dX7_hasQuarrel_20 hF (fun av6 hF => ?_)
    refine lv_aload_n hx hb dX7_hasQuarrel_23 rfl (lv_at hl 0 rfl) ?_
    refine pw_gI C hW pc_6 (k := 1) (by decide) rfl tq_223 dX7_hasQuarrel_24 hF (fun xv7 hF => ?_)
    obtain ⟨xv8, M9, hc, hF⟩ := ps_b2_some hF
    refine ps_backI (x0 := xv8) (M' := M9) hS (ps_callS C hW mf_X4_at tq_549 tq_608 ⟨Nat.le_of_ble_eq_true rfl, Nat.le_of_ble_eq_true rfl⟩ rfl rfl (As := [.ref (B + av6), .int xv7]) (rest := []) (c_X4_at hc) rfl hl.1 rfl (Nat.le_of_ble_eq_true rfl) dX7_hasQuarrel_27 ⟨Nat.le_of_ble_eq_true rfl, Nat.le_of_ble_eq_true rfl⟩) (fun H locs hW hS => ?_)
    clear hc
    generalize M9 = M at hW hF
    refine va_mabs hx hb (hml.trans hl.1.symm) hown (hts _ tq_762) (hts _ tq_763) (hts _ tq_65) (hts _ tq_764) (Nat.le_of_ble_eq_true rfl) (Nat.le_of_ble_eq_true rfl) (Nat.le_of_ble_eq_true rfl) (Nat.le_of_ble_eq_true rfl) dX7_hasQuarrel_30 ?_
    refine pw_v hF (fun xv9 hF => ?_)
    refine lv_bipush (v := 9) hx hb dX7_hasQuarrel_33 (by decide) ?_
    refine lv_icmp_lt (tgt := 42) hx hb dX7_hasQuarrel_35 (by decide) (fun hv10 => ?_) (fun hv10 => ?_)
    · replace hF := (if_pos hv10).symm.trans hF
      refine lv_iconst (v := 0) hx hb dX7_hasQuarrel_42 (by decide) ?_
      exact kb_X7_hasQuarrel_b43 C hF hW hS (lv_sub hl [] rfl)
    · replace hF := (if_neg hv10).symm.trans hF
      exact kb_X7_hasQuarrel_b38 C hF hW hS (lv_sub hl [] rfl)
theorem mf_X7_hasQuarrel : ps_mf yX7_hasQuarrel cX7_hasQuarrel 1 ((some .boolean)) 0 := ⟨tq_761, tq_66, by decide +kernel, by decide +kernel, by decide +kernel⟩
theorem c_X7_hasQuarrel {l : Launch} {D : va_G} {Y : ps_A} {B : Nat} {M : ps_M} {a0 : Nat} {r : Int32} {M' : ps_M} (hF : f_X7_hasQuarrel M a0 = some (r, M')) : Met l yX7_hasQuarrel (Cond.code yX7_hasQuarrel cX7_hasQuarrel 1 ((some .boolean)) :: tb_G) rm_X7_hasQuarrel (ps_PB D Y B M [.ref (B + a0)]) (va_Qi (fun x (_ : Unit) => x = r) (fun _ t => ps_St D Y B M' t) (fun q => B ≤ q)) 0 0 (fun q => B ≤ q) :=
  pm_of (by decide +kernel) (Nat.le_of_ble_eq_true rfl) (fun p e s m args below meth c C hW hS ls hl => kb_X7_hasQuarrel C hF hW hS hl)

abbrev rm_X6_quarrelStroke : Room := { frames := 3, cells := 0, slots := 0, locals := 71 }
def f_X6_quarrelStroke_b58 (M : ps_M)  : Option (Int32 × ps_M) := some ((-1 : Int32), M)
def f_X6_quarrelStroke_w12 (k12 : ps_M → Nat → Nat → Int32 → Option (Int32 × ps_M)) (M : ps_M) (a0 : Nat) (a1 : Nat) (x5 : Int32) : Option (Int32 × ps_M) := if (99 : Int32) < x5 then (f_X6_quarrelStroke_b58 M ) else (ps_gR M a0 5 8 (fun av2 => ps_ck M av2 6 (ps_b2 (f_X7_isThrough M av2 a1) (fun xv3 M => if xv3 = 0 then (ps_gR M a0 5 8 (fun av5 => ps_ck M av5 6 (ps_b2 (f_X7_pullOnce M av5 a1) (fun xv6 M => ps_gR M a0 5 8 (fun av7 => ps_ck M av7 6 (ps_b2 (f_X7_hasQuarrel M av7 ) (fun xv8 M => if xv8 = 0 then (ps_v (x5 + 1) (fun xv10 => k12 M a0 a1 xv10)) else (some (x5, M))))))))) else (f_X6_quarrelStroke_b58 M )))))
def f_X6_quarrelStroke_l12 : Nat → ps_M → Nat → Nat → Int32 → Option (Int32 × ps_M)
  | 0, _, _, _, _ => none
  | n + 1, M, a0, a1, x5 => f_X6_quarrelStroke_w12 (f_X6_quarrelStroke_l12 n) M a0 a1 x5
def f_X6_quarrelStroke (M : ps_M) (a0 : Nat) (a1 : Nat) (a2 : Nat) (x3 : Int32) (x4 : Int32) : Option (Int32 × ps_M) := ps_ck M a0 5 (ps_b1 (f_X6_begin M a0 a1 a2 x3 x4) (fun M => f_X6_quarrelStroke_l12 ps_fu M a0 a1 (1 : Int32)))
set_option maxRecDepth 100000 in
set_option maxHeartbeats 4000000 in
theorem kb_X6_quarrelStroke_b58 (C : ps_C p s m args meth c cX6_quarrelStroke 6 RX6 ((some .int)) "quarrelStroke" D Y B) {q : Int32 × ps_M}  {M : ps_M}  (hF : f_X6_quarrelStroke_b58 M  = some q) (hW : ps_W D Y B M H) (hS : va_S (fun q => B ≤ q) s.heap H locs) (hl : lv_has ls 6 []) : W p l e rm_X6_quarrelStroke s m args below meth c H locs 0 0 (ps_Qi D Y B below args s 0 0 q) (F0 m 58 ls []) := by
  have hx := C.1
  have hb := C.2.1
  have hml := C.2.2.1
  have hown := C.2.2.2.1
  have hts := C.2.2.2.2.1
  unfold f_X6_quarrelStroke_b58 at hF
  refine lv_iconst (v := -1) hx hb dX6_quarrelStroke_58 (by decide) ?_
  exact pw_iret C hW hS dX6_quarrelStroke_59 hF
set_option maxRecDepth 100000 in
set_option maxHeartbeats 4000000 in
theorem kb_X6_quarrelStroke_w12 (C : ps_C p s m args meth c cX6_quarrelStroke 6 RX6 ((some .int)) "quarrelStroke" D Y B) {q : Int32 × ps_M} (k12 : ps_M → Nat → Nat → Int32 → Option (Int32 × ps_M)) (hk12 : ∀ (M : ps_M) (H : Heap) (locs : List Loc) (ls : Array Slot) (a0 : Nat) (a1 : Nat) (x5 : Int32), k12 M a0 a1 x5 = some q → ps_W D Y B M H → va_S (fun q => B ≤ q) s.heap H locs → lv_has ls 6 [(0, .ref (B + a0)), (1, .ref (B + a1)), (5, .int x5)] → W p l e rm_X6_quarrelStroke s m args below meth c H locs 0 0 (ps_Qi D Y B below args s 0 0 q) (F0 m 12 ls [])) {M : ps_M} {a0 : Nat} {a1 : Nat} {x5 : Int32} (hF : f_X6_quarrelStroke_w12 k12 M a0 a1 x5 = some q) (hW : ps_W D Y B M H) (hS : va_S (fun q => B ≤ q) s.heap H locs) (hl : lv_has ls 6 [(0, .ref (B + a0)), (1, .ref (B + a1)), (5, .int x5)]) : W p l e rm_X6_quarrelStroke s m args below meth c H locs 0 0 (ps_Qi D Y B below args s 0 0 q) (F0 m 12 ls []) := by
  have hx := C.1
  have hb := C.2.1
  have hml := C.2.2.1
  have hown := C.2.2.2.1
  have hts := C.2.2.2.2.1
  unfold f_X6_quarrelStroke_w12 at hF
  refine lv_iload hx hb dX6_quarrelStroke_12 (lv_at hl 2 rfl) ?_
  refine lv_bipush (v := 99) hx hb dX6_quarrelStroke_14 (by decide) ?_
  refine lv_icmp_gt (tgt := 58) hx hb dX6_quarrelStroke_16 (by decide) (fun hv1 => ?_) (fun hv1 => ?_)
  · replace hF := (if_pos hv1).symm.trans hF
    exact kb_X6_quarrelStroke_b58 C hF hW hS (lv_sub hl [] rfl)
  · replace hF := (if_neg hv1).symm.trans hF
    refine lv_aload_n hx hb dX6_quarrelStroke_19 rfl (lv_at hl 0 rfl) ?_
    refine pw_gR C hW pc_5 (k := 8) (by decide) rfl tq_322 dX6_quarrelStroke_20 hF (fun av2 hF => ?_)
    refine lv_aload_n hx hb dX6_quarrelStroke_23 rfl (lv_at hl 1 rfl) ?_
    obtain ⟨hK, hF⟩ := ps_ck_some hF
    obtain ⟨xv3, M9, hc, hF⟩ := ps_b2_some hF
    refine ps_backI (x0 := xv3) (M' := M9) hS (ps_callV C hW pc_6 mf_X7_isThrough tq_536 tq_537 tq_712 ⟨Nat.le_of_ble_eq_true rfl, Nat.le_of_ble_eq_true rfl⟩ rfl rfl (As := [.ref (B + a1)]) (rest := []) (c_X7_isThrough hc) hK rfl hl.1 rfl (Nat.le_of_ble_eq_true rfl) dX6_quarrelStroke_24 ⟨Nat.le_of_ble_eq_true rfl, Nat.le_of_ble_eq_true rfl⟩) (fun H locs hW hS => ?_)
    clear hc
    generalize M9 = M at hW hF
    refine lv_if_ne (tgt := 58) hx hb dX6_quarrelStroke_27 (by decide) (fun hv4 => ?_) (fun hv4 => ?_)
    · replace hF := (if_neg hv4).symm.trans hF
      exact kb_X6_quarrelStroke_b58 C hF hW hS (lv_sub hl [] rfl)
    · replace hF := (if_pos hv4).symm.trans hF
      refine lv_aload_n hx hb dX6_quarrelStroke_30 rfl (lv_at hl 0 rfl) ?_
      refine pw_gR C hW pc_5 (k := 8) (by decide) rfl tq_322 dX6_quarrelStroke_31 hF (fun av5 hF => ?_)
      refine lv_aload_n hx hb dX6_quarrelStroke_34 rfl (lv_at hl 1 rfl) ?_
      obtain ⟨hK, hF⟩ := ps_ck_some hF
      obtain ⟨xv6, M9, hc, hF⟩ := ps_b2_some hF
      refine ps_backI (x0 := xv6) (M' := M9) hS (ps_callV C hW pc_6 mf_X7_pullOnce tq_605 tq_606 tq_713 ⟨Nat.le_of_ble_eq_true rfl, Nat.le_of_ble_eq_true rfl⟩ rfl rfl (As := [.ref (B + a1)]) (rest := []) (c_X7_pullOnce hc) hK rfl hl.1 rfl (Nat.le_of_ble_eq_true rfl) dX6_quarrelStroke_35 ⟨Nat.le_of_ble_eq_true rfl, Nat.le_of_ble_eq_true rfl⟩) (fun H locs hW hS => ?_)
      clear hc
      generalize M9 = M at hW hF
      refine lv_pop hx hb dX6_quarrelStroke_38 rfl ?_
      refine lv_aload_n hx hb dX6_quarrelStroke_39 rfl (lv_at hl 0 rfl) ?_
      refine pw_gR C hW pc_5 (k := 8) (by decide) rfl tq_322 dX6_quarrelStroke_40 hF (fun av7 hF => ?_)
      obtain ⟨hK, hF⟩ := ps_ck_some hF
      obtain ⟨xv8, M9, hc, hF⟩ := ps_b2_some hF
      refine ps_backI (x0 := xv8) (M' := M9) hS (ps_callV C hW pc_6 mf_X7_hasQuarrel tq_759 tq_760 tq_758 ⟨Nat.le_of_ble_eq_true rfl, Nat.le_of_ble_eq_true rfl⟩ rfl rfl (As := []) (rest := []) (c_X7_hasQuarrel hc) hK rfl hl.1 rfl (Nat.le_of_ble_eq_true rfl) dX6_quarrelStroke_43 ⟨Nat.le_of_ble_eq_true rfl, Nat.le_of_ble_eq_true rfl⟩) (fun H locs hW hS => ?_)
      clear hc
      generalize M9 = M at hW hF
      refine lv_if_eq (tgt := 52) hx hb dX6_quarrelStroke_46 (by decide) (fun hv9 => ?_) (fun hv9 => ?_)
      · replace hF := (if_pos hv9).symm.trans hF
        obtain ⟨xv10, exv10, hF⟩ := ps_ve hF
        refine lv_iinc (v := xv10) (lv' := [(5, .int xv10), (0, .ref (B + a0)), (1, .ref (B + a1))]) hx hb dX6_quarrelStroke_52 hl (k := 2) rfl (by rw [exv10]; rfl) (by decide) rfl (fun ls hl => ?_)
        clear exv10
        refine lv_goto (tgt := 12) hx hb dX6_quarrelStroke_55 (by decide) ?_
        exact hk12 M _ _ _ a0 a1 xv10 hF hW hS (lv_sub hl [1, 2, 0] rfl)
      · replace hF := (if_neg hv9).symm.trans hF
        refine lv_iload hx hb dX6_quarrelStroke_49 (lv_at hl 2 rfl) ?_
        exact pw_iret C hW hS dX6_quarrelStroke_51 hF
theorem kb_X6_quarrelStroke_l12 (C : ps_C p s m args meth c cX6_quarrelStroke 6 RX6 ((some .int)) "quarrelStroke" D Y B) {q : Int32 × ps_M}  : ∀ (n : Nat) (M : ps_M) (H : Heap) (locs : List Loc) (ls : Array Slot) (a0 : Nat) (a1 : Nat) (x5 : Int32), f_X6_quarrelStroke_l12 n M a0 a1 x5 = some q → ps_W D Y B M H → va_S (fun q => B ≤ q) s.heap H locs → lv_has ls 6 [(0, .ref (B + a0)), (1, .ref (B + a1)), (5, .int x5)] → W p l e rm_X6_quarrelStroke s m args below meth c H locs 0 0 (ps_Qi D Y B below args s 0 0 q) (F0 m 12 ls []) := by
  intro n
  induction n with
  | zero => intro M H locs ls a0 a1 x5 hF; cases hF
  | succ n ih => intro M H locs ls a0 a1 x5 hF hW hS hl; exact kb_X6_quarrelStroke_w12 C  (f_X6_quarrelStroke_l12 n) ih hF hW hS hl
set_option maxRecDepth 100000 in
set_option maxHeartbeats 4000000 in
theorem kb_X6_quarrelStroke (C : ps_C p s m args meth c cX6_quarrelStroke 6 RX6 ((some .int)) "quarrelStroke" D Y B) {q : Int32 × ps_M}  {M : ps_M} {a0 : Nat} {a1 : Nat} {a2 : Nat} {x3 : Int32} {x4 : Int32} (hF : f_X6_quarrelStroke M a0 a1 a2 x3 x4 = some q) (hW : ps_W D Y B M H) (hS : va_S (fun q => B ≤ q) s.heap H locs) (hl : lv_has ls 6 [(0, .ref (B + a0)), (1, .ref (B + a1)), (2, .ref (B + a2)), (3, .int x3), (4, .int x4)]) : W p l e rm_X6_quarrelStroke s m args below meth c H locs 0 0 (ps_Qi D Y B below args s 0 0 q) (F0 m 0 ls []) := by
  have hx := C.1
  have hb := C.2.1
  have hml := C.2.2.1
  have hown := C.2.2.2.1
  have hts := C.2.2.2.2.1
  unfold f_X6_quarrelStroke at hF
  refine lv_aload_n hx hb dX6_quarrelStroke_0 rfl (lv_at hl 0 rfl) ?_
  refine lv_aload_n hx hb dX6_quarrelStroke_1 rfl (lv_at hl 1 rfl) ?_
  refine lv_aload_n hx hb dX6_quarrelStroke_2 rfl (lv_at hl 2 rfl) ?_
  refine lv_iload_n hx hb dX6_quarrelStroke_3 rfl (lv_at hl 3 rfl) ?_
  refine lv_iload hx hb dX6_quarrelStroke_4 (lv_at hl 4 rfl) ?_
  obtain ⟨hK, hF⟩ := ps_ck_some hF
  obtain ⟨M9, hc, hF⟩ := ps_b1_some hF
  refine ps_backV (M' := M9) hS (ps_callV C hW pc_5 mf_X6_begin tq_736 tq_22 tq_734 ⟨Nat.le_of_ble_eq_true rfl, Nat.le_of_ble_eq_true rfl⟩ rfl rfl (As := [.ref (B + a1), .ref (B + a2), .int x3, .int x4]) (rest := []) (c_X6_begin hc) hK rfl hl.1 rfl (Nat.le_of_ble_eq_true rfl) dX6_quarrelStroke_6 ⟨Nat.le_of_ble_eq_true rfl, Nat.le_of_ble_eq_true rfl⟩) (fun H locs hW hS => ?_)
  clear hc
  generalize M9 = M at hW hF
  refine lv_iconst (v := 1) hx hb dX6_quarrelStroke_9 (by decide) ?_
  refine lv_istore (lv' := [(5, .int (1 : Int32)), (0, .ref (B + a0)), (1, .ref (B + a1)), (2, .ref (B + a2)), (3, .int x3), (4, .int x4)]) hx hb dX6_quarrelStroke_10 hl (by decide) rfl (fun ls hl => ?_)
  exact kb_X6_quarrelStroke_l12 C ps_fu M _ _ _ a0 a1 (1 : Int32) hF hW hS (lv_sub hl [1, 2, 0] rfl)
theorem mf_X6_quarrelStroke : ps_mf yX6_quarrelStroke cX6_quarrelStroke 6 ((some .int)) 4 := ⟨tq_757, tq_68, by decide +kernel, by decide +kernel, by decide +kernel⟩
theorem c_X6_quarrelStroke {l : Launch} {D : va_G} {Y : ps_A} {B : Nat} {M : ps_M} {a0 : Nat} {a1 : Nat} {a2 : Nat} {x3 : Int32} {x4 : Int32} {r : Int32} {M' : ps_M} (hF : f_X6_quarrelStroke M a0 a1 a2 x3 x4 = some (r, M')) : Met l yX6_quarrelStroke (Cond.code yX6_quarrelStroke cX6_quarrelStroke 6 ((some .int)) :: tb_G) rm_X6_quarrelStroke (ps_PB D Y B M [.ref (B + a0), .ref (B + a1), .ref (B + a2), .int x3, .int x4]) (va_Qi (fun x (_ : Unit) => x = r) (fun _ t => ps_St D Y B M' t) (fun q => B ≤ q)) 0 0 (fun q => B ≤ q) :=
  pm_of (by decide +kernel) (Nat.le_of_ble_eq_true rfl) (fun p e s m args below meth c C hW hS ls hl => kb_X6_quarrelStroke C hF hW hS hl)

end
