section
variable {p : Program} {l : Launch} {e : Env} {s : State} {m : MethodId} {args : Array Value} {below : List Frame} {meth : Method} {c : Code} {H : Heap} {locs : List Loc} {ls : Array Slot} {D : va_G} {Y : ps_A} {B : Nat}
abbrev rm_X9_wood : Room := { frames := 1, cells := 0, slots := 0, locals := 21 }
def f_X9_wood_b31 (M : ps_M) (t0 : Int32) : Option (Int32 × ps_M) := some (t0, M)
def f_X9_wood_b15 (M : ps_M)  : Option (Int32 × ps_M) := f_X9_wood_b31 M (-1000000001 : Int32)
def f_X9_wood (M : ps_M) (a0 : Nat) (x1 : Int32) : Option (Int32 × ps_M) := if x1 < 0 then (f_X9_wood_b15 M ) else (ps_gR M a0 8 0 (fun av2 => ps_gI M av2 7 0 (fun xv3 => if x1 < xv3 then (ps_gR M a0 8 0 (fun av5 => ps_gR M av5 7 6 (fun av6 => ps_b2 (f_X4_at M av6 x1) (fun xv7 M => f_X9_wood_b31 M xv7)))) else (f_X9_wood_b15 M ))))
set_option maxRecDepth 100000 in
set_option maxHeartbeats 4000000 in
theorem kb_X9_wood_b31 (C : ps_C p s m args meth c cX9_wood 2 RX9 ((some .int)) "wood" D Y B) {q : Int32 × ps_M}  {M : ps_M} {t0 : Int32} (hF : f_X9_wood_b31 M t0 = some q) (hW : ps_W D Y B M H) (hS : va_S (fun q => B ≤ q) s.heap H locs) (hl : lv_has ls 2 []) : W p l e rm_X9_wood s m args below meth c H locs 0 0 (ps_Qi D Y B below args s 0 0 q) (F0 m 31 ls [.int t0]) := by
  have hx := C.1
  have hb := C.2.1
  have hml := C.2.2.1
  have hown := C.2.2.2.1
  have hts := C.2.2.2.2.1
  unfold f_X9_wood_b31 at hF
  exact pw_iret C hW hS dX9_wood_31 hF
set_option maxRecDepth 100000 in
set_option maxHeartbeats 4000000 in
theorem kb_X9_wood_b15 (C : ps_C p s m args meth c cX9_wood 2 RX9 ((some .int)) "wood" D Y B) {q : Int32 × ps_M}  {M : ps_M}  (hF : f_X9_wood_b15 M  = some q) (hW : ps_W D Y B M H) (hS : va_S (fun q => B ≤ q) s.heap H locs) (hl : lv_has ls 2 []) : W p l e rm_X9_wood s m args below meth c H locs 0 0 (ps_Qi D Y B below args s 0 0 q) (F0 m 15 ls []) := by
  have hx := C.1
  have hb := C.2.1
  have hml := C.2.2.1
  have hown := C.2.2.2.1
  have hts := C.2.2.2.2.1
  unfold f_X9_wood_b15 at hF
  refine lv_ldc (v := -1000000001) hx hb hown (hts _ tq_547) dX9_wood_15 ?_
  refine lv_goto (tgt := 31) hx hb dX9_wood_17 (by decide) ?_
  exact kb_X9_wood_b31 C hF hW hS (lv_sub hl [] rfl)
set_option maxRecDepth 100000 in
set_option maxHeartbeats 4000000 in
theorem kb_X9_wood (C : ps_C p s m args meth c cX9_wood 2 RX9 ((some .int)) "wood" D Y B) {q : Int32 × ps_M}  {M : ps_M} {a0 : Nat} {x1 : Int32} (hF : f_X9_wood M a0 x1 = some q) (hW : ps_W D Y B M H) (hS : va_S (fun q => B ≤ q) s.heap H locs) (hl : lv_has ls 2 [(0, .ref (B + a0)), (1, .int x1)]) : W p l e rm_X9_wood s m args below meth c H locs 0 0 (ps_Qi D Y B below args s 0 0 q) (F0 m 0 ls []) := by
  have hx := C.1
  have hb := C.2.1
  have hml := C.2.2.1
  have hown := C.2.2.2.1
  have hts := C.2.2.2.2.1
  unfold f_X9_wood at hF
  refine lv_iload_n hx hb dX9_wood_0 rfl (lv_at hl 1 rfl) ?_
  refine lv_if_lt (tgt := 15) hx hb dX9_wood_1 (by decide) (fun hv1 => ?_) (fun hv1 => ?_)
  · replace hF := (if_pos hv1).symm.trans hF
    exact kb_X9_wood_b15 C hF hW hS (lv_sub hl [] rfl)
  · replace hF := (if_neg hv1).symm.trans hF
    refine lv_iload_n hx hb dX9_wood_4 rfl (lv_at hl 1 rfl) ?_
    refine lv_aload_n hx hb dX9_wood_5 rfl (lv_at hl 0 rfl) ?_
    refine pw_gR C hW pc_8 (k := 0) (by decide) rfl tq_396 dX9_wood_6 hF (fun av2 hF => ?_)
    refine pw_gI C hW pc_7 (k := 0) (by decide) rfl tq_89 dX9_wood_9 hF (fun xv3 hF => ?_)
    refine lv_icmp_lt (tgt := 20) hx hb dX9_wood_12 (by decide) (fun hv4 => ?_) (fun hv4 => ?_)
    · replace hF := (if_pos hv4).symm.trans hF
      refine lv_aload_n hx hb dX9_wood_20 rfl (lv_at hl 0 rfl) ?_
      refine pw_gR C hW pc_8 (k := 0) (by decide) rfl tq_396 dX9_wood_21 hF (fun av5 hF => ?_)
      refine pw_gR C hW pc_7 (k := 6) (by decide) rfl tq_113 dX9_wood_24 hF (fun av6 hF => ?_)
      refine lv_iload_n hx hb dX9_wood_27 rfl (lv_at hl 1 rfl) ?_
      obtain ⟨xv7, M9, hc, hF⟩ := ps_b2_some hF
      refine ps_backI (x0 := xv7) (M' := M9) hS (ps_callS C hW mf_X4_at tq_549 tq_548 ⟨Nat.le_of_ble_eq_true rfl, Nat.le_of_ble_eq_true rfl⟩ rfl rfl (As := [.ref (B + av6), .int x1]) (rest := []) (c_X4_at hc) rfl hl.1 rfl (Nat.le_of_ble_eq_true rfl) dX9_wood_28 ⟨Nat.le_of_ble_eq_true rfl, Nat.le_of_ble_eq_true rfl⟩) (fun H locs hW hS => ?_)
      clear hc
      generalize M9 = M at hW hF
      exact kb_X9_wood_b31 C hF hW hS (lv_sub hl [] rfl)
    · replace hF := (if_neg hv4).symm.trans hF
      exact kb_X9_wood_b15 C hF hW hS (lv_sub hl [] rfl)
theorem mf_X9_wood : ps_mf yX9_wood cX9_wood 2 ((some .int)) 1 := ⟨tq_546, tq_61, by decide +kernel, by decide +kernel, by decide +kernel⟩
theorem c_X9_wood {l : Launch} {D : va_G} {Y : ps_A} {B : Nat} {M : ps_M} {a0 : Nat} {x1 : Int32} {r : Int32} {M' : ps_M} (hF : f_X9_wood M a0 x1 = some (r, M')) : Met l yX9_wood (Cond.code yX9_wood cX9_wood 2 ((some .int)) :: tb_G) rm_X9_wood (ps_PB D Y B M [.ref (B + a0), .int x1]) (va_Qi (fun x (_ : Unit) => x = r) (fun _ t => ps_St D Y B M' t) (fun q => B ≤ q)) 0 0 (fun q => B ≤ q) :=
  pm_of (by decide +kernel) (Nat.le_of_ble_eq_true rfl) (fun p e s m args below meth c C hW hS ls hl => kb_X9_wood C hF hW hS hl)

abbrev rm_X9_person : Room := { frames := 1, cells := 0, slots := 0, locals := 21 }
def f_X9_person (M : ps_M) (a0 : Nat) (x1 : Int32) (x2 : Int32) : Option (Int32 × ps_M) := ps_gR M a0 8 0 (fun av1 => ps_ck M av1 7 (ps_b2 (f_X8_hasPerson M av1 x1) (fun xv2 M => if xv2 = 0 then (some ((-1000000001 : Int32), M)) else (if x2 = 0 then (ps_gR M a0 8 0 (fun av12 => ps_gR M av12 7 7 (fun av13 => ps_b2 (f_X4_at M av13 x1) (fun xv14 M => some (xv14, M))))) else (if x2 = 1 then (ps_gR M a0 8 0 (fun av15 => ps_gR M av15 7 8 (fun av16 => ps_b2 (f_X4_at M av16 x1) (fun xv17 M => some (xv17, M))))) else (if x2 = 2 then (ps_gR M a0 8 0 (fun av18 => ps_gR M av18 7 9 (fun av19 => ps_b2 (f_X4_at M av19 x1) (fun xv20 M => some (xv20, M))))) else (if x2 = 3 then (ps_gR M a0 8 2 (fun av21 => ps_gR M av21 6 10 (fun av22 => ps_b2 (f_X4_at M av22 x1) (fun xv23 M => some (xv23, M))))) else (if x2 = 4 then (ps_gR M a0 8 0 (fun av24 => ps_gR M av24 7 11 (fun av25 => ps_b2 (f_X4_at M av25 x1) (fun xv26 M => some (xv26, M))))) else (if x2 = 5 then (ps_gR M a0 8 2 (fun av27 => ps_gR M av27 6 9 (fun av28 => ps_b2 (f_X4_at M av28 x1) (fun xv29 M => some (xv29, M))))) else (if x2 = 6 then (ps_gR M a0 8 2 (fun av30 => ps_gR M av30 6 11 (fun av31 => ps_b2 (f_X4_at M av31 x1) (fun xv32 M => some (xv32, M))))) else (if x2 = 7 then (ps_gR M a0 8 2 (fun av33 => ps_gR M av33 6 12 (fun av34 => ps_b2 (f_X4_at M av34 x1) (fun xv35 M => some (xv35, M))))) else (some ((-1000000002 : Int32), M)))))))))))))
set_option maxRecDepth 100000 in
set_option maxHeartbeats 4000000 in
theorem kb_X9_person (C : ps_C p s m args meth c cX9_person 3 RX9 ((some .int)) "person" D Y B) {q : Int32 × ps_M}  {M : ps_M} {a0 : Nat} {x1 : Int32} {x2 : Int32} (hF : f_X9_person M a0 x1 x2 = some q) (hW : ps_W D Y B M H) (hS : va_S (fun q => B ≤ q) s.heap H locs) (hl : lv_has ls 3 [(0, .ref (B + a0)), (1, .int x1), (2, .int x2)]) : W p l e rm_X9_person s m args below meth c H locs 0 0 (ps_Qi D Y B below args s 0 0 q) (F0 m 0 ls []) := by
  have hx := C.1
  have hb := C.2.1
  have hml := C.2.2.1
  have hown := C.2.2.2.1
  have hts := C.2.2.2.2.1
  unfold f_X9_person at hF
  refine lv_aload_n hx hb dX9_person_0 rfl (lv_at hl 0 rfl) ?_
  refine pw_gR C hW pc_8 (k := 0) (by decide) rfl tq_396 dX9_person_1 hF (fun av1 hF => ?_)
  refine lv_iload_n hx hb dX9_person_4 rfl (lv_at hl 1 rfl) ?_
  obtain ⟨hK, hF⟩ := ps_ck_some hF
  obtain ⟨xv2, M9, hc, hF⟩ := ps_b2_some hF
  refine ps_backI (x0 := xv2) (M' := M9) hS (ps_callV C hW pc_7 mf_X8_hasPerson tq_556 tq_557 tq_555 ⟨Nat.le_of_ble_eq_true rfl, Nat.le_of_ble_eq_true rfl⟩ rfl rfl (As := [.int x1]) (rest := []) (c_X8_hasPerson hc) hK rfl hl.1 rfl (Nat.le_of_ble_eq_true rfl) dX9_person_5 ⟨Nat.le_of_ble_eq_true rfl, Nat.le_of_ble_eq_true rfl⟩) (fun H locs hW hS => ?_)
  clear hc
  generalize M9 = M at hW hF
  refine lv_if_ne (tgt := 14) hx hb dX9_person_8 (by decide) (fun hv3 => ?_) (fun hv3 => ?_)
  · replace hF := (if_neg hv3).symm.trans hF
    refine lv_iload_n hx hb dX9_person_14 rfl (lv_at hl 2 rfl) ?_
    by_cases hv4 : x2 = 0
    · replace hF := (if_pos hv4).symm.trans hF
      refine lv_tableIn (tgt := 60) hx hb dX9_person_15 (by rw [hv4]; decide) (by rw [hv4]; decide) (by rw [hv4]; rfl) (by decide) ?_
      refine lv_aload_n hx hb dX9_person_60 rfl (lv_at hl 0 rfl) ?_
      refine pw_gR C hW pc_8 (k := 0) (by decide) rfl tq_396 dX9_person_61 hF (fun av12 hF => ?_)
      refine pw_gR C hW pc_7 (k := 7) (by decide) rfl tq_119 dX9_person_64 hF (fun av13 hF => ?_)
      refine lv_iload_n hx hb dX9_person_67 rfl (lv_at hl 1 rfl) ?_
      obtain ⟨xv14, M9, hc, hF⟩ := ps_b2_some hF
      refine ps_backI (x0 := xv14) (M' := M9) hS (ps_callS C hW mf_X4_at tq_549 tq_548 ⟨Nat.le_of_ble_eq_true rfl, Nat.le_of_ble_eq_true rfl⟩ rfl rfl (As := [.ref (B + av13), .int x1]) (rest := []) (c_X4_at hc) rfl hl.1 rfl (Nat.le_of_ble_eq_true rfl) dX9_person_68 ⟨Nat.le_of_ble_eq_true rfl, Nat.le_of_ble_eq_true rfl⟩) (fun H locs hW hS => ?_)
      clear hc
      generalize M9 = M at hW hF
      exact pw_iret C hW hS dX9_person_71 hF
    replace hF := (if_neg hv4).symm.trans hF
    by_cases hv5 : x2 = 1
    · replace hF := (if_pos hv5).symm.trans hF
      refine lv_tableIn (tgt := 72) hx hb dX9_person_15 (by rw [hv5]; decide) (by rw [hv5]; decide) (by rw [hv5]; rfl) (by decide) ?_
      refine lv_aload_n hx hb dX9_person_72 rfl (lv_at hl 0 rfl) ?_
      refine pw_gR C hW pc_8 (k := 0) (by decide) rfl tq_396 dX9_person_73 hF (fun av15 hF => ?_)
      refine pw_gR C hW pc_7 (k := 8) (by decide) rfl tq_123 dX9_person_76 hF (fun av16 hF => ?_)
      refine lv_iload_n hx hb dX9_person_79 rfl (lv_at hl 1 rfl) ?_
      obtain ⟨xv17, M9, hc, hF⟩ := ps_b2_some hF
      refine ps_backI (x0 := xv17) (M' := M9) hS (ps_callS C hW mf_X4_at tq_549 tq_548 ⟨Nat.le_of_ble_eq_true rfl, Nat.le_of_ble_eq_true rfl⟩ rfl rfl (As := [.ref (B + av16), .int x1]) (rest := []) (c_X4_at hc) rfl hl.1 rfl (Nat.le_of_ble_eq_true rfl) dX9_person_80 ⟨Nat.le_of_ble_eq_true rfl, Nat.le_of_ble_eq_true rfl⟩) (fun H locs hW hS => ?_)
      clear hc
      generalize M9 = M at hW hF
      exact pw_iret C hW hS dX9_person_83 hF
    replace hF := (if_neg hv5).symm.trans hF
    by_cases hv6 : x2 = 2
    · replace hF := (if_pos hv6).symm.trans hF
      refine lv_tableIn (tgt := 84) hx hb dX9_person_15 (by rw [hv6]; decide) (by rw [hv6]; decide) (by rw [hv6]; rfl) (by decide) ?_
      refine lv_aload_n hx hb dX9_person_84 rfl (lv_at hl 0 rfl) ?_
      refine pw_gR C hW pc_8 (k := 0) (by decide) rfl tq_396 dX9_person_85 hF (fun av18 hF => ?_)
      refine pw_gR C hW pc_7 (k := 9) (by decide) rfl tq_126 dX9_person_88 hF (fun av19 hF => ?_)
      refine lv_iload_n hx hb dX9_person_91 rfl (lv_at hl 1 rfl) ?_
      obtain ⟨xv20, M9, hc, hF⟩ := ps_b2_some hF
      refine ps_backI (x0 := xv20) (M' := M9) hS (ps_callS C hW mf_X4_at tq_549 tq_548 ⟨Nat.le_of_ble_eq_true rfl, Nat.le_of_ble_eq_true rfl⟩ rfl rfl (As := [.ref (B + av19), .int x1]) (rest := []) (c_X4_at hc) rfl hl.1 rfl (Nat.le_of_ble_eq_true rfl) dX9_person_92 ⟨Nat.le_of_ble_eq_true rfl, Nat.le_of_ble_eq_true rfl⟩) (fun H locs hW hS => ?_)
      clear hc
      generalize M9 = M at hW hF
      exact pw_iret C hW hS dX9_person_95 hF
    replace hF := (if_neg hv6).symm.trans hF
    by_cases hv7 : x2 = 3
    · replace hF := (if_pos hv7).symm.trans hF
      refine lv_tableIn (tgt := 96) hx hb dX9_person_15 (by rw [hv7]; decide) (by rw [hv7]; decide) (by rw [hv7]; rfl) (by decide) ?_
      refine lv_aload_n hx hb dX9_person_96 rfl (lv_at hl 0 rfl) ?_
      refine pw_gR C hW pc_8 (k := 2) (by decide) rfl tq_398 dX9_person_97 hF (fun av21 hF => ?_)
      refine pw_gR C hW pc_6 (k := 10) (by decide) rfl tq_247 dX9_person_100 hF (fun av22 hF => ?_)
      refine lv_iload_n hx hb dX9_person_103 rfl (lv_at hl 1 rfl) ?_
      obtain ⟨xv23, M9, hc, hF⟩ := ps_b2_some hF
      refine ps_backI (x0 := xv23) (M' := M9) hS (ps_callS C hW mf_X4_at tq_549 tq_548 ⟨Nat.le_of_ble_eq_true rfl, Nat.le_of_ble_eq_true rfl⟩ rfl rfl (As := [.ref (B + av22), .int x1]) (rest := []) (c_X4_at hc) rfl hl.1 rfl (Nat.le_of_ble_eq_true rfl) dX9_person_104 ⟨Nat.le_of_ble_eq_true rfl, Nat.le_of_ble_eq_true rfl⟩) (fun H locs hW hS => ?_)
      clear hc
      generalize M9 = M at hW hF
      exact pw_iret C hW hS dX9_person_107 hF
    replace hF := (if_neg hv7).symm.trans hF
    by_cases hv8 : x2 = 4
    · replace hF := (if_pos hv8).symm.trans hF
      refine lv_tableIn (tgt := 108) hx hb dX9_person_15 (by rw [hv8]; decide) (by rw [hv8]; decide) (by rw [hv8]; rfl) (by decide) ?_
      refine lv_aload_n hx hb dX9_person_108 rfl (lv_at hl 0 rfl) ?_
      refine pw_gR C hW pc_8 (k := 0) (by decide) rfl tq_396 dX9_person_109 hF (fun av24 hF => ?_)
      refine pw_gR C hW pc_7 (k := 11) (by decide) rfl tq_133 dX9_person_112 hF (fun av25 hF => ?_)
      refine lv_iload_n hx hb dX9_person_115 rfl (lv_at hl 1 rfl) ?_
      obtain ⟨xv26, M9, hc, hF⟩ := ps_b2_some hF
      refine ps_backI (x0 := xv26) (M' := M9) hS (ps_callS C hW mf_X4_at tq_549 tq_548 ⟨Nat.le_of_ble_eq_true rfl, Nat.le_of_ble_eq_true rfl⟩ rfl rfl (As := [.ref (B + av25), .int x1]) (rest := []) (c_X4_at hc) rfl hl.1 rfl (Nat.le_of_ble_eq_true rfl) dX9_person_116 ⟨Nat.le_of_ble_eq_true rfl, Nat.le_of_ble_eq_true rfl⟩) (fun H locs hW hS => ?_)
      clear hc
      generalize M9 = M at hW hF
      exact pw_iret C hW hS dX9_person_119 hF
    replace hF := (if_neg hv8).symm.trans hF
    by_cases hv9 : x2 = 5
    · replace hF := (if_pos hv9).symm.trans hF
      refine lv_tableIn (tgt := 120) hx hb dX9_person_15 (by rw [hv9]; decide) (by rw [hv9]; decide) (by rw [hv9]; rfl) (by decide) ?_
      refine lv_aload_n hx hb dX9_person_120 rfl (lv_at hl 0 rfl) ?_
      refine pw_gR C hW pc_8 (k := 2) (by decide) rfl tq_398 dX9_person_121 hF (fun av27 hF => ?_)
      refine pw_gR C hW pc_6 (k := 9) (by decide) rfl tq_245 dX9_person_124 hF (fun av28 hF => ?_)
      refine lv_iload_n hx hb dX9_person_127 rfl (lv_at hl 1 rfl) ?_
      obtain ⟨xv29, M9, hc, hF⟩ := ps_b2_some hF
      refine ps_backI (x0 := xv29) (M' := M9) hS (ps_callS C hW mf_X4_at tq_549 tq_548 ⟨Nat.le_of_ble_eq_true rfl, Nat.le_of_ble_eq_true rfl⟩ rfl rfl (As := [.ref (B + av28), .int x1]) (rest := []) (c_X4_at hc) rfl hl.1 rfl (Nat.le_of_ble_eq_true rfl) dX9_person_128 ⟨Nat.le_of_ble_eq_true rfl, Nat.le_of_ble_eq_true rfl⟩) (fun H locs hW hS => ?_)
      clear hc
      generalize M9 = M at hW hF
      exact pw_iret C hW hS dX9_person_131 hF
    replace hF := (if_neg hv9).symm.trans hF
    by_cases hv10 : x2 = 6
    · replace hF := (if_pos hv10).symm.trans hF
      refine lv_tableIn (tgt := 132) hx hb dX9_person_15 (by rw [hv10]; decide) (by rw [hv10]; decide) (by rw [hv10]; rfl) (by decide) ?_
      refine lv_aload_n hx hb dX9_person_132 rfl (lv_at hl 0 rfl) ?_
      refine pw_gR C hW pc_8 (k := 2) (by decide) rfl tq_398 dX9_person_133 hF (fun av30 hF => ?_)
      refine pw_gR C hW pc_6 (k := 11) (by decide) rfl tq_251 dX9_person_136 hF (fun av31 hF => ?_)
      refine lv_iload_n hx hb dX9_person_139 rfl (lv_at hl 1 rfl) ?_
      obtain ⟨xv32, M9, hc, hF⟩ := ps_b2_some hF
      refine ps_backI (x0 := xv32) (M' := M9) hS (ps_callS C hW mf_X4_at tq_549 tq_548 ⟨Nat.le_of_ble_eq_true rfl, Nat.le_of_ble_eq_true rfl⟩ rfl rfl (As := [.ref (B + av31), .int x1]) (rest := []) (c_X4_at hc) rfl hl.1 rfl (Nat.le_of_ble_eq_true rfl) dX9_person_140 ⟨Nat.le_of_ble_eq_true rfl, Nat.le_of_ble_eq_true rfl⟩) (fun H locs hW hS => ?_)
      clear hc
      generalize M9 = M at hW hF
      exact pw_iret C hW hS dX9_person_143 hF
    replace hF := (if_neg hv10).symm.trans hF
    by_cases hv11 : x2 = 7
    · replace hF := (if_pos hv11).symm.trans hF
      refine lv_tableIn (tgt := 144) hx hb dX9_person_15 (by rw [hv11]; decide) (by rw [hv11]; decide) (by rw [hv11]; rfl) (by decide) ?_
      refine lv_aload_n hx hb dX9_person_144 rfl (lv_at hl 0 rfl) ?_
      refine pw_gR C hW pc_8 (k := 2) (by decide) rfl tq_398 dX9_person_145 hF (fun av33 hF => ?_)
      refine pw_gR C hW pc_6 (k := 12) (by decide) rfl tq_254 dX9_person_148 hF (fun av34 hF => ?_)
      refine lv_iload_n hx hb dX9_person_151 rfl (lv_at hl 1 rfl) ?_
      obtain ⟨xv35, M9, hc, hF⟩ := ps_b2_some hF
      refine ps_backI (x0 := xv35) (M' := M9) hS (ps_callS C hW mf_X4_at tq_549 tq_548 ⟨Nat.le_of_ble_eq_true rfl, Nat.le_of_ble_eq_true rfl⟩ rfl rfl (As := [.ref (B + av34), .int x1]) (rest := []) (c_X4_at hc) rfl hl.1 rfl (Nat.le_of_ble_eq_true rfl) dX9_person_152 ⟨Nat.le_of_ble_eq_true rfl, Nat.le_of_ble_eq_true rfl⟩) (fun H locs hW hS => ?_)
      clear hc
      generalize M9 = M at hW hF
      exact pw_iret C hW hS dX9_person_155 hF
    replace hF := (if_neg hv11).symm.trans hF
    refine lv_tableOut (tgt := 156) hx hb dX9_person_15 (by have := ps_tn hv4 (z := 0) rfl; have := ps_tn hv5 (z := 1) rfl; have := ps_tn hv6 (z := 2) rfl; have := ps_tn hv7 (z := 3) rfl; have := ps_tn hv8 (z := 4) rfl; have := ps_tn hv9 (z := 5) rfl; have := ps_tn hv10 (z := 6) rfl; have := ps_tn hv11 (z := 7) rfl; omega) (by decide) ?_
    refine lv_ldc (v := -1000000002) hx hb hown (hts _ tq_434) dX9_person_156 ?_
    exact pw_iret C hW hS dX9_person_158 hF
  · replace hF := (if_pos hv3).symm.trans hF
    refine lv_ldc (v := -1000000001) hx hb hown (hts _ tq_547) dX9_person_11 ?_
    exact pw_iret C hW hS dX9_person_13 hF
theorem mf_X9_person : ps_mf yX9_person cX9_person 3 ((some .int)) 2 := ⟨tq_554, tq_61, by decide +kernel, by decide +kernel, by decide +kernel⟩
theorem c_X9_person {l : Launch} {D : va_G} {Y : ps_A} {B : Nat} {M : ps_M} {a0 : Nat} {x1 : Int32} {x2 : Int32} {r : Int32} {M' : ps_M} (hF : f_X9_person M a0 x1 x2 = some (r, M')) : Met l yX9_person (Cond.code yX9_person cX9_person 3 ((some .int)) :: tb_G) rm_X9_person (ps_PB D Y B M [.ref (B + a0), .int x1, .int x2]) (va_Qi (fun x (_ : Unit) => x = r) (fun _ t => ps_St D Y B M' t) (fun q => B ≤ q)) 0 0 (fun q => B ≤ q) :=
  pm_of (by decide +kernel) (Nat.le_of_ble_eq_true rfl) (fun p e s m args below meth c C hW hS ls hl => kb_X9_person C hF hW hS hl)

abbrev rm_X9_refusalOfTwo : Room := { frames := 2, cells := 0, slots := 0, locals := 43 }
def f_X9_refusalOfTwo_b33 (M : ps_M) (t0 : Int32) : Option (Int32 × ps_M) := some (t0, M)
def f_X9_refusalOfTwo (M : ps_M) (a0 : Nat) (x1 : Int32) (x2 : Int32) : Option (Int32 × ps_M) := ps_gR M a0 8 0 (fun av1 => ps_ck M av1 7 (ps_b2 (f_X8_hasTwo M av1 x1 x2) (fun xv2 M => if xv2 = 0 then (f_X9_refusalOfTwo_b33 M (-1000000001 : Int32)) else (ps_gR M a0 8 0 (fun av4 => ps_gI M av4 7 0 (fun xv5 => if xv5 = 0 then (f_X9_refusalOfTwo_b33 M (-1000000003 : Int32)) else (f_X9_refusalOfTwo_b33 M (0 : Int32))))))))
set_option maxRecDepth 100000 in
set_option maxHeartbeats 4000000 in
theorem kb_X9_refusalOfTwo_b33 (C : ps_C p s m args meth c cX9_refusalOfTwo 3 RX9 ((some .int)) "refusalOfTwo" D Y B) {q : Int32 × ps_M}  {M : ps_M} {t0 : Int32} (hF : f_X9_refusalOfTwo_b33 M t0 = some q) (hW : ps_W D Y B M H) (hS : va_S (fun q => B ≤ q) s.heap H locs) (hl : lv_has ls 3 []) : W p l e rm_X9_refusalOfTwo s m args below meth c H locs 0 0 (ps_Qi D Y B below args s 0 0 q) (F0 m 33 ls [.int t0]) := by
  have hx := C.1
  have hb := C.2.1
  have hml := C.2.2.1
  have hown := C.2.2.2.1
  have hts := C.2.2.2.2.1
  unfold f_X9_refusalOfTwo_b33 at hF
  exact pw_iret C hW hS dX9_refusalOfTwo_33 hF
set_option maxRecDepth 100000 in
set_option maxHeartbeats 4000000 in
theorem kb_X9_refusalOfTwo (C : ps_C p s m args meth c cX9_refusalOfTwo 3 RX9 ((some .int)) "refusalOfTwo" D Y B) {q : Int32 × ps_M}  {M : ps_M} {a0 : Nat} {x1 : Int32} {x2 : Int32} (hF : f_X9_refusalOfTwo M a0 x1 x2 = some q) (hW : ps_W D Y B M H) (hS : va_S (fun q => B ≤ q) s.heap H locs) (hl : lv_has ls 3 [(0, .ref (B + a0)), (1, .int x1), (2, .int x2)]) : W p l e rm_X9_refusalOfTwo s m args below meth c H locs 0 0 (ps_Qi D Y B below args s 0 0 q) (F0 m 0 ls []) := by
  have hx := C.1
  have hb := C.2.1
  have hml := C.2.2.1
  have hown := C.2.2.2.1
  have hts := C.2.2.2.2.1
  unfold f_X9_refusalOfTwo at hF
  refine lv_aload_n hx hb dX9_refusalOfTwo_0 rfl (lv_at hl 0 rfl) ?_
  refine pw_gR C hW pc_8 (k := 0) (by decide) rfl tq_396 dX9_refusalOfTwo_1 hF (fun av1 hF => ?_)
  refine lv_iload_n hx hb dX9_refusalOfTwo_4 rfl (lv_at hl 1 rfl) ?_
  refine lv_iload_n hx hb dX9_refusalOfTwo_5 rfl (lv_at hl 2 rfl) ?_
  obtain ⟨hK, hF⟩ := ps_ck_some hF
  obtain ⟨xv2, M9, hc, hF⟩ := ps_b2_some hF
  refine ps_backI (x0 := xv2) (M' := M9) hS (ps_callV C hW pc_7 mf_X8_hasTwo tq_568 tq_569 tq_567 ⟨Nat.le_of_ble_eq_true rfl, Nat.le_of_ble_eq_true rfl⟩ rfl rfl (As := [.int x1, .int x2]) (rest := []) (c_X8_hasTwo hc) hK rfl hl.1 rfl (Nat.le_of_ble_eq_true rfl) dX9_refusalOfTwo_6 ⟨Nat.le_of_ble_eq_true rfl, Nat.le_of_ble_eq_true rfl⟩) (fun H locs hW hS => ?_)
  clear hc
  generalize M9 = M at hW hF
  refine lv_if_ne (tgt := 17) hx hb dX9_refusalOfTwo_9 (by decide) (fun hv3 => ?_) (fun hv3 => ?_)
  · replace hF := (if_neg hv3).symm.trans hF
    refine lv_aload_n hx hb dX9_refusalOfTwo_17 rfl (lv_at hl 0 rfl) ?_
    refine pw_gR C hW pc_8 (k := 0) (by decide) rfl tq_396 dX9_refusalOfTwo_18 hF (fun av4 hF => ?_)
    refine pw_gI C hW pc_7 (k := 0) (by decide) rfl tq_89 dX9_refusalOfTwo_21 hF (fun xv5 hF => ?_)
    refine lv_if_ne (tgt := 32) hx hb dX9_refusalOfTwo_24 (by decide) (fun hv6 => ?_) (fun hv6 => ?_)
    · replace hF := (if_neg hv6).symm.trans hF
      refine lv_iconst (v := 0) hx hb dX9_refusalOfTwo_32 (by decide) ?_
      exact kb_X9_refusalOfTwo_b33 C hF hW hS (lv_sub hl [] rfl)
    · replace hF := (if_pos hv6).symm.trans hF
      refine lv_ldc (v := -1000000003) hx hb hown (hts _ tq_572) dX9_refusalOfTwo_27 ?_
      refine lv_goto (tgt := 33) hx hb dX9_refusalOfTwo_29 (by decide) ?_
      exact kb_X9_refusalOfTwo_b33 C hF hW hS (lv_sub hl [] rfl)
  · replace hF := (if_pos hv3).symm.trans hF
    refine lv_ldc (v := -1000000001) hx hb hown (hts _ tq_547) dX9_refusalOfTwo_12 ?_
    refine lv_goto (tgt := 33) hx hb dX9_refusalOfTwo_14 (by decide) ?_
    exact kb_X9_refusalOfTwo_b33 C hF hW hS (lv_sub hl [] rfl)
theorem mf_X9_refusalOfTwo : ps_mf yX9_refusalOfTwo cX9_refusalOfTwo 3 ((some .int)) 2 := ⟨tq_566, tq_61, by decide +kernel, by decide +kernel, by decide +kernel⟩
theorem c_X9_refusalOfTwo {l : Launch} {D : va_G} {Y : ps_A} {B : Nat} {M : ps_M} {a0 : Nat} {x1 : Int32} {x2 : Int32} {r : Int32} {M' : ps_M} (hF : f_X9_refusalOfTwo M a0 x1 x2 = some (r, M')) : Met l yX9_refusalOfTwo (Cond.code yX9_refusalOfTwo cX9_refusalOfTwo 3 ((some .int)) :: tb_G) rm_X9_refusalOfTwo (ps_PB D Y B M [.ref (B + a0), .int x1, .int x2]) (va_Qi (fun x (_ : Unit) => x = r) (fun _ t => ps_St D Y B M' t) (fun q => B ≤ q)) 0 0 (fun q => B ≤ q) :=
  pm_of (by decide +kernel) (Nat.le_of_ble_eq_true rfl) (fun p e s m args below meth c C hW hS ls hl => kb_X9_refusalOfTwo C hF hW hS hl)

abbrev rm_X9_log : Room := { frames := 3, cells := 0, slots := 0, locals := 65 }
def f_X9_log (M : ps_M) (a0 : Nat) (x1 : Int32) (x2 : Int32) : Option (Int32 × ps_M) := ps_ck M a0 8 (ps_b2 (f_X9_refusalOfTwo M a0 x1 x2) (fun xv1 M => if xv1 = 0 then (ps_gR M a0 8 2 (fun av3 => ps_ck M av3 6 (ps_b1 (f_X7_startLog M av3 x1 x2) (fun M => ps_gR M a0 8 3 (fun av4 => ps_ck M av4 2 (ps_b1 (f_X2_clear M av4 ) (fun M => some (x1, M)))))))) else (some (xv1, M))))
set_option maxRecDepth 100000 in
set_option maxHeartbeats 4000000 in
theorem kb_X9_log (C : ps_C p s m args meth c cX9_log 4 RX9 ((some .int)) "log" D Y B) {q : Int32 × ps_M}  {M : ps_M} {a0 : Nat} {x1 : Int32} {x2 : Int32} (hF : f_X9_log M a0 x1 x2 = some q) (hW : ps_W D Y B M H) (hS : va_S (fun q => B ≤ q) s.heap H locs) (hl : lv_has ls 4 [(0, .ref (B + a0)), (1, .int x1), (2, .int x2)]) : W p l e rm_X9_log s m args below meth c H locs 0 0 (ps_Qi D Y B below args s 0 0 q) (F0 m 0 ls []) := by
  have hx := C.1
  have hb := C.2.1
  have hml := C.2.2.1
  have hown := C.2.2.2.1
  have hts := C.2.2.2.2.1
  unfold f_X9_log at hF
  refine lv_aload_n hx hb dX9_log_0 rfl (lv_at hl 0 rfl) ?_
  refine lv_iload_n hx hb dX9_log_1 rfl (lv_at hl 1 rfl) ?_
  refine lv_iload_n hx hb dX9_log_2 rfl (lv_at hl 2 rfl) ?_
  obtain ⟨hK, hF⟩ := ps_ck_some hF
  obtain ⟨xv1, M9, hc, hF⟩ := ps_b2_some hF
  refine ps_backI (x0 := xv1) (M' := M9) hS (ps_callV C hW pc_8 mf_X9_refusalOfTwo tq_565 tq_9 tq_563 ⟨Nat.le_of_ble_eq_true rfl, Nat.le_of_ble_eq_true rfl⟩ rfl rfl (As := [.int x1, .int x2]) (rest := []) (c_X9_refusalOfTwo hc) hK rfl hl.1 rfl (Nat.le_of_ble_eq_true rfl) dX9_log_3 ⟨Nat.le_of_ble_eq_true rfl, Nat.le_of_ble_eq_true rfl⟩) (fun H locs hW hS => ?_)
  clear hc
  generalize M9 = M at hW hF
  refine lv_istore_n (lv' := [(3, .int xv1), (0, .ref (B + a0)), (1, .int x1), (2, .int x2)]) hx hb dX9_log_6 rfl hl (by decide) rfl (fun ls hl => ?_)
  refine lv_iload_n hx hb dX9_log_7 rfl (lv_at hl 0 rfl) ?_
  refine lv_if_eq (tgt := 13) hx hb dX9_log_8 (by decide) (fun hv2 => ?_) (fun hv2 => ?_)
  · replace hF := (if_pos hv2).symm.trans hF
    refine lv_aload_n hx hb dX9_log_13 rfl (lv_at hl 1 rfl) ?_
    refine pw_gR C hW pc_8 (k := 2) (by decide) rfl tq_398 dX9_log_14 hF (fun av3 hF => ?_)
    refine lv_iload_n hx hb dX9_log_17 rfl (lv_at hl 2 rfl) ?_
    refine lv_iload_n hx hb dX9_log_18 rfl (lv_at hl 3 rfl) ?_
    obtain ⟨hK, hF⟩ := ps_ck_some hF
    obtain ⟨M9, hc, hF⟩ := ps_b1_some hF
    refine ps_backV (M' := M9) hS (ps_callV C hW pc_6 mf_X7_startLog tq_515 tq_516 tq_573 ⟨Nat.le_of_ble_eq_true rfl, Nat.le_of_ble_eq_true rfl⟩ rfl rfl (As := [.int x1, .int x2]) (rest := []) (c_X7_startLog hc) hK rfl hl.1 rfl (Nat.le_of_ble_eq_true rfl) dX9_log_19 ⟨Nat.le_of_ble_eq_true rfl, Nat.le_of_ble_eq_true rfl⟩) (fun H locs hW hS => ?_)
    clear hc
    generalize M9 = M at hW hF
    refine lv_aload_n hx hb dX9_log_22 rfl (lv_at hl 1 rfl) ?_
    refine pw_gR C hW pc_8 (k := 3) (by decide) rfl tq_399 dX9_log_23 hF (fun av4 hF => ?_)
    obtain ⟨hK, hF⟩ := ps_ck_some hF
    obtain ⟨M9, hc, hF⟩ := ps_b1_some hF
    refine ps_backV (M' := M9) hS (ps_callV C hW pc_2 mf_X2_clear tq_524 tq_525 tq_523 ⟨Nat.le_of_ble_eq_true rfl, Nat.le_of_ble_eq_true rfl⟩ rfl rfl (As := []) (rest := []) (c_X2_clear hc) hK rfl hl.1 rfl (Nat.le_of_ble_eq_true rfl) dX9_log_26 ⟨Nat.le_of_ble_eq_true rfl, Nat.le_of_ble_eq_true rfl⟩) (fun H locs hW hS => ?_)
    clear hc
    generalize M9 = M at hW hF
    refine lv_iload_n hx hb dX9_log_29 rfl (lv_at hl 2 rfl) ?_
    exact pw_iret C hW hS dX9_log_30 hF
  · replace hF := (if_neg hv2).symm.trans hF
    refine lv_iload_n hx hb dX9_log_11 rfl (lv_at hl 0 rfl) ?_
    exact pw_iret C hW hS dX9_log_12 hF
theorem mf_X9_log : ps_mf yX9_log cX9_log 4 ((some .int)) 2 := ⟨tq_562, tq_61, by decide +kernel, by decide +kernel, by decide +kernel⟩
theorem c_X9_log {l : Launch} {D : va_G} {Y : ps_A} {B : Nat} {M : ps_M} {a0 : Nat} {x1 : Int32} {x2 : Int32} {r : Int32} {M' : ps_M} (hF : f_X9_log M a0 x1 x2 = some (r, M')) : Met l yX9_log (Cond.code yX9_log cX9_log 4 ((some .int)) :: tb_G) rm_X9_log (ps_PB D Y B M [.ref (B + a0), .int x1, .int x2]) (va_Qi (fun x (_ : Unit) => x = r) (fun _ t => ps_St D Y B M' t) (fun q => B ≤ q)) 0 0 (fun q => B ≤ q) :=
  pm_of (by decide +kernel) (Nat.le_of_ble_eq_true rfl) (fun p e s m args below meth c C hW hS ls hl => kb_X9_log C hF hW hS hl)

abbrev rm_X9_isWithin : Room := { frames := 0, cells := 0, slots := 0, locals := 0 }
def f_X9_isWithin_b15 (M : ps_M) (t0 : Int32) : Option (Int32 × ps_M) := ps_z t0 M
def f_X9_isWithin_b14 (M : ps_M)  : Option (Int32 × ps_M) := f_X9_isWithin_b15 M (0 : Int32)
def f_X9_isWithin (M : ps_M) (x0 : Int32) (x1 : Int32) (x2 : Int32) : Option (Int32 × ps_M) := if x0 < x1 then (f_X9_isWithin_b14 M ) else (if x2 < x0 then (f_X9_isWithin_b14 M ) else (f_X9_isWithin_b15 M (1 : Int32)))
set_option maxRecDepth 100000 in
set_option maxHeartbeats 4000000 in
theorem kb_X9_isWithin_b15 (C : ps_C p s m args meth c cX9_isWithin 3 RX9 ((some .boolean)) "isWithin" D Y B) {q : Int32 × ps_M}  {M : ps_M} {t0 : Int32} (hF : f_X9_isWithin_b15 M t0 = some q) (hW : ps_W D Y B M H) (hS : va_S (fun q => B ≤ q) s.heap H locs) (hl : lv_has ls 3 []) : W p l e rm_X9_isWithin s m args below meth c H locs 0 0 (ps_Qi D Y B below args s 0 0 q) (F0 m 15 ls [.int t0]) := by
  have hx := C.1
  have hb := C.2.1
  have hml := C.2.2.1
  have hown := C.2.2.2.1
  have hts := C.2.2.2.2.1
  unfold f_X9_isWithin_b15 at hF
  exact pw_zret C hW hS dX9_isWithin_15 hF
set_option maxRecDepth 100000 in
set_option maxHeartbeats 4000000 in
theorem kb_X9_isWithin_b14 (C : ps_C p s m args meth c cX9_isWithin 3 RX9 ((some .boolean)) "isWithin" D Y B) {q : Int32 × ps_M}  {M : ps_M}  (hF : f_X9_isWithin_b14 M  = some q) (hW : ps_W D Y B M H) (hS : va_S (fun q => B ≤ q) s.heap H locs) (hl : lv_has ls 3 []) : W p l e rm_X9_isWithin s m args below meth c H locs 0 0 (ps_Qi D Y B below args s 0 0 q) (F0 m 14 ls []) := by
  have hx := C.1
  have hb := C.2.1
  have hml := C.2.2.1
  have hown := C.2.2.2.1
  have hts := C.2.2.2.2.1
  unfold f_X9_isWithin_b14 at hF
  refine lv_iconst (v := 0) hx hb dX9_isWithin_14 (by decide) ?_
  exact kb_X9_isWithin_b15 C hF hW hS (lv_sub hl [] rfl)
set_option maxRecDepth 100000 in
set_option maxHeartbeats 4000000 in
theorem kb_X9_isWithin (C : ps_C p s m args meth c cX9_isWithin 3 RX9 ((some .boolean)) "isWithin" D Y B) {q : Int32 × ps_M}  {M : ps_M} {x0 : Int32} {x1 : Int32} {x2 : Int32} (hF : f_X9_isWithin M x0 x1 x2 = some q) (hW : ps_W D Y B M H) (hS : va_S (fun q => B ≤ q) s.heap H locs) (hl : lv_has ls 3 [(0, .int x0), (1, .int x1), (2, .int x2)]) : W p l e rm_X9_isWithin s m args below meth c H locs 0 0 (ps_Qi D Y B below args s 0 0 q) (F0 m 0 ls []) := by
  have hx := C.1
  have hb := C.2.1
  have hml := C.2.2.1
  have hown := C.2.2.2.1
  have hts := C.2.2.2.2.1
  unfold f_X9_isWithin at hF
  refine lv_iload_n hx hb dX9_isWithin_0 rfl (lv_at hl 0 rfl) ?_
  refine lv_iload_n hx hb dX9_isWithin_1 rfl (lv_at hl 1 rfl) ?_
  refine lv_icmp_lt (tgt := 14) hx hb dX9_isWithin_2 (by decide) (fun hv1 => ?_) (fun hv1 => ?_)
  · replace hF := (if_pos hv1).symm.trans hF
    exact kb_X9_isWithin_b14 C hF hW hS (lv_sub hl [] rfl)
  · replace hF := (if_neg hv1).symm.trans hF
    refine lv_iload_n hx hb dX9_isWithin_5 rfl (lv_at hl 0 rfl) ?_
    refine lv_iload_n hx hb dX9_isWithin_6 rfl (lv_at hl 2 rfl) ?_
    refine lv_icmp_gt (tgt := 14) hx hb dX9_isWithin_7 (by decide) (fun hv2 => ?_) (fun hv2 => ?_)
    · replace hF := (if_pos hv2).symm.trans hF
      exact kb_X9_isWithin_b14 C hF hW hS (lv_sub hl [] rfl)
    · replace hF := (if_neg hv2).symm.trans hF
      refine lv_iconst (v := 1) hx hb dX9_isWithin_10 (by decide) ?_
      refine lv_goto (tgt := 15) hx hb dX9_isWithin_11 (by decide) ?_
      exact kb_X9_isWithin_b15 C hF hW hS (lv_sub hl [] rfl)
theorem mf_X9_isWithin : ps_mf yX9_isWithin cX9_isWithin 3 ((some .boolean)) 3 := ⟨tq_584, tq_61, by decide +kernel, by decide +kernel, by decide +kernel⟩
theorem c_X9_isWithin {l : Launch} {D : va_G} {Y : ps_A} {B : Nat} {M : ps_M} {x0 : Int32} {x1 : Int32} {x2 : Int32} {r : Int32} {M' : ps_M} (hF : f_X9_isWithin M x0 x1 x2 = some (r, M')) : Met l yX9_isWithin (Cond.code yX9_isWithin cX9_isWithin 3 ((some .boolean)) :: tb_G) rm_X9_isWithin (ps_PB D Y B M [.int x0, .int x1, .int x2]) (va_Qi (fun x (_ : Unit) => x = r) (fun _ t => ps_St D Y B M' t) (fun q => B ≤ q)) 0 0 (fun q => B ≤ q) :=
  pm_of (by decide +kernel) (Nat.le_of_ble_eq_true rfl) (fun p e s m args below meth c C hW hS ls hl => kb_X9_isWithin C hF hW hS hl)

abbrev rm_X9_refusalOfSawing : Room := { frames := 2, cells := 0, slots := 0, locals := 41 }
def f_X9_refusalOfSawing_b45 (M : ps_M) (t0 : Int32) : Option (Int32 × ps_M) := some (t0, M)
def f_X9_refusalOfSawing_b39 (M : ps_M)  : Option (Int32 × ps_M) := f_X9_refusalOfSawing_b45 M (-1000000003 : Int32)
def f_X9_refusalOfSawing (M : ps_M) (a0 : Nat) (x1 : Int32) : Option (Int32 × ps_M) := ps_b2 (f_X9_isWithin M x1 (1 : Int32) (99 : Int32)) (fun xv1 M => if xv1 = 0 then (f_X9_refusalOfSawing_b45 M (-1000000002 : Int32)) else (ps_gR M a0 8 2 (fun av3 => ps_ck M av3 6 (ps_b2 (f_X7_hasPair M av3 ) (fun xv4 M => if xv4 = 0 then (f_X9_refusalOfSawing_b39 M ) else (ps_gR M a0 8 2 (fun av6 => ps_gR M a0 8 0 (fun av7 => ps_ck M av6 6 (ps_b2 (f_X7_isThrough M av6 av7) (fun xv8 M => if xv8 = 0 then (f_X9_refusalOfSawing_b45 M (0 : Int32)) else (f_X9_refusalOfSawing_b39 M )))))))))))
set_option maxRecDepth 100000 in
set_option maxHeartbeats 4000000 in
theorem kb_X9_refusalOfSawing_b45 (C : ps_C p s m args meth c cX9_refusalOfSawing 2 RX9 ((some .int)) "refusalOfSawing" D Y B) {q : Int32 × ps_M}  {M : ps_M} {t0 : Int32} (hF : f_X9_refusalOfSawing_b45 M t0 = some q) (hW : ps_W D Y B M H) (hS : va_S (fun q => B ≤ q) s.heap H locs) (hl : lv_has ls 2 []) : W p l e rm_X9_refusalOfSawing s m args below meth c H locs 0 0 (ps_Qi D Y B below args s 0 0 q) (F0 m 45 ls [.int t0]) := by
  have hx := C.1
  have hb := C.2.1
  have hml := C.2.2.1
  have hown := C.2.2.2.1
  have hts := C.2.2.2.2.1
  unfold f_X9_refusalOfSawing_b45 at hF
  exact pw_iret C hW hS dX9_refusalOfSawing_45 hF
set_option maxRecDepth 100000 in
set_option maxHeartbeats 4000000 in
theorem kb_X9_refusalOfSawing_b39 (C : ps_C p s m args meth c cX9_refusalOfSawing 2 RX9 ((some .int)) "refusalOfSawing" D Y B) {q : Int32 × ps_M}  {M : ps_M}  (hF : f_X9_refusalOfSawing_b39 M  = some q) (hW : ps_W D Y B M H) (hS : va_S (fun q => B ≤ q) s.heap H locs) (hl : lv_has ls 2 []) : W p l e rm_X9_refusalOfSawing s m args below meth c H locs 0 0 (ps_Qi D Y B below args s 0 0 q) (F0 m 39 ls []) := by
  have hx := C.1
  have hb := C.2.1
  have hml := C.2.2.1
  have hown := C.2.2.2.1
  have hts := C.2.2.2.2.1
  unfold f_X9_refusalOfSawing_b39 at hF
  refine lv_ldc (v := -1000000003) hx hb hown (hts _ tq_572) dX9_refusalOfSawing_39 ?_
  refine lv_goto (tgt := 45) hx hb dX9_refusalOfSawing_41 (by decide) ?_
  exact kb_X9_refusalOfSawing_b45 C hF hW hS (lv_sub hl [] rfl)
set_option maxRecDepth 100000 in
set_option maxHeartbeats 4000000 in
theorem kb_X9_refusalOfSawing (C : ps_C p s m args meth c cX9_refusalOfSawing 2 RX9 ((some .int)) "refusalOfSawing" D Y B) {q : Int32 × ps_M}  {M : ps_M} {a0 : Nat} {x1 : Int32} (hF : f_X9_refusalOfSawing M a0 x1 = some q) (hW : ps_W D Y B M H) (hS : va_S (fun q => B ≤ q) s.heap H locs) (hl : lv_has ls 2 [(0, .ref (B + a0)), (1, .int x1)]) : W p l e rm_X9_refusalOfSawing s m args below meth c H locs 0 0 (ps_Qi D Y B below args s 0 0 q) (F0 m 0 ls []) := by
  have hx := C.1
  have hb := C.2.1
  have hml := C.2.2.1
  have hown := C.2.2.2.1
  have hts := C.2.2.2.2.1
  unfold f_X9_refusalOfSawing at hF
  refine lv_iload_n hx hb dX9_refusalOfSawing_0 rfl (lv_at hl 1 rfl) ?_
  refine lv_iconst (v := 1) hx hb dX9_refusalOfSawing_1 (by decide) ?_
  refine lv_bipush (v := 99) hx hb dX9_refusalOfSawing_2 (by decide) ?_
  obtain ⟨xv1, M9, hc, hF⟩ := ps_b2_some hF
  refine ps_backI (x0 := xv1) (M' := M9) hS (ps_callS C hW mf_X9_isWithin tq_583 tq_582 ⟨Nat.le_of_ble_eq_true rfl, Nat.le_of_ble_eq_true rfl⟩ rfl rfl (As := [.int x1, .int (1 : Int32), .int (99 : Int32)]) (rest := []) (c_X9_isWithin hc) rfl hl.1 rfl (Nat.le_of_ble_eq_true rfl) dX9_refusalOfSawing_4 ⟨Nat.le_of_ble_eq_true rfl, Nat.le_of_ble_eq_true rfl⟩) (fun H locs hW hS => ?_)
  clear hc
  generalize M9 = M at hW hF
  refine lv_if_ne (tgt := 15) hx hb dX9_refusalOfSawing_7 (by decide) (fun hv2 => ?_) (fun hv2 => ?_)
  · replace hF := (if_neg hv2).symm.trans hF
    refine lv_aload_n hx hb dX9_refusalOfSawing_15 rfl (lv_at hl 0 rfl) ?_
    refine pw_gR C hW pc_8 (k := 2) (by decide) rfl tq_398 dX9_refusalOfSawing_16 hF (fun av3 hF => ?_)
    obtain ⟨hK, hF⟩ := ps_ck_some hF
    obtain ⟨xv4, M9, hc, hF⟩ := ps_b2_some hF
    refine ps_backI (x0 := xv4) (M' := M9) hS (ps_callV C hW pc_6 mf_X7_hasPair tq_586 tq_587 tq_585 ⟨Nat.le_of_ble_eq_true rfl, Nat.le_of_ble_eq_true rfl⟩ rfl rfl (As := []) (rest := []) (c_X7_hasPair hc) hK rfl hl.1 rfl (Nat.le_of_ble_eq_true rfl) dX9_refusalOfSawing_19 ⟨Nat.le_of_ble_eq_true rfl, Nat.le_of_ble_eq_true rfl⟩) (fun H locs hW hS => ?_)
    clear hc
    generalize M9 = M at hW hF
    refine lv_if_eq (tgt := 39) hx hb dX9_refusalOfSawing_22 (by decide) (fun hv5 => ?_) (fun hv5 => ?_)
    · replace hF := (if_pos hv5).symm.trans hF
      exact kb_X9_refusalOfSawing_b39 C hF hW hS (lv_sub hl [] rfl)
    · replace hF := (if_neg hv5).symm.trans hF
      refine lv_aload_n hx hb dX9_refusalOfSawing_25 rfl (lv_at hl 0 rfl) ?_
      refine pw_gR C hW pc_8 (k := 2) (by decide) rfl tq_398 dX9_refusalOfSawing_26 hF (fun av6 hF => ?_)
      refine lv_aload_n hx hb dX9_refusalOfSawing_29 rfl (lv_at hl 0 rfl) ?_
      refine pw_gR C hW pc_8 (k := 0) (by decide) rfl tq_396 dX9_refusalOfSawing_30 hF (fun av7 hF => ?_)
      obtain ⟨hK, hF⟩ := ps_ck_some hF
      obtain ⟨xv8, M9, hc, hF⟩ := ps_b2_some hF
      refine ps_backI (x0 := xv8) (M' := M9) hS (ps_callV C hW pc_6 mf_X7_isThrough tq_536 tq_537 tq_535 ⟨Nat.le_of_ble_eq_true rfl, Nat.le_of_ble_eq_true rfl⟩ rfl rfl (As := [.ref (B + av7)]) (rest := []) (c_X7_isThrough hc) hK rfl hl.1 rfl (Nat.le_of_ble_eq_true rfl) dX9_refusalOfSawing_33 ⟨Nat.le_of_ble_eq_true rfl, Nat.le_of_ble_eq_true rfl⟩) (fun H locs hW hS => ?_)
      clear hc
      generalize M9 = M at hW hF
      refine lv_if_eq (tgt := 44) hx hb dX9_refusalOfSawing_36 (by decide) (fun hv9 => ?_) (fun hv9 => ?_)
      · replace hF := (if_pos hv9).symm.trans hF
        refine lv_iconst (v := 0) hx hb dX9_refusalOfSawing_44 (by decide) ?_
        exact kb_X9_refusalOfSawing_b45 C hF hW hS (lv_sub hl [] rfl)
      · replace hF := (if_neg hv9).symm.trans hF
        exact kb_X9_refusalOfSawing_b39 C hF hW hS (lv_sub hl [] rfl)
  · replace hF := (if_pos hv2).symm.trans hF
    refine lv_ldc (v := -1000000002) hx hb hown (hts _ tq_434) dX9_refusalOfSawing_10 ?_
    refine lv_goto (tgt := 45) hx hb dX9_refusalOfSawing_12 (by decide) ?_
    exact kb_X9_refusalOfSawing_b45 C hF hW hS (lv_sub hl [] rfl)
theorem mf_X9_refusalOfSawing : ps_mf yX9_refusalOfSawing cX9_refusalOfSawing 2 ((some .int)) 1 := ⟨tq_581, tq_61, by decide +kernel, by decide +kernel, by decide +kernel⟩
theorem c_X9_refusalOfSawing {l : Launch} {D : va_G} {Y : ps_A} {B : Nat} {M : ps_M} {a0 : Nat} {x1 : Int32} {r : Int32} {M' : ps_M} (hF : f_X9_refusalOfSawing M a0 x1 = some (r, M')) : Met l yX9_refusalOfSawing (Cond.code yX9_refusalOfSawing cX9_refusalOfSawing 2 ((some .int)) :: tb_G) rm_X9_refusalOfSawing (ps_PB D Y B M [.ref (B + a0), .int x1]) (va_Qi (fun x (_ : Unit) => x = r) (fun _ t => ps_St D Y B M' t) (fun q => B ≤ q)) 0 0 (fun q => B ≤ q) :=
  pm_of (by decide +kernel) (Nat.le_of_ble_eq_true rfl) (fun p e s m args below meth c C hW hS ls hl => kb_X9_refusalOfSawing C hF hW hS hl)

abbrev rm_X9_stroke : Room := { frames := 3, cells := 0, slots := 0, locals := 71 }
def f_X9_stroke_b68 (M : ps_M) (x3 : Int32) : Option (Int32 × ps_M) := some (x3, M)
def f_X9_stroke_w28 (k28 : ps_M → Nat → Int32 → Int32 → Int32 → Option (Int32 × ps_M)) (M : ps_M) (a0 : Nat) (x1 : Int32) (x3 : Int32) (x4 : Int32) : Option (Int32 × ps_M) := if x1 ≤ x4 then (f_X9_stroke_b68 M x3) else (ps_gR M a0 8 2 (fun av2 => ps_gR M a0 8 0 (fun av3 => ps_ck M av2 6 (ps_b2 (f_X7_isThrough M av2 av3) (fun xv4 M => if xv4 = 0 then (ps_gR M a0 8 2 (fun av6 => ps_gR M a0 8 0 (fun av7 => ps_ck M av6 6 (ps_b2 (f_X7_pullOnce M av6 av7) (fun xv8 M => ps_v ((x3 + xv8)) (fun xv9 => ps_v (x4 + 1) (fun xv10 => k28 M a0 x1 xv9 xv10))))))) else (f_X9_stroke_b68 M x3))))))
def f_X9_stroke_l28 : Nat → ps_M → Nat → Int32 → Int32 → Int32 → Option (Int32 × ps_M)
  | 0, _, _, _, _, _ => none
  | n + 1, M, a0, x1, x3, x4 => f_X9_stroke_w28 (f_X9_stroke_l28 n) M a0 x1 x3 x4
def f_X9_stroke (M : ps_M) (a0 : Nat) (x1 : Int32) : Option (Int32 × ps_M) := ps_ck M a0 8 (ps_b2 (f_X9_refusalOfSawing M a0 x1) (fun xv11 M => if xv11 = 0 then (ps_gR M a0 8 3 (fun av13 => ps_gR M a0 8 2 (fun av14 => ps_ck M av13 2 (ps_b1 (f_X2_remember M av13 av14) (fun M => f_X9_stroke_l28 ps_fu M a0 x1 (0 : Int32) (0 : Int32)))))) else (some (xv11, M))))
set_option maxRecDepth 100000 in
set_option maxHeartbeats 4000000 in
theorem kb_X9_stroke_b68 (C : ps_C p s m args meth c cX9_stroke 5 RX9 ((some .int)) "stroke" D Y B) {q : Int32 × ps_M}  {M : ps_M} {x3 : Int32} (hF : f_X9_stroke_b68 M x3 = some q) (hW : ps_W D Y B M H) (hS : va_S (fun q => B ≤ q) s.heap H locs) (hl : lv_has ls 5 [(3, .int x3)]) : W p l e rm_X9_stroke s m args below meth c H locs 0 0 (ps_Qi D Y B below args s 0 0 q) (F0 m 68 ls []) := by
  have hx := C.1
  have hb := C.2.1
  have hml := C.2.2.1
  have hown := C.2.2.2.1
  have hts := C.2.2.2.2.1
  unfold f_X9_stroke_b68 at hF
  refine lv_iload_n hx hb dX9_stroke_68 rfl (lv_at hl 0 rfl) ?_
  exact pw_iret C hW hS dX9_stroke_69 hF
set_option maxRecDepth 100000 in
set_option maxHeartbeats 4000000 in
theorem kb_X9_stroke_w28 (C : ps_C p s m args meth c cX9_stroke 5 RX9 ((some .int)) "stroke" D Y B) {q : Int32 × ps_M} (k28 : ps_M → Nat → Int32 → Int32 → Int32 → Option (Int32 × ps_M)) (hk28 : ∀ (M : ps_M) (H : Heap) (locs : List Loc) (ls : Array Slot) (a0 : Nat) (x1 : Int32) (x3 : Int32) (x4 : Int32), k28 M a0 x1 x3 x4 = some q → ps_W D Y B M H → va_S (fun q => B ≤ q) s.heap H locs → lv_has ls 5 [(0, .ref (B + a0)), (1, .int x1), (3, .int x3), (4, .int x4)] → W p l e rm_X9_stroke s m args below meth c H locs 0 0 (ps_Qi D Y B below args s 0 0 q) (F0 m 28 ls [])) {M : ps_M} {a0 : Nat} {x1 : Int32} {x3 : Int32} {x4 : Int32} (hF : f_X9_stroke_w28 k28 M a0 x1 x3 x4 = some q) (hW : ps_W D Y B M H) (hS : va_S (fun q => B ≤ q) s.heap H locs) (hl : lv_has ls 5 [(0, .ref (B + a0)), (1, .int x1), (3, .int x3), (4, .int x4)]) : W p l e rm_X9_stroke s m args below meth c H locs 0 0 (ps_Qi D Y B below args s 0 0 q) (F0 m 28 ls []) := by
  have hx := C.1
  have hb := C.2.1
  have hml := C.2.2.1
  have hown := C.2.2.2.1
  have hts := C.2.2.2.2.1
  unfold f_X9_stroke_w28 at hF
  refine lv_iload hx hb dX9_stroke_28 (lv_at hl 3 rfl) ?_
  refine lv_iload_n hx hb dX9_stroke_30 rfl (lv_at hl 1 rfl) ?_
  refine lv_icmp_ge (tgt := 68) hx hb dX9_stroke_31 (by decide) (fun hv1 => ?_) (fun hv1 => ?_)
  · replace hF := (if_pos hv1).symm.trans hF
    exact kb_X9_stroke_b68 C hF hW hS (lv_sub hl [2] rfl)
  · replace hF := (if_neg hv1).symm.trans hF
    refine lv_aload_n hx hb dX9_stroke_34 rfl (lv_at hl 0 rfl) ?_
    refine pw_gR C hW pc_8 (k := 2) (by decide) rfl tq_398 dX9_stroke_35 hF (fun av2 hF => ?_)
    refine lv_aload_n hx hb dX9_stroke_38 rfl (lv_at hl 0 rfl) ?_
    refine pw_gR C hW pc_8 (k := 0) (by decide) rfl tq_396 dX9_stroke_39 hF (fun av3 hF => ?_)
    obtain ⟨hK, hF⟩ := ps_ck_some hF
    obtain ⟨xv4, M9, hc, hF⟩ := ps_b2_some hF
    refine ps_backI (x0 := xv4) (M' := M9) hS (ps_callV C hW pc_6 mf_X7_isThrough tq_536 tq_537 tq_535 ⟨Nat.le_of_ble_eq_true rfl, Nat.le_of_ble_eq_true rfl⟩ rfl rfl (As := [.ref (B + av3)]) (rest := []) (c_X7_isThrough hc) hK rfl hl.1 rfl (Nat.le_of_ble_eq_true rfl) dX9_stroke_42 ⟨Nat.le_of_ble_eq_true rfl, Nat.le_of_ble_eq_true rfl⟩) (fun H locs hW hS => ?_)
    clear hc
    generalize M9 = M at hW hF
    refine lv_if_ne (tgt := 68) hx hb dX9_stroke_45 (by decide) (fun hv5 => ?_) (fun hv5 => ?_)
    · replace hF := (if_neg hv5).symm.trans hF
      exact kb_X9_stroke_b68 C hF hW hS (lv_sub hl [2] rfl)
    · replace hF := (if_pos hv5).symm.trans hF
      refine lv_iload_n hx hb dX9_stroke_48 rfl (lv_at hl 2 rfl) ?_
      refine lv_aload_n hx hb dX9_stroke_49 rfl (lv_at hl 0 rfl) ?_
      refine pw_gR C hW pc_8 (k := 2) (by decide) rfl tq_398 dX9_stroke_50 hF (fun av6 hF => ?_)
      refine lv_aload_n hx hb dX9_stroke_53 rfl (lv_at hl 0 rfl) ?_
      refine pw_gR C hW pc_8 (k := 0) (by decide) rfl tq_396 dX9_stroke_54 hF (fun av7 hF => ?_)
      obtain ⟨hK, hF⟩ := ps_ck_some hF
      obtain ⟨xv8, M9, hc, hF⟩ := ps_b2_some hF
      refine ps_backI (x0 := xv8) (M' := M9) hS (ps_callV C hW pc_6 mf_X7_pullOnce tq_605 tq_606 tq_604 ⟨Nat.le_of_ble_eq_true rfl, Nat.le_of_ble_eq_true rfl⟩ rfl rfl (As := [.ref (B + av7)]) (rest := [.int x3]) (c_X7_pullOnce hc) hK rfl hl.1 rfl (Nat.le_of_ble_eq_true rfl) dX9_stroke_57 ⟨Nat.le_of_ble_eq_true rfl, Nat.le_of_ble_eq_true rfl⟩) (fun H locs hW hS => ?_)
      clear hc
      generalize M9 = M at hW hF
      refine lv_iadd hx hb dX9_stroke_60 ?_
      refine pw_v hF (fun xv9 hF => ?_)
      refine lv_istore_n (lv' := [(3, .int xv9), (0, .ref (B + a0)), (1, .int x1), (4, .int x4)]) hx hb dX9_stroke_61 rfl hl (by decide) rfl (fun ls hl => ?_)
      obtain ⟨xv10, exv10, hF⟩ := ps_ve hF
      refine lv_iinc (v := xv10) (lv' := [(4, .int xv10), (3, .int xv9), (0, .ref (B + a0)), (1, .int x1)]) hx hb dX9_stroke_62 hl (k := 3) rfl (by rw [exv10]; rfl) (by decide) rfl (fun ls hl => ?_)
      clear exv10
      refine lv_goto (tgt := 28) hx hb dX9_stroke_65 (by decide) ?_
      exact hk28 M _ _ _ a0 x1 xv9 xv10 hF hW hS (lv_sub hl [2, 3, 1, 0] rfl)
theorem kb_X9_stroke_l28 (C : ps_C p s m args meth c cX9_stroke 5 RX9 ((some .int)) "stroke" D Y B) {q : Int32 × ps_M}  : ∀ (n : Nat) (M : ps_M) (H : Heap) (locs : List Loc) (ls : Array Slot) (a0 : Nat) (x1 : Int32) (x3 : Int32) (x4 : Int32), f_X9_stroke_l28 n M a0 x1 x3 x4 = some q → ps_W D Y B M H → va_S (fun q => B ≤ q) s.heap H locs → lv_has ls 5 [(0, .ref (B + a0)), (1, .int x1), (3, .int x3), (4, .int x4)] → W p l e rm_X9_stroke s m args below meth c H locs 0 0 (ps_Qi D Y B below args s 0 0 q) (F0 m 28 ls []) := by
  intro n
  induction n with
  | zero => intro M H locs ls a0 x1 x3 x4 hF; cases hF
  | succ n ih => intro M H locs ls a0 x1 x3 x4 hF hW hS hl; exact kb_X9_stroke_w28 C  (f_X9_stroke_l28 n) ih hF hW hS hl
set_option maxRecDepth 100000 in
set_option maxHeartbeats 4000000 in
theorem kb_X9_stroke (C : ps_C p s m args meth c cX9_stroke 5 RX9 ((some .int)) "stroke" D Y B) {q : Int32 × ps_M}  {M : ps_M} {a0 : Nat} {x1 : Int32} (hF : f_X9_stroke M a0 x1 = some q) (hW : ps_W D Y B M H) (hS : va_S (fun q => B ≤ q) s.heap H locs) (hl : lv_has ls 5 [(0, .ref (B + a0)), (1, .int x1)]) : W p l e rm_X9_stroke s m args below meth c H locs 0 0 (ps_Qi D Y B below args s 0 0 q) (F0 m 0 ls []) := by
  have hx := C.1
  have hb := C.2.1
  have hml := C.2.2.1
  have hown := C.2.2.2.1
  have hts := C.2.2.2.2.1
  unfold f_X9_stroke at hF
  refine lv_aload_n hx hb dX9_stroke_0 rfl (lv_at hl 0 rfl) ?_
  refine lv_iload_n hx hb dX9_stroke_1 rfl (lv_at hl 1 rfl) ?_
  obtain ⟨hK, hF⟩ := ps_ck_some hF
  obtain ⟨xv11, M9, hc, hF⟩ := ps_b2_some hF
  refine ps_backI (x0 := xv11) (M' := M9) hS (ps_callV C hW pc_8 mf_X9_refusalOfSawing tq_580 tq_10 tq_578 ⟨Nat.le_of_ble_eq_true rfl, Nat.le_of_ble_eq_true rfl⟩ rfl rfl (As := [.int x1]) (rest := []) (c_X9_refusalOfSawing hc) hK rfl hl.1 rfl (Nat.le_of_ble_eq_true rfl) dX9_stroke_2 ⟨Nat.le_of_ble_eq_true rfl, Nat.le_of_ble_eq_true rfl⟩) (fun H locs hW hS => ?_)
  clear hc
  generalize M9 = M at hW hF
  refine lv_istore_n (lv' := [(2, .int xv11), (0, .ref (B + a0)), (1, .int x1)]) hx hb dX9_stroke_5 rfl hl (by decide) rfl (fun ls hl => ?_)
  refine lv_iload_n hx hb dX9_stroke_6 rfl (lv_at hl 0 rfl) ?_
  refine lv_if_eq (tgt := 12) hx hb dX9_stroke_7 (by decide) (fun hv12 => ?_) (fun hv12 => ?_)
  · replace hF := (if_pos hv12).symm.trans hF
    refine lv_aload_n hx hb dX9_stroke_12 rfl (lv_at hl 1 rfl) ?_
    refine pw_gR C hW pc_8 (k := 3) (by decide) rfl tq_399 dX9_stroke_13 hF (fun av13 hF => ?_)
    refine lv_aload_n hx hb dX9_stroke_16 rfl (lv_at hl 1 rfl) ?_
    refine pw_gR C hW pc_8 (k := 2) (by decide) rfl tq_398 dX9_stroke_17 hF (fun av14 hF => ?_)
    obtain ⟨hK, hF⟩ := ps_ck_some hF
    obtain ⟨M9, hc, hF⟩ := ps_b1_some hF
    refine ps_backV (M' := M9) hS (ps_callV C hW pc_2 mf_X2_remember tq_590 tq_591 tq_589 ⟨Nat.le_of_ble_eq_true rfl, Nat.le_of_ble_eq_true rfl⟩ rfl rfl (As := [.ref (B + av14)]) (rest := []) (c_X2_remember hc) hK rfl hl.1 rfl (Nat.le_of_ble_eq_true rfl) dX9_stroke_20 ⟨Nat.le_of_ble_eq_true rfl, Nat.le_of_ble_eq_true rfl⟩) (fun H locs hW hS => ?_)
    clear hc
    generalize M9 = M at hW hF
    refine lv_iconst (v := 0) hx hb dX9_stroke_23 (by decide) ?_
    refine lv_istore_n (lv' := [(3, .int (0 : Int32)), (2, .int xv11), (0, .ref (B + a0)), (1, .int x1)]) hx hb dX9_stroke_24 rfl hl (by decide) rfl (fun ls hl => ?_)
    refine lv_iconst (v := 0) hx hb dX9_stroke_25 (by decide) ?_
    refine lv_istore (lv' := [(4, .int (0 : Int32)), (3, .int (0 : Int32)), (2, .int xv11), (0, .ref (B + a0)), (1, .int x1)]) hx hb dX9_stroke_26 hl (by decide) rfl (fun ls hl => ?_)
    exact kb_X9_stroke_l28 C ps_fu M _ _ _ a0 x1 (0 : Int32) (0 : Int32) hF hW hS (lv_sub hl [3, 4, 1, 0] rfl)
  · replace hF := (if_neg hv12).symm.trans hF
    refine lv_iload_n hx hb dX9_stroke_10 rfl (lv_at hl 0 rfl) ?_
    exact pw_iret C hW hS dX9_stroke_11 hF
theorem mf_X9_stroke : ps_mf yX9_stroke cX9_stroke 5 ((some .int)) 1 := ⟨tq_577, tq_61, by decide +kernel, by decide +kernel, by decide +kernel⟩
theorem c_X9_stroke {l : Launch} {D : va_G} {Y : ps_A} {B : Nat} {M : ps_M} {a0 : Nat} {x1 : Int32} {r : Int32} {M' : ps_M} (hF : f_X9_stroke M a0 x1 = some (r, M')) : Met l yX9_stroke (Cond.code yX9_stroke cX9_stroke 5 ((some .int)) :: tb_G) rm_X9_stroke (ps_PB D Y B M [.ref (B + a0), .int x1]) (va_Qi (fun x (_ : Unit) => x = r) (fun _ t => ps_St D Y B M' t) (fun q => B ≤ q)) 0 0 (fun q => B ≤ q) :=
  pm_of (by decide +kernel) (Nat.le_of_ble_eq_true rfl) (fun p e s m args below meth c C hW hS ls hl => kb_X9_stroke C hF hW hS hl)

abbrev rm_X9_rest : Room := { frames := 3, cells := 0, slots := 0, locals := 65 }
def f_X9_rest (M : ps_M) (a0 : Nat) (x1 : Int32) : Option (Int32 × ps_M) := ps_ck M a0 8 (ps_b2 (f_X9_refusalOfSawing M a0 x1) (fun xv1 M => if xv1 = 0 then (ps_gR M a0 8 3 (fun av3 => ps_gR M a0 8 2 (fun av4 => ps_ck M av3 2 (ps_b1 (f_X2_remember M av3 av4) (fun M => ps_gR M a0 8 2 (fun av5 => ps_ck M av5 6 (ps_b1 (f_X7_restFor M av5 x1) (fun M => ps_gR M a0 8 2 (fun av6 => ps_gI M av6 6 4 (fun xv7 => some (xv7, M))))))))))) else (some (xv1, M))))
set_option maxRecDepth 100000 in
set_option maxHeartbeats 4000000 in
theorem kb_X9_rest (C : ps_C p s m args meth c cX9_rest 3 RX9 ((some .int)) "rest" D Y B) {q : Int32 × ps_M}  {M : ps_M} {a0 : Nat} {x1 : Int32} (hF : f_X9_rest M a0 x1 = some q) (hW : ps_W D Y B M H) (hS : va_S (fun q => B ≤ q) s.heap H locs) (hl : lv_has ls 3 [(0, .ref (B + a0)), (1, .int x1)]) : W p l e rm_X9_rest s m args below meth c H locs 0 0 (ps_Qi D Y B below args s 0 0 q) (F0 m 0 ls []) := by
  have hx := C.1
  have hb := C.2.1
  have hml := C.2.2.1
  have hown := C.2.2.2.1
  have hts := C.2.2.2.2.1
  unfold f_X9_rest at hF
  refine lv_aload_n hx hb dX9_rest_0 rfl (lv_at hl 0 rfl) ?_
  refine lv_iload_n hx hb dX9_rest_1 rfl (lv_at hl 1 rfl) ?_
  obtain ⟨hK, hF⟩ := ps_ck_some hF
  obtain ⟨xv1, M9, hc, hF⟩ := ps_b2_some hF
  refine ps_backI (x0 := xv1) (M' := M9) hS (ps_callV C hW pc_8 mf_X9_refusalOfSawing tq_580 tq_10 tq_578 ⟨Nat.le_of_ble_eq_true rfl, Nat.le_of_ble_eq_true rfl⟩ rfl rfl (As := [.int x1]) (rest := []) (c_X9_refusalOfSawing hc) hK rfl hl.1 rfl (Nat.le_of_ble_eq_true rfl) dX9_rest_2 ⟨Nat.le_of_ble_eq_true rfl, Nat.le_of_ble_eq_true rfl⟩) (fun H locs hW hS => ?_)
  clear hc
  generalize M9 = M at hW hF
  refine lv_istore_n (lv' := [(2, .int xv1), (0, .ref (B + a0)), (1, .int x1)]) hx hb dX9_rest_5 rfl hl (by decide) rfl (fun ls hl => ?_)
  refine lv_iload_n hx hb dX9_rest_6 rfl (lv_at hl 0 rfl) ?_
  refine lv_if_eq (tgt := 12) hx hb dX9_rest_7 (by decide) (fun hv2 => ?_) (fun hv2 => ?_)
  · replace hF := (if_pos hv2).symm.trans hF
    refine lv_aload_n hx hb dX9_rest_12 rfl (lv_at hl 1 rfl) ?_
    refine pw_gR C hW pc_8 (k := 3) (by decide) rfl tq_399 dX9_rest_13 hF (fun av3 hF => ?_)
    refine lv_aload_n hx hb dX9_rest_16 rfl (lv_at hl 1 rfl) ?_
    refine pw_gR C hW pc_8 (k := 2) (by decide) rfl tq_398 dX9_rest_17 hF (fun av4 hF => ?_)
    obtain ⟨hK, hF⟩ := ps_ck_some hF
    obtain ⟨M9, hc, hF⟩ := ps_b1_some hF
    refine ps_backV (M' := M9) hS (ps_callV C hW pc_2 mf_X2_remember tq_590 tq_591 tq_589 ⟨Nat.le_of_ble_eq_true rfl, Nat.le_of_ble_eq_true rfl⟩ rfl rfl (As := [.ref (B + av4)]) (rest := []) (c_X2_remember hc) hK rfl hl.1 rfl (Nat.le_of_ble_eq_true rfl) dX9_rest_20 ⟨Nat.le_of_ble_eq_true rfl, Nat.le_of_ble_eq_true rfl⟩) (fun H locs hW hS => ?_)
    clear hc
    generalize M9 = M at hW hF
    refine lv_aload_n hx hb dX9_rest_23 rfl (lv_at hl 1 rfl) ?_
    refine pw_gR C hW pc_8 (k := 2) (by decide) rfl tq_398 dX9_rest_24 hF (fun av5 hF => ?_)
    refine lv_iload_n hx hb dX9_rest_27 rfl (lv_at hl 2 rfl) ?_
    obtain ⟨hK, hF⟩ := ps_ck_some hF
    obtain ⟨M9, hc, hF⟩ := ps_b1_some hF
    refine ps_backV (M' := M9) hS (ps_callV C hW pc_6 mf_X7_restFor tq_640 tq_641 tq_639 ⟨Nat.le_of_ble_eq_true rfl, Nat.le_of_ble_eq_true rfl⟩ rfl rfl (As := [.int x1]) (rest := []) (c_X7_restFor hc) hK rfl hl.1 rfl (Nat.le_of_ble_eq_true rfl) dX9_rest_28 ⟨Nat.le_of_ble_eq_true rfl, Nat.le_of_ble_eq_true rfl⟩) (fun H locs hW hS => ?_)
    clear hc
    generalize M9 = M at hW hF
    refine lv_aload_n hx hb dX9_rest_31 rfl (lv_at hl 1 rfl) ?_
    refine pw_gR C hW pc_8 (k := 2) (by decide) rfl tq_398 dX9_rest_32 hF (fun av6 hF => ?_)
    refine pw_gI C hW pc_6 (k := 4) (by decide) rfl tq_232 dX9_rest_35 hF (fun xv7 hF => ?_)
    exact pw_iret C hW hS dX9_rest_38 hF
  · replace hF := (if_neg hv2).symm.trans hF
    refine lv_iload_n hx hb dX9_rest_10 rfl (lv_at hl 0 rfl) ?_
    exact pw_iret C hW hS dX9_rest_11 hF
theorem mf_X9_rest : ps_mf yX9_rest cX9_rest 3 ((some .int)) 1 := ⟨tq_638, tq_61, by decide +kernel, by decide +kernel, by decide +kernel⟩
theorem c_X9_rest {l : Launch} {D : va_G} {Y : ps_A} {B : Nat} {M : ps_M} {a0 : Nat} {x1 : Int32} {r : Int32} {M' : ps_M} (hF : f_X9_rest M a0 x1 = some (r, M')) : Met l yX9_rest (Cond.code yX9_rest cX9_rest 3 ((some .int)) :: tb_G) rm_X9_rest (ps_PB D Y B M [.ref (B + a0), .int x1]) (va_Qi (fun x (_ : Unit) => x = r) (fun _ t => ps_St D Y B M' t) (fun q => B ≤ q)) 0 0 (fun q => B ≤ q) :=
  pm_of (by decide +kernel) (Nat.le_of_ble_eq_true rfl) (fun p e s m args below meth c C hW hS ls hl => kb_X9_rest C hF hW hS hl)

abbrev rm_X9_sides : Room := { frames := 3, cells := 0, slots := 0, locals := 65 }
def f_X9_sides (M : ps_M) (a0 : Nat) : Option (Int32 × ps_M) := ps_gR M a0 8 2 (fun av1 => ps_ck M av1 6 (ps_b2 (f_X7_hasPair M av1 ) (fun xv2 M => if xv2 = 0 then (some ((-1000000003 : Int32), M)) else (ps_gR M a0 8 3 (fun av4 => ps_gR M a0 8 2 (fun av5 => ps_ck M av4 2 (ps_b1 (f_X2_remember M av4 av5) (fun M => ps_gR M a0 8 2 (fun av6 => ps_ck M av6 6 (ps_b1 (f_X7_changeSides M av6 ) (fun M => ps_gR M a0 8 2 (fun av7 => ps_gI M av7 6 0 (fun xv8 => some (xv8, M))))))))))))))
set_option maxRecDepth 100000 in
set_option maxHeartbeats 4000000 in
theorem kb_X9_sides (C : ps_C p s m args meth c cX9_sides 1 RX9 ((some .int)) "sides" D Y B) {q : Int32 × ps_M}  {M : ps_M} {a0 : Nat} (hF : f_X9_sides M a0 = some q) (hW : ps_W D Y B M H) (hS : va_S (fun q => B ≤ q) s.heap H locs) (hl : lv_has ls 1 [(0, .ref (B + a0))]) : W p l e rm_X9_sides s m args below meth c H locs 0 0 (ps_Qi D Y B below args s 0 0 q) (F0 m 0 ls []) := by
  have hx := C.1
  have hb := C.2.1
  have hml := C.2.2.1
  have hown := C.2.2.2.1
  have hts := C.2.2.2.2.1
  unfold f_X9_sides at hF
  refine lv_aload_n hx hb dX9_sides_0 rfl (lv_at hl 0 rfl) ?_
  refine pw_gR C hW pc_8 (k := 2) (by decide) rfl tq_398 dX9_sides_1 hF (fun av1 hF => ?_)
  obtain ⟨hK, hF⟩ := ps_ck_some hF
  obtain ⟨xv2, M9, hc, hF⟩ := ps_b2_some hF
  refine ps_backI (x0 := xv2) (M' := M9) hS (ps_callV C hW pc_6 mf_X7_hasPair tq_586 tq_587 tq_585 ⟨Nat.le_of_ble_eq_true rfl, Nat.le_of_ble_eq_true rfl⟩ rfl rfl (As := []) (rest := []) (c_X7_hasPair hc) hK rfl hl.1 rfl (Nat.le_of_ble_eq_true rfl) dX9_sides_4 ⟨Nat.le_of_ble_eq_true rfl, Nat.le_of_ble_eq_true rfl⟩) (fun H locs hW hS => ?_)
  clear hc
  generalize M9 = M at hW hF
  refine lv_if_ne (tgt := 13) hx hb dX9_sides_7 (by decide) (fun hv3 => ?_) (fun hv3 => ?_)
  · replace hF := (if_neg hv3).symm.trans hF
    refine lv_aload_n hx hb dX9_sides_13 rfl (lv_at hl 0 rfl) ?_
    refine pw_gR C hW pc_8 (k := 3) (by decide) rfl tq_399 dX9_sides_14 hF (fun av4 hF => ?_)
    refine lv_aload_n hx hb dX9_sides_17 rfl (lv_at hl 0 rfl) ?_
    refine pw_gR C hW pc_8 (k := 2) (by decide) rfl tq_398 dX9_sides_18 hF (fun av5 hF => ?_)
    obtain ⟨hK, hF⟩ := ps_ck_some hF
    obtain ⟨M9, hc, hF⟩ := ps_b1_some hF
    refine ps_backV (M' := M9) hS (ps_callV C hW pc_2 mf_X2_remember tq_590 tq_591 tq_589 ⟨Nat.le_of_ble_eq_true rfl, Nat.le_of_ble_eq_true rfl⟩ rfl rfl (As := [.ref (B + av5)]) (rest := []) (c_X2_remember hc) hK rfl hl.1 rfl (Nat.le_of_ble_eq_true rfl) dX9_sides_21 ⟨Nat.le_of_ble_eq_true rfl, Nat.le_of_ble_eq_true rfl⟩) (fun H locs hW hS => ?_)
    clear hc
    generalize M9 = M at hW hF
    refine lv_aload_n hx hb dX9_sides_24 rfl (lv_at hl 0 rfl) ?_
    refine pw_gR C hW pc_8 (k := 2) (by decide) rfl tq_398 dX9_sides_25 hF (fun av6 hF => ?_)
    obtain ⟨hK, hF⟩ := ps_ck_some hF
    obtain ⟨M9, hc, hF⟩ := ps_b1_some hF
    refine ps_backV (M' := M9) hS (ps_callV C hW pc_6 mf_X7_changeSides tq_648 tq_649 tq_647 ⟨Nat.le_of_ble_eq_true rfl, Nat.le_of_ble_eq_true rfl⟩ rfl rfl (As := []) (rest := []) (c_X7_changeSides hc) hK rfl hl.1 rfl (Nat.le_of_ble_eq_true rfl) dX9_sides_28 ⟨Nat.le_of_ble_eq_true rfl, Nat.le_of_ble_eq_true rfl⟩) (fun H locs hW hS => ?_)
    clear hc
    generalize M9 = M at hW hF
    refine lv_aload_n hx hb dX9_sides_31 rfl (lv_at hl 0 rfl) ?_
    refine pw_gR C hW pc_8 (k := 2) (by decide) rfl tq_398 dX9_sides_32 hF (fun av7 hF => ?_)
    refine pw_gI C hW pc_6 (k := 0) (by decide) rfl tq_221 dX9_sides_35 hF (fun xv8 hF => ?_)
    exact pw_iret C hW hS dX9_sides_38 hF
  · replace hF := (if_pos hv3).symm.trans hF
    refine lv_ldc (v := -1000000003) hx hb hown (hts _ tq_572) dX9_sides_10 ?_
    exact pw_iret C hW hS dX9_sides_12 hF
theorem mf_X9_sides : ps_mf yX9_sides cX9_sides 1 ((some .int)) 0 := ⟨tq_646, tq_61, by decide +kernel, by decide +kernel, by decide +kernel⟩
theorem c_X9_sides {l : Launch} {D : va_G} {Y : ps_A} {B : Nat} {M : ps_M} {a0 : Nat} {r : Int32} {M' : ps_M} (hF : f_X9_sides M a0 = some (r, M')) : Met l yX9_sides (Cond.code yX9_sides cX9_sides 1 ((some .int)) :: tb_G) rm_X9_sides (ps_PB D Y B M [.ref (B + a0)]) (va_Qi (fun x (_ : Unit) => x = r) (fun _ t => ps_St D Y B M' t) (fun q => B ≤ q)) 0 0 (fun q => B ≤ q) :=
  pm_of (by decide +kernel) (Nat.le_of_ble_eq_true rfl) (fun p e s m args below meth c C hW hS ls hl => kb_X9_sides C hF hW hS hl)

abbrev rm_X9_oil : Room := { frames := 3, cells := 0, slots := 0, locals := 65 }
def f_X9_oil_b44 (M : ps_M) (x1 : Int32) : Option (Int32 × ps_M) := some (x1, M)
def f_X9_oil (M : ps_M) (a0 : Nat) : Option (Int32 × ps_M) := ps_gR M a0 8 2 (fun av1 => ps_ck M av1 6 (ps_b2 (f_X7_hasPair M av1 ) (fun xv2 M => if xv2 = 0 then (some ((-1000000003 : Int32), M)) else (ps_gR M a0 8 2 (fun av4 => ps_gI M av4 6 6 (fun xv5 => if xv5 = 0 then (f_X9_oil_b44 M xv5) else (ps_gR M a0 8 3 (fun av7 => ps_gR M a0 8 2 (fun av8 => ps_ck M av7 2 (ps_b1 (f_X2_remember M av7 av8) (fun M => ps_gR M a0 8 2 (fun av9 => ps_pI M av9 6 6 (0 : Int32) (fun M => f_X9_oil_b44 M xv5)))))))))))))
set_option maxRecDepth 100000 in
set_option maxHeartbeats 4000000 in
theorem kb_X9_oil_b44 (C : ps_C p s m args meth c cX9_oil 2 RX9 ((some .int)) "oil" D Y B) {q : Int32 × ps_M}  {M : ps_M} {x1 : Int32} (hF : f_X9_oil_b44 M x1 = some q) (hW : ps_W D Y B M H) (hS : va_S (fun q => B ≤ q) s.heap H locs) (hl : lv_has ls 2 [(1, .int x1)]) : W p l e rm_X9_oil s m args below meth c H locs 0 0 (ps_Qi D Y B below args s 0 0 q) (F0 m 44 ls []) := by
  have hx := C.1
  have hb := C.2.1
  have hml := C.2.2.1
  have hown := C.2.2.2.1
  have hts := C.2.2.2.2.1
  unfold f_X9_oil_b44 at hF
  refine lv_iload_n hx hb dX9_oil_44 rfl (lv_at hl 0 rfl) ?_
  exact pw_iret C hW hS dX9_oil_45 hF
set_option maxRecDepth 100000 in
set_option maxHeartbeats 4000000 in
theorem kb_X9_oil (C : ps_C p s m args meth c cX9_oil 2 RX9 ((some .int)) "oil" D Y B) {q : Int32 × ps_M}  {M : ps_M} {a0 : Nat} (hF : f_X9_oil M a0 = some q) (hW : ps_W D Y B M H) (hS : va_S (fun q => B ≤ q) s.heap H locs) (hl : lv_has ls 2 [(0, .ref (B + a0))]) : W p l e rm_X9_oil s m args below meth c H locs 0 0 (ps_Qi D Y B below args s 0 0 q) (F0 m 0 ls []) := by
  have hx := C.1
  have hb := C.2.1
  have hml := C.2.2.1
  have hown := C.2.2.2.1
  have hts := C.2.2.2.2.1
  unfold f_X9_oil at hF
  refine lv_aload_n hx hb dX9_oil_0 rfl (lv_at hl 0 rfl) ?_
  refine pw_gR C hW pc_8 (k := 2) (by decide) rfl tq_398 dX9_oil_1 hF (fun av1 hF => ?_)
  obtain ⟨hK, hF⟩ := ps_ck_some hF
  obtain ⟨xv2, M9, hc, hF⟩ := ps_b2_some hF
  refine ps_backI (x0 := xv2) (M' := M9) hS (ps_callV C hW pc_6 mf_X7_hasPair tq_586 tq_587 tq_585 ⟨Nat.le_of_ble_eq_true rfl, Nat.le_of_ble_eq_true rfl⟩ rfl rfl (As := []) (rest := []) (c_X7_hasPair hc) hK rfl hl.1 rfl (Nat.le_of_ble_eq_true rfl) dX9_oil_4 ⟨Nat.le_of_ble_eq_true rfl, Nat.le_of_ble_eq_true rfl⟩) (fun H locs hW hS => ?_)
  clear hc
  generalize M9 = M at hW hF
  refine lv_if_ne (tgt := 13) hx hb dX9_oil_7 (by decide) (fun hv3 => ?_) (fun hv3 => ?_)
  · replace hF := (if_neg hv3).symm.trans hF
    refine lv_aload_n hx hb dX9_oil_13 rfl (lv_at hl 0 rfl) ?_
    refine pw_gR C hW pc_8 (k := 2) (by decide) rfl tq_398 dX9_oil_14 hF (fun av4 hF => ?_)
    refine pw_gI C hW pc_6 (k := 6) (by decide) rfl tq_236 dX9_oil_17 hF (fun xv5 hF => ?_)
    refine lv_istore_n (lv' := [(1, .int xv5), (0, .ref (B + a0))]) hx hb dX9_oil_20 rfl hl (by decide) rfl (fun ls hl => ?_)
    refine lv_iload_n hx hb dX9_oil_21 rfl (lv_at hl 0 rfl) ?_
    refine lv_if_eq (tgt := 44) hx hb dX9_oil_22 (by decide) (fun hv6 => ?_) (fun hv6 => ?_)
    · replace hF := (if_pos hv6).symm.trans hF
      exact kb_X9_oil_b44 C hF hW hS (lv_sub hl [0] rfl)
    · replace hF := (if_neg hv6).symm.trans hF
      refine lv_aload_n hx hb dX9_oil_25 rfl (lv_at hl 1 rfl) ?_
      refine pw_gR C hW pc_8 (k := 3) (by decide) rfl tq_399 dX9_oil_26 hF (fun av7 hF => ?_)
      refine lv_aload_n hx hb dX9_oil_29 rfl (lv_at hl 1 rfl) ?_
      refine pw_gR C hW pc_8 (k := 2) (by decide) rfl tq_398 dX9_oil_30 hF (fun av8 hF => ?_)
      obtain ⟨hK, hF⟩ := ps_ck_some hF
      obtain ⟨M9, hc, hF⟩ := ps_b1_some hF
      refine ps_backV (M' := M9) hS (ps_callV C hW pc_2 mf_X2_remember tq_590 tq_591 tq_589 ⟨Nat.le_of_ble_eq_true rfl, Nat.le_of_ble_eq_true rfl⟩ rfl rfl (As := [.ref (B + av8)]) (rest := []) (c_X2_remember hc) hK rfl hl.1 rfl (Nat.le_of_ble_eq_true rfl) dX9_oil_33 ⟨Nat.le_of_ble_eq_true rfl, Nat.le_of_ble_eq_true rfl⟩) (fun H locs hW hS => ?_)
      clear hc
      generalize M9 = M at hW hF
      refine lv_aload_n hx hb dX9_oil_36 rfl (lv_at hl 1 rfl) ?_
      refine pw_gR C hW pc_8 (k := 2) (by decide) rfl tq_398 dX9_oil_37 hF (fun av9 hF => ?_)
      refine lv_iconst (v := 0) hx hb dX9_oil_40 (by decide) ?_
      refine pw_pI C hW hS pc_6 (k := 6) (by decide) rfl rfl tq_236 rfl dX9_oil_41 hF (fun M H locs hW hS hF => ?_)
      exact kb_X9_oil_b44 C hF hW hS (lv_sub hl [0] rfl)
  · replace hF := (if_pos hv3).symm.trans hF
    refine lv_ldc (v := -1000000003) hx hb hown (hts _ tq_572) dX9_oil_10 ?_
    exact pw_iret C hW hS dX9_oil_12 hF
theorem mf_X9_oil : ps_mf yX9_oil cX9_oil 2 ((some .int)) 0 := ⟨tq_654, tq_61, by decide +kernel, by decide +kernel, by decide +kernel⟩
theorem c_X9_oil {l : Launch} {D : va_G} {Y : ps_A} {B : Nat} {M : ps_M} {a0 : Nat} {r : Int32} {M' : ps_M} (hF : f_X9_oil M a0 = some (r, M')) : Met l yX9_oil (Cond.code yX9_oil cX9_oil 2 ((some .int)) :: tb_G) rm_X9_oil (ps_PB D Y B M [.ref (B + a0)]) (va_Qi (fun x (_ : Unit) => x = r) (fun _ t => ps_St D Y B M' t) (fun q => B ≤ q)) 0 0 (fun q => B ≤ q) :=
  pm_of (by decide +kernel) (Nat.le_of_ble_eq_true rfl) (fun p e s m args below meth c C hW hS ls hl => kb_X9_oil C hF hW hS hl)

abbrev rm_X9_wedge : Room := { frames := 3, cells := 0, slots := 0, locals := 65 }
def f_X9_wedge_b20 (M : ps_M)  : Option (Int32 × ps_M) := some ((-1000000003 : Int32), M)
def f_X9_wedge (M : ps_M) (a0 : Nat) : Option (Int32 × ps_M) := ps_gR M a0 8 2 (fun av1 => ps_ck M av1 6 (ps_b2 (f_X7_hasPair M av1 ) (fun xv2 M => if xv2 = 0 then (f_X9_wedge_b20 M ) else (ps_gR M a0 8 2 (fun av4 => ps_gI M av4 6 8 (fun xv5 => if xv5 = 0 then (ps_gR M a0 8 3 (fun av7 => ps_gR M a0 8 2 (fun av8 => ps_ck M av7 2 (ps_b1 (f_X2_remember M av7 av8) (fun M => ps_gR M a0 8 2 (fun av9 => ps_pZ M av9 6 8 (1 : Int32) (fun M => ps_gR M a0 8 2 (fun av10 => ps_gI M av10 6 4 (fun xv11 => ps_pI M av10 6 4 (xv11 + (3 : Int32)) (fun M => ps_gR M a0 8 2 (fun av12 => ps_gI M av12 6 4 (fun xv13 => some (xv13, M))))))))))))) else (f_X9_wedge_b20 M )))))))
set_option maxRecDepth 100000 in
set_option maxHeartbeats 4000000 in
theorem kb_X9_wedge_b20 (C : ps_C p s m args meth c cX9_wedge 1 RX9 ((some .int)) "wedge" D Y B) {q : Int32 × ps_M}  {M : ps_M}  (hF : f_X9_wedge_b20 M  = some q) (hW : ps_W D Y B M H) (hS : va_S (fun q => B ≤ q) s.heap H locs) (hl : lv_has ls 1 []) : W p l e rm_X9_wedge s m args below meth c H locs 0 0 (ps_Qi D Y B below args s 0 0 q) (F0 m 20 ls []) := by
  have hx := C.1
  have hb := C.2.1
  have hml := C.2.2.1
  have hown := C.2.2.2.1
  have hts := C.2.2.2.2.1
  unfold f_X9_wedge_b20 at hF
  refine lv_ldc (v := -1000000003) hx hb hown (hts _ tq_572) dX9_wedge_20 ?_
  exact pw_iret C hW hS dX9_wedge_22 hF
set_option maxRecDepth 100000 in
set_option maxHeartbeats 4000000 in
theorem kb_X9_wedge (C : ps_C p s m args meth c cX9_wedge 1 RX9 ((some .int)) "wedge" D Y B) {q : Int32 × ps_M}  {M : ps_M} {a0 : Nat} (hF : f_X9_wedge M a0 = some q) (hW : ps_W D Y B M H) (hS : va_S (fun q => B ≤ q) s.heap H locs) (hl : lv_has ls 1 [(0, .ref (B + a0))]) : W p l e rm_X9_wedge s m args below meth c H locs 0 0 (ps_Qi D Y B below args s 0 0 q) (F0 m 0 ls []) := by
  have hx := C.1
  have hb := C.2.1
  have hml := C.2.2.1
  have hown := C.2.2.2.1
  have hts := C.2.2.2.2.1
  unfold f_X9_wedge at hF
  refine lv_aload_n hx hb dX9_wedge_0 rfl (lv_at hl 0 rfl) ?_
  refine pw_gR C hW pc_8 (k := 2) (by decide) rfl tq_398 dX9_wedge_1 hF (fun av1 hF => ?_)
  obtain ⟨hK, hF⟩ := ps_ck_some hF
  obtain ⟨xv2, M9, hc, hF⟩ := ps_b2_some hF
  refine ps_backI (x0 := xv2) (M' := M9) hS (ps_callV C hW pc_6 mf_X7_hasPair tq_586 tq_587 tq_585 ⟨Nat.le_of_ble_eq_true rfl, Nat.le_of_ble_eq_true rfl⟩ rfl rfl (As := []) (rest := []) (c_X7_hasPair hc) hK rfl hl.1 rfl (Nat.le_of_ble_eq_true rfl) dX9_wedge_4 ⟨Nat.le_of_ble_eq_true rfl, Nat.le_of_ble_eq_true rfl⟩) (fun H locs hW hS => ?_)
  clear hc
  generalize M9 = M at hW hF
  refine lv_if_eq (tgt := 20) hx hb dX9_wedge_7 (by decide) (fun hv3 => ?_) (fun hv3 => ?_)
  · replace hF := (if_pos hv3).symm.trans hF
    exact kb_X9_wedge_b20 C hF hW hS (lv_sub hl [] rfl)
  · replace hF := (if_neg hv3).symm.trans hF
    refine lv_aload_n hx hb dX9_wedge_10 rfl (lv_at hl 0 rfl) ?_
    refine pw_gR C hW pc_8 (k := 2) (by decide) rfl tq_398 dX9_wedge_11 hF (fun av4 hF => ?_)
    refine pw_gI C hW pc_6 (k := 8) (by decide) rfl tq_241 dX9_wedge_14 hF (fun xv5 hF => ?_)
    refine lv_if_eq (tgt := 23) hx hb dX9_wedge_17 (by decide) (fun hv6 => ?_) (fun hv6 => ?_)
    · replace hF := (if_pos hv6).symm.trans hF
      refine lv_aload_n hx hb dX9_wedge_23 rfl (lv_at hl 0 rfl) ?_
      refine pw_gR C hW pc_8 (k := 3) (by decide) rfl tq_399 dX9_wedge_24 hF (fun av7 hF => ?_)
      refine lv_aload_n hx hb dX9_wedge_27 rfl (lv_at hl 0 rfl) ?_
      refine pw_gR C hW pc_8 (k := 2) (by decide) rfl tq_398 dX9_wedge_28 hF (fun av8 hF => ?_)
      obtain ⟨hK, hF⟩ := ps_ck_some hF
      obtain ⟨M9, hc, hF⟩ := ps_b1_some hF
      refine ps_backV (M' := M9) hS (ps_callV C hW pc_2 mf_X2_remember tq_590 tq_591 tq_589 ⟨Nat.le_of_ble_eq_true rfl, Nat.le_of_ble_eq_true rfl⟩ rfl rfl (As := [.ref (B + av8)]) (rest := []) (c_X2_remember hc) hK rfl hl.1 rfl (Nat.le_of_ble_eq_true rfl) dX9_wedge_31 ⟨Nat.le_of_ble_eq_true rfl, Nat.le_of_ble_eq_true rfl⟩) (fun H locs hW hS => ?_)
      clear hc
      generalize M9 = M at hW hF
      refine lv_aload_n hx hb dX9_wedge_34 rfl (lv_at hl 0 rfl) ?_
      refine pw_gR C hW pc_8 (k := 2) (by decide) rfl tq_398 dX9_wedge_35 hF (fun av9 hF => ?_)
      refine lv_iconst (v := 1) hx hb dX9_wedge_38 (by decide) ?_
      refine pw_pZ C hW hS pc_6 (k := 8) (by decide) rfl rfl tq_241 rfl dX9_wedge_39 hF (fun M H locs hW hS hF => ?_)
      refine lv_aload_n hx hb dX9_wedge_42 rfl (lv_at hl 0 rfl) ?_
      refine pw_gR C hW pc_8 (k := 2) (by decide) rfl tq_398 dX9_wedge_43 hF (fun av10 hF => ?_)
      refine lv_dup hx hb dX9_wedge_46 rfl ?_
      refine pw_gI C hW pc_6 (k := 4) (by decide) rfl tq_232 dX9_wedge_47 hF (fun xv11 hF => ?_)
      refine lv_iconst (v := 3) hx hb dX9_wedge_50 (by decide) ?_
      refine lv_iadd hx hb dX9_wedge_51 ?_
      refine pw_pI C hW hS pc_6 (k := 4) (by decide) rfl rfl tq_232 rfl dX9_wedge_52 hF (fun M H locs hW hS hF => ?_)
      refine lv_aload_n hx hb dX9_wedge_55 rfl (lv_at hl 0 rfl) ?_
      refine pw_gR C hW pc_8 (k := 2) (by decide) rfl tq_398 dX9_wedge_56 hF (fun av12 hF => ?_)
      refine pw_gI C hW pc_6 (k := 4) (by decide) rfl tq_232 dX9_wedge_59 hF (fun xv13 hF => ?_)
      exact pw_iret C hW hS dX9_wedge_62 hF
    · replace hF := (if_neg hv6).symm.trans hF
      exact kb_X9_wedge_b20 C hF hW hS (lv_sub hl [] rfl)
theorem mf_X9_wedge : ps_mf yX9_wedge cX9_wedge 1 ((some .int)) 0 := ⟨tq_658, tq_61, by decide +kernel, by decide +kernel, by decide +kernel⟩
theorem c_X9_wedge {l : Launch} {D : va_G} {Y : ps_A} {B : Nat} {M : ps_M} {a0 : Nat} {r : Int32} {M' : ps_M} (hF : f_X9_wedge M a0 = some (r, M')) : Met l yX9_wedge (Cond.code yX9_wedge cX9_wedge 1 ((some .int)) :: tb_G) rm_X9_wedge (ps_PB D Y B M [.ref (B + a0)]) (va_Qi (fun x (_ : Unit) => x = r) (fun _ t => ps_St D Y B M' t) (fun q => B ≤ q)) 0 0 (fun q => B ≤ q) :=
  pm_of (by decide +kernel) (Nat.le_of_ble_eq_true rfl) (fun p e s m args below meth c C hW hS ls hl => kb_X9_wedge C hF hW hS hl)

abbrev rm_X9_file : Room := { frames := 3, cells := 0, slots := 0, locals := 65 }
def f_X9_file_b22 (M : ps_M)  : Option (Int32 × ps_M) := some ((-1000000003 : Int32), M)
def f_X9_file (M : ps_M) (a0 : Nat) : Option (Int32 × ps_M) := ps_gR M a0 8 2 (fun av1 => ps_ck M av1 6 (ps_b2 (f_X7_hasPair M av1 ) (fun xv2 M => if xv2 = 0 then (f_X9_file_b22 M ) else (ps_gR M a0 8 2 (fun av4 => ps_gI M av4 6 7 (fun xv5 => if xv5 < (9 : Int32) then (ps_gR M a0 8 3 (fun av7 => ps_gR M a0 8 2 (fun av8 => ps_ck M av7 2 (ps_b1 (f_X2_remember M av7 av8) (fun M => ps_gR M a0 8 2 (fun av9 => ps_gI M av9 6 7 (fun xv10 => ps_pI M av9 6 7 (xv10 + (1 : Int32)) (fun M => ps_gR M a0 8 2 (fun av11 => ps_gI M av11 6 4 (fun xv12 => ps_pI M av11 6 4 (xv12 + (20 : Int32)) (fun M => ps_gR M a0 8 2 (fun av13 => ps_gI M av13 6 7 (fun xv14 => some (xv14, M)))))))))))))) else (f_X9_file_b22 M )))))))
set_option maxRecDepth 100000 in
set_option maxHeartbeats 4000000 in
theorem kb_X9_file_b22 (C : ps_C p s m args meth c cX9_file 1 RX9 ((some .int)) "file" D Y B) {q : Int32 × ps_M}  {M : ps_M}  (hF : f_X9_file_b22 M  = some q) (hW : ps_W D Y B M H) (hS : va_S (fun q => B ≤ q) s.heap H locs) (hl : lv_has ls 1 []) : W p l e rm_X9_file s m args below meth c H locs 0 0 (ps_Qi D Y B below args s 0 0 q) (F0 m 22 ls []) := by
  have hx := C.1
  have hb := C.2.1
  have hml := C.2.2.1
  have hown := C.2.2.2.1
  have hts := C.2.2.2.2.1
  unfold f_X9_file_b22 at hF
  refine lv_ldc (v := -1000000003) hx hb hown (hts _ tq_572) dX9_file_22 ?_
  exact pw_iret C hW hS dX9_file_24 hF
set_option maxRecDepth 100000 in
set_option maxHeartbeats 4000000 in
theorem kb_X9_file (C : ps_C p s m args meth c cX9_file 1 RX9 ((some .int)) "file" D Y B) {q : Int32 × ps_M}  {M : ps_M} {a0 : Nat} (hF : f_X9_file M a0 = some q) (hW : ps_W D Y B M H) (hS : va_S (fun q => B ≤ q) s.heap H locs) (hl : lv_has ls 1 [(0, .ref (B + a0))]) : W p l e rm_X9_file s m args below meth c H locs 0 0 (ps_Qi D Y B below args s 0 0 q) (F0 m 0 ls []) := by
  have hx := C.1
  have hb := C.2.1
  have hml := C.2.2.1
  have hown := C.2.2.2.1
  have hts := C.2.2.2.2.1
  unfold f_X9_file at hF
  refine lv_aload_n hx hb dX9_file_0 rfl (lv_at hl 0 rfl) ?_
  refine pw_gR C hW pc_8 (k := 2) (by decide) rfl tq_398 dX9_file_1 hF (fun av1 hF => ?_)
  obtain ⟨hK, hF⟩ := ps_ck_some hF
  obtain ⟨xv2, M9, hc, hF⟩ := ps_b2_some hF
  refine ps_backI (x0 := xv2) (M' := M9) hS (ps_callV C hW pc_6 mf_X7_hasPair tq_586 tq_587 tq_585 ⟨Nat.le_of_ble_eq_true rfl, Nat.le_of_ble_eq_true rfl⟩ rfl rfl (As := []) (rest := []) (c_X7_hasPair hc) hK rfl hl.1 rfl (Nat.le_of_ble_eq_true rfl) dX9_file_4 ⟨Nat.le_of_ble_eq_true rfl, Nat.le_of_ble_eq_true rfl⟩) (fun H locs hW hS => ?_)
  clear hc
  generalize M9 = M at hW hF
  refine lv_if_eq (tgt := 22) hx hb dX9_file_7 (by decide) (fun hv3 => ?_) (fun hv3 => ?_)
  · replace hF := (if_pos hv3).symm.trans hF
    exact kb_X9_file_b22 C hF hW hS (lv_sub hl [] rfl)
  · replace hF := (if_neg hv3).symm.trans hF
    refine lv_aload_n hx hb dX9_file_10 rfl (lv_at hl 0 rfl) ?_
    refine pw_gR C hW pc_8 (k := 2) (by decide) rfl tq_398 dX9_file_11 hF (fun av4 hF => ?_)
    refine pw_gI C hW pc_6 (k := 7) (by decide) rfl tq_238 dX9_file_14 hF (fun xv5 hF => ?_)
    refine lv_bipush (v := 9) hx hb dX9_file_17 (by decide) ?_
    refine lv_icmp_lt (tgt := 25) hx hb dX9_file_19 (by decide) (fun hv6 => ?_) (fun hv6 => ?_)
    · replace hF := (if_pos hv6).symm.trans hF
      refine lv_aload_n hx hb dX9_file_25 rfl (lv_at hl 0 rfl) ?_
      refine pw_gR C hW pc_8 (k := 3) (by decide) rfl tq_399 dX9_file_26 hF (fun av7 hF => ?_)
      refine lv_aload_n hx hb dX9_file_29 rfl (lv_at hl 0 rfl) ?_
      refine pw_gR C hW pc_8 (k := 2) (by decide) rfl tq_398 dX9_file_30 hF (fun av8 hF => ?_)
      obtain ⟨hK, hF⟩ := ps_ck_some hF
      obtain ⟨M9, hc, hF⟩ := ps_b1_some hF
      refine ps_backV (M' := M9) hS (ps_callV C hW pc_2 mf_X2_remember tq_590 tq_591 tq_589 ⟨Nat.le_of_ble_eq_true rfl, Nat.le_of_ble_eq_true rfl⟩ rfl rfl (As := [.ref (B + av8)]) (rest := []) (c_X2_remember hc) hK rfl hl.1 rfl (Nat.le_of_ble_eq_true rfl) dX9_file_33 ⟨Nat.le_of_ble_eq_true rfl, Nat.le_of_ble_eq_true rfl⟩) (fun H locs hW hS => ?_)
      clear hc
      generalize M9 = M at hW hF
      refine lv_aload_n hx hb dX9_file_36 rfl (lv_at hl 0 rfl) ?_
      refine pw_gR C hW pc_8 (k := 2) (by decide) rfl tq_398 dX9_file_37 hF (fun av9 hF => ?_)
      refine lv_dup hx hb dX9_file_40 rfl ?_
      refine pw_gI C hW pc_6 (k := 7) (by decide) rfl tq_238 dX9_file_41 hF (fun xv10 hF => ?_)
      refine lv_iconst (v := 1) hx hb dX9_file_44 (by decide) ?_
      refine lv_iadd hx hb dX9_file_45 ?_
      refine pw_pI C hW hS pc_6 (k := 7) (by decide) rfl rfl tq_238 rfl dX9_file_46 hF (fun M H locs hW hS hF => ?_)
      refine lv_aload_n hx hb dX9_file_49 rfl (lv_at hl 0 rfl) ?_
      refine pw_gR C hW pc_8 (k := 2) (by decide) rfl tq_398 dX9_file_50 hF (fun av11 hF => ?_)
      refine lv_dup hx hb dX9_file_53 rfl ?_
      refine pw_gI C hW pc_6 (k := 4) (by decide) rfl tq_232 dX9_file_54 hF (fun xv12 hF => ?_)
      refine lv_bipush (v := 20) hx hb dX9_file_57 (by decide) ?_
      refine lv_iadd hx hb dX9_file_59 ?_
      refine pw_pI C hW hS pc_6 (k := 4) (by decide) rfl rfl tq_232 rfl dX9_file_60 hF (fun M H locs hW hS hF => ?_)
      refine lv_aload_n hx hb dX9_file_63 rfl (lv_at hl 0 rfl) ?_
      refine pw_gR C hW pc_8 (k := 2) (by decide) rfl tq_398 dX9_file_64 hF (fun av13 hF => ?_)
      refine pw_gI C hW pc_6 (k := 7) (by decide) rfl tq_238 dX9_file_67 hF (fun xv14 hF => ?_)
      exact pw_iret C hW hS dX9_file_70 hF
    · replace hF := (if_neg hv6).symm.trans hF
      exact kb_X9_file_b22 C hF hW hS (lv_sub hl [] rfl)
theorem mf_X9_file : ps_mf yX9_file cX9_file 1 ((some .int)) 0 := ⟨tq_662, tq_61, by decide +kernel, by decide +kernel, by decide +kernel⟩
theorem c_X9_file {l : Launch} {D : va_G} {Y : ps_A} {B : Nat} {M : ps_M} {a0 : Nat} {r : Int32} {M' : ps_M} (hF : f_X9_file M a0 = some (r, M')) : Met l yX9_file (Cond.code yX9_file cX9_file 1 ((some .int)) :: tb_G) rm_X9_file (ps_PB D Y B M [.ref (B + a0)]) (va_Qi (fun x (_ : Unit) => x = r) (fun _ t => ps_St D Y B M' t) (fun q => B ≤ q)) 0 0 (fun q => B ≤ q) :=
  pm_of (by decide +kernel) (Nat.le_of_ble_eq_true rfl) (fun p e s m args below meth c C hW hS ls hl => kb_X9_file C hF hW hS hl)

abbrev rm_X9_changeRow : Room := { frames := 3, cells := 0, slots := 0, locals := 65 }
def f_X9_changeRow_b30 (M : ps_M) (x4 : Int32) : Option (Int32 × ps_M) := some (x4, M)
def f_X9_changeRow (M : ps_M) (a0 : Nat) (a1 : Nat) (x2 : Int32) (x3 : Int32) : Option (Int32 × ps_M) := ps_b2 (f_X4_at M a1 x2) (fun xv1 M => if xv1 = x3 then (f_X9_changeRow_b30 M xv1) else (ps_gR M a0 8 3 (fun av3 => ps_gR M a0 8 2 (fun av4 => ps_ck M av3 2 (ps_b1 (f_X2_remember M av3 av4) (fun M => ps_b1 (f_X4_put M a1 x2 x3) (fun M => f_X9_changeRow_b30 M xv1)))))))
set_option maxRecDepth 100000 in
set_option maxHeartbeats 4000000 in
theorem kb_X9_changeRow_b30 (C : ps_C p s m args meth c cX9_changeRow 5 RX9 ((some .int)) "changeRow" D Y B) {q : Int32 × ps_M}  {M : ps_M} {x4 : Int32} (hF : f_X9_changeRow_b30 M x4 = some q) (hW : ps_W D Y B M H) (hS : va_S (fun q => B ≤ q) s.heap H locs) (hl : lv_has ls 5 [(4, .int x4)]) : W p l e rm_X9_changeRow s m args below meth c H locs 0 0 (ps_Qi D Y B below args s 0 0 q) (F0 m 30 ls []) := by
  have hx := C.1
  have hb := C.2.1
  have hml := C.2.2.1
  have hown := C.2.2.2.1
  have hts := C.2.2.2.2.1
  unfold f_X9_changeRow_b30 at hF
  refine lv_iload hx hb dX9_changeRow_30 (lv_at hl 0 rfl) ?_
  exact pw_iret C hW hS dX9_changeRow_32 hF
set_option maxRecDepth 100000 in
set_option maxHeartbeats 4000000 in
theorem kb_X9_changeRow (C : ps_C p s m args meth c cX9_changeRow 5 RX9 ((some .int)) "changeRow" D Y B) {q : Int32 × ps_M}  {M : ps_M} {a0 : Nat} {a1 : Nat} {x2 : Int32} {x3 : Int32} (hF : f_X9_changeRow M a0 a1 x2 x3 = some q) (hW : ps_W D Y B M H) (hS : va_S (fun q => B ≤ q) s.heap H locs) (hl : lv_has ls 5 [(0, .ref (B + a0)), (1, .ref (B + a1)), (2, .int x2), (3, .int x3)]) : W p l e rm_X9_changeRow s m args below meth c H locs 0 0 (ps_Qi D Y B below args s 0 0 q) (F0 m 0 ls []) := by
  have hx := C.1
  have hb := C.2.1
  have hml := C.2.2.1
  have hown := C.2.2.2.1
  have hts := C.2.2.2.2.1
  unfold f_X9_changeRow at hF
  refine lv_aload_n hx hb dX9_changeRow_0 rfl (lv_at hl 1 rfl) ?_
  refine lv_iload_n hx hb dX9_changeRow_1 rfl (lv_at hl 2 rfl) ?_
  obtain ⟨xv1, M9, hc, hF⟩ := ps_b2_some hF
  refine ps_backI (x0 := xv1) (M' := M9) hS (ps_callS C hW mf_X4_at tq_549 tq_548 ⟨Nat.le_of_ble_eq_true rfl, Nat.le_of_ble_eq_true rfl⟩ rfl rfl (As := [.ref (B + a1), .int x2]) (rest := []) (c_X4_at hc) rfl hl.1 rfl (Nat.le_of_ble_eq_true rfl) dX9_changeRow_2 ⟨Nat.le_of_ble_eq_true rfl, Nat.le_of_ble_eq_true rfl⟩) (fun H locs hW hS => ?_)
  clear hc
  generalize M9 = M at hW hF
  refine lv_istore (lv' := [(4, .int xv1), (0, .ref (B + a0)), (1, .ref (B + a1)), (2, .int x2), (3, .int x3)]) hx hb dX9_changeRow_5 hl (by decide) rfl (fun ls hl => ?_)
  refine lv_iload hx hb dX9_changeRow_7 (lv_at hl 0 rfl) ?_
  refine lv_iload_n hx hb dX9_changeRow_9 rfl (lv_at hl 4 rfl) ?_
  refine lv_icmp_eq (tgt := 30) hx hb dX9_changeRow_10 (by decide) (fun hv2 => ?_) (fun hv2 => ?_)
  · replace hF := (if_pos hv2).symm.trans hF
    exact kb_X9_changeRow_b30 C hF hW hS (lv_sub hl [0] rfl)
  · replace hF := (if_neg hv2).symm.trans hF
    refine lv_aload_n hx hb dX9_changeRow_13 rfl (lv_at hl 1 rfl) ?_
    refine pw_gR C hW pc_8 (k := 3) (by decide) rfl tq_399 dX9_changeRow_14 hF (fun av3 hF => ?_)
    refine lv_aload_n hx hb dX9_changeRow_17 rfl (lv_at hl 1 rfl) ?_
    refine pw_gR C hW pc_8 (k := 2) (by decide) rfl tq_398 dX9_changeRow_18 hF (fun av4 hF => ?_)
    obtain ⟨hK, hF⟩ := ps_ck_some hF
    obtain ⟨M9, hc, hF⟩ := ps_b1_some hF
    refine ps_backV (M' := M9) hS (ps_callV C hW pc_2 mf_X2_remember tq_590 tq_591 tq_589 ⟨Nat.le_of_ble_eq_true rfl, Nat.le_of_ble_eq_true rfl⟩ rfl rfl (As := [.ref (B + av4)]) (rest := []) (c_X2_remember hc) hK rfl hl.1 rfl (Nat.le_of_ble_eq_true rfl) dX9_changeRow_21 ⟨Nat.le_of_ble_eq_true rfl, Nat.le_of_ble_eq_true rfl⟩) (fun H locs hW hS => ?_)
    clear hc
    generalize M9 = M at hW hF
    refine lv_aload_n hx hb dX9_changeRow_24 rfl (lv_at hl 2 rfl) ?_
    refine lv_iload_n hx hb dX9_changeRow_25 rfl (lv_at hl 3 rfl) ?_
    refine lv_iload_n hx hb dX9_changeRow_26 rfl (lv_at hl 4 rfl) ?_
    obtain ⟨M9, hc, hF⟩ := ps_b1_some hF
    refine ps_backV (M' := M9) hS (ps_callS C hW mf_X4_put tq_440 tq_671 ⟨Nat.le_of_ble_eq_true rfl, Nat.le_of_ble_eq_true rfl⟩ rfl rfl (As := [.ref (B + a1), .int x2, .int x3]) (rest := []) (c_X4_put hc) rfl hl.1 rfl (Nat.le_of_ble_eq_true rfl) dX9_changeRow_27 ⟨Nat.le_of_ble_eq_true rfl, Nat.le_of_ble_eq_true rfl⟩) (fun H locs hW hS => ?_)
    clear hc
    generalize M9 = M at hW hF
    exact kb_X9_changeRow_b30 C hF hW hS (lv_sub hl [0] rfl)
theorem mf_X9_changeRow : ps_mf yX9_changeRow cX9_changeRow 5 ((some .int)) 3 := ⟨tq_670, tq_61, by decide +kernel, by decide +kernel, by decide +kernel⟩
theorem c_X9_changeRow {l : Launch} {D : va_G} {Y : ps_A} {B : Nat} {M : ps_M} {a0 : Nat} {a1 : Nat} {x2 : Int32} {x3 : Int32} {r : Int32} {M' : ps_M} (hF : f_X9_changeRow M a0 a1 x2 x3 = some (r, M')) : Met l yX9_changeRow (Cond.code yX9_changeRow cX9_changeRow 5 ((some .int)) :: tb_G) rm_X9_changeRow (ps_PB D Y B M [.ref (B + a0), .ref (B + a1), .int x2, .int x3]) (va_Qi (fun x (_ : Unit) => x = r) (fun _ t => ps_St D Y B M' t) (fun q => B ≤ q)) 0 0 (fun q => B ≤ q) :=
  pm_of (by decide +kernel) (Nat.le_of_ble_eq_true rfl) (fun p e s m args below meth c C hW hS ls hl => kb_X9_changeRow C hF hW hS hl)

abbrev rm_X9_wish : Room := { frames := 4, cells := 0, slots := 0, locals := 89 }
def f_X9_wish_b42 (M : ps_M) (t0 : Int32) : Option (Int32 × ps_M) := some (t0, M)
def f_X9_wish (M : ps_M) (a0 : Nat) (x1 : Int32) (x2 : Int32) : Option (Int32 × ps_M) := ps_gR M a0 8 0 (fun av1 => ps_ck M av1 7 (ps_b2 (f_X8_hasPerson M av1 x1) (fun xv2 M => if xv2 = 0 then (some ((-1000000001 : Int32), M)) else (ps_b2 (f_X9_isWithin M x2 (1 : Int32) (20 : Int32)) (fun xv4 M => if xv4 = 0 then (f_X9_wish_b42 M (-1000000002 : Int32)) else (ps_gR M a0 8 2 (fun av6 => ps_gR M av6 6 9 (fun av7 => ps_ck M a0 8 (ps_b2 (f_X9_changeRow M a0 av7 x1 x2) (fun xv8 M => f_X9_wish_b42 M xv8))))))))))
set_option maxRecDepth 100000 in
set_option maxHeartbeats 4000000 in
theorem kb_X9_wish_b42 (C : ps_C p s m args meth c cX9_wish 3 RX9 ((some .int)) "wish" D Y B) {q : Int32 × ps_M}  {M : ps_M} {t0 : Int32} (hF : f_X9_wish_b42 M t0 = some q) (hW : ps_W D Y B M H) (hS : va_S (fun q => B ≤ q) s.heap H locs) (hl : lv_has ls 3 []) : W p l e rm_X9_wish s m args below meth c H locs 0 0 (ps_Qi D Y B below args s 0 0 q) (F0 m 42 ls [.int t0]) := by
  have hx := C.1
  have hb := C.2.1
  have hml := C.2.2.1
  have hown := C.2.2.2.1
  have hts := C.2.2.2.2.1
  unfold f_X9_wish_b42 at hF
  exact pw_iret C hW hS dX9_wish_42 hF
set_option maxRecDepth 100000 in
set_option maxHeartbeats 4000000 in
theorem kb_X9_wish (C : ps_C p s m args meth c cX9_wish 3 RX9 ((some .int)) "wish" D Y B) {q : Int32 × ps_M}  {M : ps_M} {a0 : Nat} {x1 : Int32} {x2 : Int32} (hF : f_X9_wish M a0 x1 x2 = some q) (hW : ps_W D Y B M H) (hS : va_S (fun q => B ≤ q) s.heap H locs) (hl : lv_has ls 3 [(0, .ref (B + a0)), (1, .int x1), (2, .int x2)]) : W p l e rm_X9_wish s m args below meth c H locs 0 0 (ps_Qi D Y B below args s 0 0 q) (F0 m 0 ls []) := by
  have hx := C.1
  have hb := C.2.1
  have hml := C.2.2.1
  have hown := C.2.2.2.1
  have hts := C.2.2.2.2.1
  unfold f_X9_wish at hF
  refine lv_aload_n hx hb dX9_wish_0 rfl (lv_at hl 0 rfl) ?_
  refine pw_gR C hW pc_8 (k := 0) (by decide) rfl tq_396 dX9_wish_1 hF (fun av1 hF => ?_)
  refine lv_iload_n hx hb dX9_wish_4 rfl (lv_at hl 1 rfl) ?_
  obtain ⟨hK, hF⟩ := ps_ck_some hF
  obtain ⟨xv2, M9, hc, hF⟩ := ps_b2_some hF
  refine ps_backI (x0 := xv2) (M' := M9) hS (ps_callV C hW pc_7 mf_X8_hasPerson tq_556 tq_557 tq_555 ⟨Nat.le_of_ble_eq_true rfl, Nat.le_of_ble_eq_true rfl⟩ rfl rfl (As := [.int x1]) (rest := []) (c_X8_hasPerson hc) hK rfl hl.1 rfl (Nat.le_of_ble_eq_true rfl) dX9_wish_5 ⟨Nat.le_of_ble_eq_true rfl, Nat.le_of_ble_eq_true rfl⟩) (fun H locs hW hS => ?_)
  clear hc
  generalize M9 = M at hW hF
  refine lv_if_ne (tgt := 14) hx hb dX9_wish_8 (by decide) (fun hv3 => ?_) (fun hv3 => ?_)
  · replace hF := (if_neg hv3).symm.trans hF
    refine lv_iload_n hx hb dX9_wish_14 rfl (lv_at hl 2 rfl) ?_
    refine lv_iconst (v := 1) hx hb dX9_wish_15 (by decide) ?_
    refine lv_bipush (v := 20) hx hb dX9_wish_16 (by decide) ?_
    obtain ⟨xv4, M9, hc, hF⟩ := ps_b2_some hF
    refine ps_backI (x0 := xv4) (M' := M9) hS (ps_callS C hW mf_X9_isWithin tq_583 tq_582 ⟨Nat.le_of_ble_eq_true rfl, Nat.le_of_ble_eq_true rfl⟩ rfl rfl (As := [.int x2, .int (1 : Int32), .int (20 : Int32)]) (rest := []) (c_X9_isWithin hc) rfl hl.1 rfl (Nat.le_of_ble_eq_true rfl) dX9_wish_18 ⟨Nat.le_of_ble_eq_true rfl, Nat.le_of_ble_eq_true rfl⟩) (fun H locs hW hS => ?_)
    clear hc
    generalize M9 = M at hW hF
    refine lv_if_eq (tgt := 40) hx hb dX9_wish_21 (by decide) (fun hv5 => ?_) (fun hv5 => ?_)
    · replace hF := (if_pos hv5).symm.trans hF
      refine lv_ldc (v := -1000000002) hx hb hown (hts _ tq_434) dX9_wish_40 ?_
      exact kb_X9_wish_b42 C hF hW hS (lv_sub hl [] rfl)
    · replace hF := (if_neg hv5).symm.trans hF
      refine lv_aload_n hx hb dX9_wish_24 rfl (lv_at hl 0 rfl) ?_
      refine lv_aload_n hx hb dX9_wish_25 rfl (lv_at hl 0 rfl) ?_
      refine pw_gR C hW pc_8 (k := 2) (by decide) rfl tq_398 dX9_wish_26 hF (fun av6 hF => ?_)
      refine pw_gR C hW pc_6 (k := 9) (by decide) rfl tq_245 dX9_wish_29 hF (fun av7 hF => ?_)
      refine lv_iload_n hx hb dX9_wish_32 rfl (lv_at hl 1 rfl) ?_
      refine lv_iload_n hx hb dX9_wish_33 rfl (lv_at hl 2 rfl) ?_
      obtain ⟨hK, hF⟩ := ps_ck_some hF
      obtain ⟨xv8, M9, hc, hF⟩ := ps_b2_some hF
      refine ps_backI (x0 := xv8) (M' := M9) hS (ps_callV C hW pc_8 mf_X9_changeRow tq_669 tq_16 tq_667 ⟨Nat.le_of_ble_eq_true rfl, Nat.le_of_ble_eq_true rfl⟩ rfl rfl (As := [.ref (B + av7), .int x1, .int x2]) (rest := []) (c_X9_changeRow hc) hK rfl hl.1 rfl (Nat.le_of_ble_eq_true rfl) dX9_wish_34 ⟨Nat.le_of_ble_eq_true rfl, Nat.le_of_ble_eq_true rfl⟩) (fun H locs hW hS => ?_)
      clear hc
      generalize M9 = M at hW hF
      refine lv_goto (tgt := 42) hx hb dX9_wish_37 (by decide) ?_
      exact kb_X9_wish_b42 C hF hW hS (lv_sub hl [] rfl)
  · replace hF := (if_pos hv3).symm.trans hF
    refine lv_ldc (v := -1000000001) hx hb hown (hts _ tq_547) dX9_wish_11 ?_
    exact pw_iret C hW hS dX9_wish_13 hF
theorem mf_X9_wish : ps_mf yX9_wish cX9_wish 3 ((some .int)) 2 := ⟨tq_666, tq_61, by decide +kernel, by decide +kernel, by decide +kernel⟩
theorem c_X9_wish {l : Launch} {D : va_G} {Y : ps_A} {B : Nat} {M : ps_M} {a0 : Nat} {x1 : Int32} {x2 : Int32} {r : Int32} {M' : ps_M} (hF : f_X9_wish M a0 x1 x2 = some (r, M')) : Met l yX9_wish (Cond.code yX9_wish cX9_wish 3 ((some .int)) :: tb_G) rm_X9_wish (ps_PB D Y B M [.ref (B + a0), .int x1, .int x2]) (va_Qi (fun x (_ : Unit) => x = r) (fun _ t => ps_St D Y B M' t) (fun q => B ≤ q)) 0 0 (fun q => B ≤ q) :=
  pm_of (by decide +kernel) (Nat.le_of_ble_eq_true rfl) (fun p e s m args below meth c C hW hS ls hl => kb_X9_wish C hF hW hS hl)

abbrev rm_X9_habit : Room := { frames := 4, cells := 0, slots := 0, locals := 89 }
def f_X9_habit_b42 (M : ps_M) (t0 : Int32) : Option (Int32 × ps_M) := some (t0, M)
def f_X9_habit (M : ps_M) (a0 : Nat) (x1 : Int32) (x2 : Int32) : Option (Int32 × ps_M) := ps_gR M a0 8 0 (fun av1 => ps_ck M av1 7 (ps_b2 (f_X8_hasPerson M av1 x1) (fun xv2 M => if xv2 = 0 then (some ((-1000000001 : Int32), M)) else (ps_b2 (f_X9_isWithin M x2 (0 : Int32) (9 : Int32)) (fun xv4 M => if xv4 = 0 then (f_X9_habit_b42 M (-1000000002 : Int32)) else (ps_gR M a0 8 2 (fun av6 => ps_gR M av6 6 10 (fun av7 => ps_ck M a0 8 (ps_b2 (f_X9_changeRow M a0 av7 x1 x2) (fun xv8 M => f_X9_habit_b42 M xv8))))))))))
set_option maxRecDepth 100000 in
set_option maxHeartbeats 4000000 in
theorem kb_X9_habit_b42 (C : ps_C p s m args meth c cX9_habit 3 RX9 ((some .int)) "habit" D Y B) {q : Int32 × ps_M}  {M : ps_M} {t0 : Int32} (hF : f_X9_habit_b42 M t0 = some q) (hW : ps_W D Y B M H) (hS : va_S (fun q => B ≤ q) s.heap H locs) (hl : lv_has ls 3 []) : W p l e rm_X9_habit s m args below meth c H locs 0 0 (ps_Qi D Y B below args s 0 0 q) (F0 m 42 ls [.int t0]) := by
  have hx := C.1
  have hb := C.2.1
  have hml := C.2.2.1
  have hown := C.2.2.2.1
  have hts := C.2.2.2.2.1
  unfold f_X9_habit_b42 at hF
  exact pw_iret C hW hS dX9_habit_42 hF
set_option maxRecDepth 100000 in
set_option maxHeartbeats 4000000 in
theorem kb_X9_habit (C : ps_C p s m args meth c cX9_habit 3 RX9 ((some .int)) "habit" D Y B) {q : Int32 × ps_M}  {M : ps_M} {a0 : Nat} {x1 : Int32} {x2 : Int32} (hF : f_X9_habit M a0 x1 x2 = some q) (hW : ps_W D Y B M H) (hS : va_S (fun q => B ≤ q) s.heap H locs) (hl : lv_has ls 3 [(0, .ref (B + a0)), (1, .int x1), (2, .int x2)]) : W p l e rm_X9_habit s m args below meth c H locs 0 0 (ps_Qi D Y B below args s 0 0 q) (F0 m 0 ls []) := by
  have hx := C.1
  have hb := C.2.1
  have hml := C.2.2.1
  have hown := C.2.2.2.1
  have hts := C.2.2.2.2.1
  unfold f_X9_habit at hF
  refine lv_aload_n hx hb dX9_habit_0 rfl (lv_at hl 0 rfl) ?_
  refine pw_gR C hW pc_8 (k := 0) (by decide) rfl tq_396 dX9_habit_1 hF (fun av1 hF => ?_)
  refine lv_iload_n hx hb dX9_habit_4 rfl (lv_at hl 1 rfl) ?_
  obtain ⟨hK, hF⟩ := ps_ck_some hF
  obtain ⟨xv2, M9, hc, hF⟩ := ps_b2_some hF
  refine ps_backI (x0 := xv2) (M' := M9) hS (ps_callV C hW pc_7 mf_X8_hasPerson tq_556 tq_557 tq_555 ⟨Nat.le_of_ble_eq_true rfl, Nat.le_of_ble_eq_true rfl⟩ rfl rfl (As := [.int x1]) (rest := []) (c_X8_hasPerson hc) hK rfl hl.1 rfl (Nat.le_of_ble_eq_true rfl) dX9_habit_5 ⟨Nat.le_of_ble_eq_true rfl, Nat.le_of_ble_eq_true rfl⟩) (fun H locs hW hS => ?_)
  clear hc
  generalize M9 = M at hW hF
  refine lv_if_ne (tgt := 14) hx hb dX9_habit_8 (by decide) (fun hv3 => ?_) (fun hv3 => ?_)
  · replace hF := (if_neg hv3).symm.trans hF
    refine lv_iload_n hx hb dX9_habit_14 rfl (lv_at hl 2 rfl) ?_
    refine lv_iconst (v := 0) hx hb dX9_habit_15 (by decide) ?_
    refine lv_bipush (v := 9) hx hb dX9_habit_16 (by decide) ?_
    obtain ⟨xv4, M9, hc, hF⟩ := ps_b2_some hF
    refine ps_backI (x0 := xv4) (M' := M9) hS (ps_callS C hW mf_X9_isWithin tq_583 tq_582 ⟨Nat.le_of_ble_eq_true rfl, Nat.le_of_ble_eq_true rfl⟩ rfl rfl (As := [.int x2, .int (0 : Int32), .int (9 : Int32)]) (rest := []) (c_X9_isWithin hc) rfl hl.1 rfl (Nat.le_of_ble_eq_true rfl) dX9_habit_18 ⟨Nat.le_of_ble_eq_true rfl, Nat.le_of_ble_eq_true rfl⟩) (fun H locs hW hS => ?_)
    clear hc
    generalize M9 = M at hW hF
    refine lv_if_eq (tgt := 40) hx hb dX9_habit_21 (by decide) (fun hv5 => ?_) (fun hv5 => ?_)
    · replace hF := (if_pos hv5).symm.trans hF
      refine lv_ldc (v := -1000000002) hx hb hown (hts _ tq_434) dX9_habit_40 ?_
      exact kb_X9_habit_b42 C hF hW hS (lv_sub hl [] rfl)
    · replace hF := (if_neg hv5).symm.trans hF
      refine lv_aload_n hx hb dX9_habit_24 rfl (lv_at hl 0 rfl) ?_
      refine lv_aload_n hx hb dX9_habit_25 rfl (lv_at hl 0 rfl) ?_
      refine pw_gR C hW pc_8 (k := 2) (by decide) rfl tq_398 dX9_habit_26 hF (fun av6 hF => ?_)
      refine pw_gR C hW pc_6 (k := 10) (by decide) rfl tq_247 dX9_habit_29 hF (fun av7 hF => ?_)
      refine lv_iload_n hx hb dX9_habit_32 rfl (lv_at hl 1 rfl) ?_
      refine lv_iload_n hx hb dX9_habit_33 rfl (lv_at hl 2 rfl) ?_
      obtain ⟨hK, hF⟩ := ps_ck_some hF
      obtain ⟨xv8, M9, hc, hF⟩ := ps_b2_some hF
      refine ps_backI (x0 := xv8) (M' := M9) hS (ps_callV C hW pc_8 mf_X9_changeRow tq_669 tq_16 tq_667 ⟨Nat.le_of_ble_eq_true rfl, Nat.le_of_ble_eq_true rfl⟩ rfl rfl (As := [.ref (B + av7), .int x1, .int x2]) (rest := []) (c_X9_changeRow hc) hK rfl hl.1 rfl (Nat.le_of_ble_eq_true rfl) dX9_habit_34 ⟨Nat.le_of_ble_eq_true rfl, Nat.le_of_ble_eq_true rfl⟩) (fun H locs hW hS => ?_)
      clear hc
      generalize M9 = M at hW hF
      refine lv_goto (tgt := 42) hx hb dX9_habit_37 (by decide) ?_
      exact kb_X9_habit_b42 C hF hW hS (lv_sub hl [] rfl)
  · replace hF := (if_pos hv3).symm.trans hF
    refine lv_ldc (v := -1000000001) hx hb hown (hts _ tq_547) dX9_habit_11 ?_
    exact pw_iret C hW hS dX9_habit_13 hF
theorem mf_X9_habit : ps_mf yX9_habit cX9_habit 3 ((some .int)) 2 := ⟨tq_675, tq_61, by decide +kernel, by decide +kernel, by decide +kernel⟩
theorem c_X9_habit {l : Launch} {D : va_G} {Y : ps_A} {B : Nat} {M : ps_M} {a0 : Nat} {x1 : Int32} {x2 : Int32} {r : Int32} {M' : ps_M} (hF : f_X9_habit M a0 x1 x2 = some (r, M')) : Met l yX9_habit (Cond.code yX9_habit cX9_habit 3 ((some .int)) :: tb_G) rm_X9_habit (ps_PB D Y B M [.ref (B + a0), .int x1, .int x2]) (va_Qi (fun x (_ : Unit) => x = r) (fun _ t => ps_St D Y B M' t) (fun q => B ≤ q)) 0 0 (fun q => B ≤ q) :=
  pm_of (by decide +kernel) (Nat.le_of_ble_eq_true rfl) (fun p e s m args below meth c C hW hS ls hl => kb_X9_habit C hF hW hS hl)

abbrev rm_X9_drawEighth : Room := { frames := 0, cells := 0, slots := 0, locals := 0 }
def f_X9_drawEighth (M : ps_M) (a0 : Nat) : Option (Int32 × ps_M) := ps_gI M a0 8 10 (fun xv1 => ps_pI M a0 8 10 (((xv1 * (1103515245 : Int32)) + (12345 : Int32)) &&& (2147483647 : Int32)) (fun M => ps_gI M a0 8 10 (fun xv2 => some (((xv2 / (65536 : Int32)) - (xv2 / (65536 : Int32)) / (8 : Int32) * (8 : Int32)), M))))
set_option maxRecDepth 100000 in
set_option maxHeartbeats 4000000 in
theorem kb_X9_drawEighth (C : ps_C p s m args meth c cX9_drawEighth 1 RX9 ((some .int)) "drawEighth" D Y B) {q : Int32 × ps_M}  {M : ps_M} {a0 : Nat} (hF : f_X9_drawEighth M a0 = some q) (hW : ps_W D Y B M H) (hS : va_S (fun q => B ≤ q) s.heap H locs) (hl : lv_has ls 1 [(0, .ref (B + a0))]) : W p l e rm_X9_drawEighth s m args below meth c H locs 0 0 (ps_Qi D Y B below args s 0 0 q) (F0 m 0 ls []) := by
  have hx := C.1
  have hb := C.2.1
  have hml := C.2.2.1
  have hown := C.2.2.2.1
  have hts := C.2.2.2.2.1
  unfold f_X9_drawEighth at hF
  refine lv_aload_n hx hb dX9_drawEighth_0 rfl (lv_at hl 0 rfl) ?_
  refine lv_aload_n hx hb dX9_drawEighth_1 rfl (lv_at hl 0 rfl) ?_
  refine pw_gI C hW pc_8 (k := 10) (by decide) rfl tq_406 dX9_drawEighth_2 hF (fun xv1 hF => ?_)
  refine lv_ldcw (v := 1103515245) hx hb hown (hts _ tq_688) dX9_drawEighth_5 ?_
  refine lv_imul hx hb dX9_drawEighth_8 ?_
  refine lv_sipush (v := 12345) hx hb dX9_drawEighth_9 (by decide) ?_
  refine lv_iadd hx hb dX9_drawEighth_12 ?_
  refine lv_ldcw (v := 2147483647) hx hb hown (hts _ tq_689) dX9_drawEighth_13 ?_
  refine lv_iand hx hb dX9_drawEighth_16 ?_
  refine pw_pI C hW hS pc_8 (k := 10) (by decide) rfl rfl tq_406 rfl dX9_drawEighth_17 hF (fun M H locs hW hS hF => ?_)
  refine lv_aload_n hx hb dX9_drawEighth_20 rfl (lv_at hl 0 rfl) ?_
  refine pw_gI C hW pc_8 (k := 10) (by decide) rfl tq_406 dX9_drawEighth_21 hF (fun xv2 hF => ?_)
  refine lv_ldcw (v := 65536) hx hb hown (hts _ tq_690) dX9_drawEighth_24 ?_
  refine lv_idiv hx hb dX9_drawEighth_27 (by decide) ?_
  refine lv_bipush (v := 8) hx hb dX9_drawEighth_28 (by decide) ?_
  refine lv_irem hx hb dX9_drawEighth_30 (by decide) ?_
  exact pw_iret C hW hS dX9_drawEighth_31 hF
theorem mf_X9_drawEighth : ps_mf yX9_drawEighth cX9_drawEighth 1 ((some .int)) 0 := ⟨tq_687, tq_61, by decide +kernel, by decide +kernel, by decide +kernel⟩
theorem c_X9_drawEighth {l : Launch} {D : va_G} {Y : ps_A} {B : Nat} {M : ps_M} {a0 : Nat} {r : Int32} {M' : ps_M} (hF : f_X9_drawEighth M a0 = some (r, M')) : Met l yX9_drawEighth (Cond.code yX9_drawEighth cX9_drawEighth 1 ((some .int)) :: tb_G) rm_X9_drawEighth (ps_PB D Y B M [.ref (B + a0)]) (va_Qi (fun x (_ : Unit) => x = r) (fun _ t => ps_St D Y B M' t) (fun q => B ≤ q)) 0 0 (fun q => B ≤ q) :=
  pm_of (by decide +kernel) (Nat.le_of_ble_eq_true rfl) (fun p e s m args below meth c C hW hS ls hl => kb_X9_drawEighth C hF hW hS hl)

abbrev rm_X9_driftOnce : Room := { frames := 3, cells := 0, slots := 0, locals := 71 }
def f_X9_driftOnce_b66 (M : ps_M)  : Option (ps_M) := some M
def f_X9_driftOnce (M : ps_M) (a0 : Nat) : Option (ps_M) := ps_ck M a0 8 (ps_b2 (f_X9_drawEighth M a0 ) (fun xv1 M => if xv1 = 0 then (ps_gR M a0 8 2 (fun av4 => ps_ck M av4 6 (ps_b1 (f_X7_restFor M av4 (1 : Int32)) (fun M => f_X9_driftOnce_b66 M )))) else (if xv1 = 1 then (ps_gR M a0 8 2 (fun av5 => ps_pI M av5 6 6 (0 : Int32) (fun M => f_X9_driftOnce_b66 M ))) else (ps_gR M a0 8 2 (fun av6 => ps_gR M a0 8 0 (fun av7 => ps_ck M av6 6 (ps_b2 (f_X7_pullOnce M av6 av7) (fun xv8 M => f_X9_driftOnce_b66 M ))))))))
set_option maxRecDepth 100000 in
set_option maxHeartbeats 4000000 in
theorem kb_X9_driftOnce_b66 (C : ps_C p s m args meth c cX9_driftOnce 1 RX9 none "driftOnce" D Y B) {q : ps_M}  {M : ps_M}  (hF : f_X9_driftOnce_b66 M  = some q) (hW : ps_W D Y B M H) (hS : va_S (fun q => B ≤ q) s.heap H locs) (hl : lv_has ls 1 []) : W p l e rm_X9_driftOnce s m args below meth c H locs 0 0 (ps_Qv D Y B below args s 0 0 q) (F0 m 66 ls []) := by
  have hx := C.1
  have hb := C.2.1
  have hml := C.2.2.1
  have hown := C.2.2.2.1
  have hts := C.2.2.2.2.1
  unfold f_X9_driftOnce_b66 at hF
  exact pw_vret C hW hS dX9_driftOnce_66 hF
set_option maxRecDepth 100000 in
set_option maxHeartbeats 4000000 in
theorem kb_X9_driftOnce (C : ps_C p s m args meth c cX9_driftOnce 1 RX9 none "driftOnce" D Y B) {q : ps_M}  {M : ps_M} {a0 : Nat} (hF : f_X9_driftOnce M a0 = some q) (hW : ps_W D Y B M H) (hS : va_S (fun q => B ≤ q) s.heap H locs) (hl : lv_has ls 1 [(0, .ref (B + a0))]) : W p l e rm_X9_driftOnce s m args below meth c H locs 0 0 (ps_Qv D Y B below args s 0 0 q) (F0 m 0 ls []) := by
  have hx := C.1
  have hb := C.2.1
  have hml := C.2.2.1
  have hown := C.2.2.2.1
  have hts := C.2.2.2.2.1
  unfold f_X9_driftOnce at hF
  refine lv_aload_n hx hb dX9_driftOnce_0 rfl (lv_at hl 0 rfl) ?_
  obtain ⟨hK, hF⟩ := ps_ck_some hF
  obtain ⟨xv1, M9, hc, hF⟩ := ps_b2_some hF
  refine ps_backI (x0 := xv1) (M' := M9) hS (ps_callV C hW pc_8 mf_X9_drawEighth tq_686 tq_18 tq_684 ⟨Nat.le_of_ble_eq_true rfl, Nat.le_of_ble_eq_true rfl⟩ rfl rfl (As := []) (rest := []) (c_X9_drawEighth hc) hK rfl hl.1 rfl (Nat.le_of_ble_eq_true rfl) dX9_driftOnce_1 ⟨Nat.le_of_ble_eq_true rfl, Nat.le_of_ble_eq_true rfl⟩) (fun H locs hW hS => ?_)
  clear hc
  generalize M9 = M at hW hF
  by_cases hv2 : xv1 = 0
  · replace hF := (if_pos hv2).symm.trans hF
    refine lv_lookup (tgt := 32) (off := 28) hx hb dX9_driftOnce_4 (by decide) (by rw [hv2]; decide) (by decide) ?_
    refine lv_aload_n hx hb dX9_driftOnce_32 rfl (lv_at hl 0 rfl) ?_
    refine pw_gR C hW pc_8 (k := 2) (by decide) rfl tq_398 dX9_driftOnce_33 hF (fun av4 hF => ?_)
    refine lv_iconst (v := 1) hx hb dX9_driftOnce_36 (by decide) ?_
    obtain ⟨hK, hF⟩ := ps_ck_some hF
    obtain ⟨M9, hc, hF⟩ := ps_b1_some hF
    refine ps_backV (M' := M9) hS (ps_callV C hW pc_6 mf_X7_restFor tq_640 tq_641 tq_639 ⟨Nat.le_of_ble_eq_true rfl, Nat.le_of_ble_eq_true rfl⟩ rfl rfl (As := [.int (1 : Int32)]) (rest := []) (c_X7_restFor hc) hK rfl hl.1 rfl (Nat.le_of_ble_eq_true rfl) dX9_driftOnce_37 ⟨Nat.le_of_ble_eq_true rfl, Nat.le_of_ble_eq_true rfl⟩) (fun H locs hW hS => ?_)
    clear hc
    generalize M9 = M at hW hF
    refine lv_goto (tgt := 66) hx hb dX9_driftOnce_40 (by decide) ?_
    exact kb_X9_driftOnce_b66 C hF hW hS (lv_sub hl [] rfl)
  replace hF := (if_neg hv2).symm.trans hF
  by_cases hv3 : xv1 = 1
  · replace hF := (if_pos hv3).symm.trans hF
    refine lv_lookup (tgt := 43) (off := 39) hx hb dX9_driftOnce_4 (by decide) (by rw [hv3]; decide) (by decide) ?_
    refine lv_aload_n hx hb dX9_driftOnce_43 rfl (lv_at hl 0 rfl) ?_
    refine pw_gR C hW pc_8 (k := 2) (by decide) rfl tq_398 dX9_driftOnce_44 hF (fun av5 hF => ?_)
    refine lv_iconst (v := 0) hx hb dX9_driftOnce_47 (by decide) ?_
    refine pw_pI C hW hS pc_6 (k := 6) (by decide) rfl rfl tq_236 rfl dX9_driftOnce_48 hF (fun M H locs hW hS hF => ?_)
    refine lv_goto (tgt := 66) hx hb dX9_driftOnce_51 (by decide) ?_
    exact kb_X9_driftOnce_b66 C hF hW hS (lv_sub hl [] rfl)
  replace hF := (if_neg hv3).symm.trans hF
  refine lv_lookup (tgt := 54) (off := 50) hx hb dX9_driftOnce_4 (by decide) (by simp [Op.lookupswitch.offset, ps_tn2 hv2 (z := 0) rfl, ps_tn2 hv3 (z := 1) rfl]) (by decide) ?_
  refine lv_aload_n hx hb dX9_driftOnce_54 rfl (lv_at hl 0 rfl) ?_
  refine pw_gR C hW pc_8 (k := 2) (by decide) rfl tq_398 dX9_driftOnce_55 hF (fun av6 hF => ?_)
  refine lv_aload_n hx hb dX9_driftOnce_58 rfl (lv_at hl 0 rfl) ?_
  refine pw_gR C hW pc_8 (k := 0) (by decide) rfl tq_396 dX9_driftOnce_59 hF (fun av7 hF => ?_)
  obtain ⟨hK, hF⟩ := ps_ck_some hF
  obtain ⟨xv8, M9, hc, hF⟩ := ps_b2_some hF
  refine ps_backI (x0 := xv8) (M' := M9) hS (ps_callV C hW pc_6 mf_X7_pullOnce tq_605 tq_606 tq_604 ⟨Nat.le_of_ble_eq_true rfl, Nat.le_of_ble_eq_true rfl⟩ rfl rfl (As := [.ref (B + av7)]) (rest := []) (c_X7_pullOnce hc) hK rfl hl.1 rfl (Nat.le_of_ble_eq_true rfl) dX9_driftOnce_62 ⟨Nat.le_of_ble_eq_true rfl, Nat.le_of_ble_eq_true rfl⟩) (fun H locs hW hS => ?_)
  clear hc
  generalize M9 = M at hW hF
  refine lv_pop hx hb dX9_driftOnce_65 rfl ?_
  exact kb_X9_driftOnce_b66 C hF hW hS (lv_sub hl [] rfl)
theorem mf_X9_driftOnce : ps_mf yX9_driftOnce cX9_driftOnce 1 none 0 := ⟨tq_683, tq_61, by decide +kernel, by decide +kernel, by decide +kernel⟩
theorem c_X9_driftOnce {l : Launch} {D : va_G} {Y : ps_A} {B : Nat} {M : ps_M} {a0 : Nat} {M' : ps_M} (hF : f_X9_driftOnce M a0 = some M') : Met l yX9_driftOnce (Cond.code yX9_driftOnce cX9_driftOnce 1 none :: tb_G) rm_X9_driftOnce (ps_PB D Y B M [.ref (B + a0)]) (va_Qv (fun (_ : Unit) => True) (fun _ t => ps_St D Y B M' t) (fun q => B ≤ q)) 0 0 (fun q => B ≤ q) :=
  pm_of (by decide +kernel) (Nat.le_of_ble_eq_true rfl) (fun p e s m args below meth c C hW hS ls hl => kb_X9_driftOnce C hF hW hS hl)

abbrev rm_X9_drift : Room := { frames := 4, cells := 0, slots := 0, locals := 91 }
def f_X9_drift_b54 (M : ps_M) (a0 : Nat) : Option (Int32 × ps_M) := ps_gR M a0 8 2 (fun av1 => ps_gI M av1 6 3 (fun xv2 => some (xv2, M)))
def f_X9_drift_w25 (k25 : ps_M → Nat → Int32 → Int32 → Option (Int32 × ps_M)) (M : ps_M) (a0 : Nat) (x1 : Int32) (x3 : Int32) : Option (Int32 × ps_M) := if x1 ≤ x3 then (f_X9_drift_b54 M a0) else (ps_gR M a0 8 2 (fun av4 => ps_gR M a0 8 0 (fun av5 => ps_ck M av4 6 (ps_b2 (f_X7_isThrough M av4 av5) (fun xv6 M => if xv6 = 0 then (ps_ck M a0 8 (ps_b1 (f_X9_driftOnce M a0 ) (fun M => ps_v (x3 + 1) (fun xv8 => k25 M a0 x1 xv8)))) else (f_X9_drift_b54 M a0))))))
def f_X9_drift_l25 : Nat → ps_M → Nat → Int32 → Int32 → Option (Int32 × ps_M)
  | 0, _, _, _, _ => none
  | n + 1, M, a0, x1, x3 => f_X9_drift_w25 (f_X9_drift_l25 n) M a0 x1 x3
def f_X9_drift (M : ps_M) (a0 : Nat) (x1 : Int32) : Option (Int32 × ps_M) := ps_ck M a0 8 (ps_b2 (f_X9_refusalOfSawing M a0 x1) (fun xv9 M => if xv9 = 0 then (ps_gR M a0 8 3 (fun av11 => ps_gR M a0 8 2 (fun av12 => ps_ck M av11 2 (ps_b1 (f_X2_remember M av11 av12) (fun M => f_X9_drift_l25 ps_fu M a0 x1 (0 : Int32)))))) else (some (xv9, M))))
set_option maxRecDepth 100000 in
set_option maxHeartbeats 4000000 in
theorem kb_X9_drift_b54 (C : ps_C p s m args meth c cX9_drift 4 RX9 ((some .int)) "drift" D Y B) {q : Int32 × ps_M}  {M : ps_M} {a0 : Nat} (hF : f_X9_drift_b54 M a0 = some q) (hW : ps_W D Y B M H) (hS : va_S (fun q => B ≤ q) s.heap H locs) (hl : lv_has ls 4 [(0, .ref (B + a0))]) : W p l e rm_X9_drift s m args below meth c H locs 0 0 (ps_Qi D Y B below args s 0 0 q) (F0 m 54 ls []) := by
  have hx := C.1
  have hb := C.2.1
  have hml := C.2.2.1
  have hown := C.2.2.2.1
  have hts := C.2.2.2.2.1
  unfold f_X9_drift_b54 at hF
  refine lv_aload_n hx hb dX9_drift_54 rfl (lv_at hl 0 rfl) ?_
  refine pw_gR C hW pc_8 (k := 2) (by decide) rfl tq_398 dX9_drift_55 hF (fun av1 hF => ?_)
  refine pw_gI C hW pc_6 (k := 3) (by decide) rfl tq_229 dX9_drift_58 hF (fun xv2 hF => ?_)
  exact pw_iret C hW hS dX9_drift_61 hF
set_option maxRecDepth 100000 in
set_option maxHeartbeats 4000000 in
theorem kb_X9_drift_w25 (C : ps_C p s m args meth c cX9_drift 4 RX9 ((some .int)) "drift" D Y B) {q : Int32 × ps_M} (k25 : ps_M → Nat → Int32 → Int32 → Option (Int32 × ps_M)) (hk25 : ∀ (M : ps_M) (H : Heap) (locs : List Loc) (ls : Array Slot) (a0 : Nat) (x1 : Int32) (x3 : Int32), k25 M a0 x1 x3 = some q → ps_W D Y B M H → va_S (fun q => B ≤ q) s.heap H locs → lv_has ls 4 [(0, .ref (B + a0)), (1, .int x1), (3, .int x3)] → W p l e rm_X9_drift s m args below meth c H locs 0 0 (ps_Qi D Y B below args s 0 0 q) (F0 m 25 ls [])) {M : ps_M} {a0 : Nat} {x1 : Int32} {x3 : Int32} (hF : f_X9_drift_w25 k25 M a0 x1 x3 = some q) (hW : ps_W D Y B M H) (hS : va_S (fun q => B ≤ q) s.heap H locs) (hl : lv_has ls 4 [(0, .ref (B + a0)), (1, .int x1), (3, .int x3)]) : W p l e rm_X9_drift s m args below meth c H locs 0 0 (ps_Qi D Y B below args s 0 0 q) (F0 m 25 ls []) := by
  have hx := C.1
  have hb := C.2.1
  have hml := C.2.2.1
  have hown := C.2.2.2.1
  have hts := C.2.2.2.2.1
  unfold f_X9_drift_w25 at hF
  refine lv_iload_n hx hb dX9_drift_25 rfl (lv_at hl 2 rfl) ?_
  refine lv_iload_n hx hb dX9_drift_26 rfl (lv_at hl 1 rfl) ?_
  refine lv_icmp_ge (tgt := 54) hx hb dX9_drift_27 (by decide) (fun hv3 => ?_) (fun hv3 => ?_)
  · replace hF := (if_pos hv3).symm.trans hF
    exact kb_X9_drift_b54 C hF hW hS (lv_sub hl [0] rfl)
  · replace hF := (if_neg hv3).symm.trans hF
    refine lv_aload_n hx hb dX9_drift_30 rfl (lv_at hl 0 rfl) ?_
    refine pw_gR C hW pc_8 (k := 2) (by decide) rfl tq_398 dX9_drift_31 hF (fun av4 hF => ?_)
    refine lv_aload_n hx hb dX9_drift_34 rfl (lv_at hl 0 rfl) ?_
    refine pw_gR C hW pc_8 (k := 0) (by decide) rfl tq_396 dX9_drift_35 hF (fun av5 hF => ?_)
    obtain ⟨hK, hF⟩ := ps_ck_some hF
    obtain ⟨xv6, M9, hc, hF⟩ := ps_b2_some hF
    refine ps_backI (x0 := xv6) (M' := M9) hS (ps_callV C hW pc_6 mf_X7_isThrough tq_536 tq_537 tq_535 ⟨Nat.le_of_ble_eq_true rfl, Nat.le_of_ble_eq_true rfl⟩ rfl rfl (As := [.ref (B + av5)]) (rest := []) (c_X7_isThrough hc) hK rfl hl.1 rfl (Nat.le_of_ble_eq_true rfl) dX9_drift_38 ⟨Nat.le_of_ble_eq_true rfl, Nat.le_of_ble_eq_true rfl⟩) (fun H locs hW hS => ?_)
    clear hc
    generalize M9 = M at hW hF
    refine lv_if_ne (tgt := 54) hx hb dX9_drift_41 (by decide) (fun hv7 => ?_) (fun hv7 => ?_)
    · replace hF := (if_neg hv7).symm.trans hF
      exact kb_X9_drift_b54 C hF hW hS (lv_sub hl [0] rfl)
    · replace hF := (if_pos hv7).symm.trans hF
      refine lv_aload_n hx hb dX9_drift_44 rfl (lv_at hl 0 rfl) ?_
      obtain ⟨hK, hF⟩ := ps_ck_some hF
      obtain ⟨M9, hc, hF⟩ := ps_b1_some hF
      refine ps_backV (M' := M9) hS (ps_callV C hW pc_8 mf_X9_driftOnce tq_682 tq_17 tq_680 ⟨Nat.le_of_ble_eq_true rfl, Nat.le_of_ble_eq_true rfl⟩ rfl rfl (As := []) (rest := []) (c_X9_driftOnce hc) hK rfl hl.1 rfl (Nat.le_of_ble_eq_true rfl) dX9_drift_45 ⟨Nat.le_of_ble_eq_true rfl, Nat.le_of_ble_eq_true rfl⟩) (fun H locs hW hS => ?_)
      clear hc
      generalize M9 = M at hW hF
      obtain ⟨xv8, exv8, hF⟩ := ps_ve hF
      refine lv_iinc (v := xv8) (lv' := [(3, .int xv8), (0, .ref (B + a0)), (1, .int x1)]) hx hb dX9_drift_48 hl (k := 2) rfl (by rw [exv8]; rfl) (by decide) rfl (fun ls hl => ?_)
      clear exv8
      refine lv_goto (tgt := 25) hx hb dX9_drift_51 (by decide) ?_
      exact hk25 M _ _ _ a0 x1 xv8 hF hW hS (lv_sub hl [1, 2, 0] rfl)
theorem kb_X9_drift_l25 (C : ps_C p s m args meth c cX9_drift 4 RX9 ((some .int)) "drift" D Y B) {q : Int32 × ps_M}  : ∀ (n : Nat) (M : ps_M) (H : Heap) (locs : List Loc) (ls : Array Slot) (a0 : Nat) (x1 : Int32) (x3 : Int32), f_X9_drift_l25 n M a0 x1 x3 = some q → ps_W D Y B M H → va_S (fun q => B ≤ q) s.heap H locs → lv_has ls 4 [(0, .ref (B + a0)), (1, .int x1), (3, .int x3)] → W p l e rm_X9_drift s m args below meth c H locs 0 0 (ps_Qi D Y B below args s 0 0 q) (F0 m 25 ls []) := by
  intro n
  induction n with
  | zero => intro M H locs ls a0 x1 x3 hF; cases hF
  | succ n ih => intro M H locs ls a0 x1 x3 hF hW hS hl; exact kb_X9_drift_w25 C  (f_X9_drift_l25 n) ih hF hW hS hl
set_option maxRecDepth 100000 in
set_option maxHeartbeats 4000000 in
theorem kb_X9_drift (C : ps_C p s m args meth c cX9_drift 4 RX9 ((some .int)) "drift" D Y B) {q : Int32 × ps_M}  {M : ps_M} {a0 : Nat} {x1 : Int32} (hF : f_X9_drift M a0 x1 = some q) (hW : ps_W D Y B M H) (hS : va_S (fun q => B ≤ q) s.heap H locs) (hl : lv_has ls 4 [(0, .ref (B + a0)), (1, .int x1)]) : W p l e rm_X9_drift s m args below meth c H locs 0 0 (ps_Qi D Y B below args s 0 0 q) (F0 m 0 ls []) := by
  have hx := C.1
  have hb := C.2.1
  have hml := C.2.2.1
  have hown := C.2.2.2.1
  have hts := C.2.2.2.2.1
  unfold f_X9_drift at hF
  refine lv_aload_n hx hb dX9_drift_0 rfl (lv_at hl 0 rfl) ?_
  refine lv_iload_n hx hb dX9_drift_1 rfl (lv_at hl 1 rfl) ?_
  obtain ⟨hK, hF⟩ := ps_ck_some hF
  obtain ⟨xv9, M9, hc, hF⟩ := ps_b2_some hF
  refine ps_backI (x0 := xv9) (M' := M9) hS (ps_callV C hW pc_8 mf_X9_refusalOfSawing tq_580 tq_10 tq_578 ⟨Nat.le_of_ble_eq_true rfl, Nat.le_of_ble_eq_true rfl⟩ rfl rfl (As := [.int x1]) (rest := []) (c_X9_refusalOfSawing hc) hK rfl hl.1 rfl (Nat.le_of_ble_eq_true rfl) dX9_drift_2 ⟨Nat.le_of_ble_eq_true rfl, Nat.le_of_ble_eq_true rfl⟩) (fun H locs hW hS => ?_)
  clear hc
  generalize M9 = M at hW hF
  refine lv_istore_n (lv' := [(2, .int xv9), (0, .ref (B + a0)), (1, .int x1)]) hx hb dX9_drift_5 rfl hl (by decide) rfl (fun ls hl => ?_)
  refine lv_iload_n hx hb dX9_drift_6 rfl (lv_at hl 0 rfl) ?_
  refine lv_if_eq (tgt := 12) hx hb dX9_drift_7 (by decide) (fun hv10 => ?_) (fun hv10 => ?_)
  · replace hF := (if_pos hv10).symm.trans hF
    refine lv_aload_n hx hb dX9_drift_12 rfl (lv_at hl 1 rfl) ?_
    refine pw_gR C hW pc_8 (k := 3) (by decide) rfl tq_399 dX9_drift_13 hF (fun av11 hF => ?_)
    refine lv_aload_n hx hb dX9_drift_16 rfl (lv_at hl 1 rfl) ?_
    refine pw_gR C hW pc_8 (k := 2) (by decide) rfl tq_398 dX9_drift_17 hF (fun av12 hF => ?_)
    obtain ⟨hK, hF⟩ := ps_ck_some hF
    obtain ⟨M9, hc, hF⟩ := ps_b1_some hF
    refine ps_backV (M' := M9) hS (ps_callV C hW pc_2 mf_X2_remember tq_590 tq_591 tq_589 ⟨Nat.le_of_ble_eq_true rfl, Nat.le_of_ble_eq_true rfl⟩ rfl rfl (As := [.ref (B + av12)]) (rest := []) (c_X2_remember hc) hK rfl hl.1 rfl (Nat.le_of_ble_eq_true rfl) dX9_drift_20 ⟨Nat.le_of_ble_eq_true rfl, Nat.le_of_ble_eq_true rfl⟩) (fun H locs hW hS => ?_)
    clear hc
    generalize M9 = M at hW hF
    refine lv_iconst (v := 0) hx hb dX9_drift_23 (by decide) ?_
    refine lv_istore_n (lv' := [(3, .int (0 : Int32)), (2, .int xv9), (0, .ref (B + a0)), (1, .int x1)]) hx hb dX9_drift_24 rfl hl (by decide) rfl (fun ls hl => ?_)
    exact kb_X9_drift_l25 C ps_fu M _ _ _ a0 x1 (0 : Int32) hF hW hS (lv_sub hl [2, 3, 0] rfl)
  · replace hF := (if_neg hv10).symm.trans hF
    refine lv_iload_n hx hb dX9_drift_10 rfl (lv_at hl 0 rfl) ?_
    exact pw_iret C hW hS dX9_drift_11 hF
theorem mf_X9_drift : ps_mf yX9_drift cX9_drift 4 ((some .int)) 1 := ⟨tq_679, tq_61, by decide +kernel, by decide +kernel, by decide +kernel⟩
theorem c_X9_drift {l : Launch} {D : va_G} {Y : ps_A} {B : Nat} {M : ps_M} {a0 : Nat} {x1 : Int32} {r : Int32} {M' : ps_M} (hF : f_X9_drift M a0 x1 = some (r, M')) : Met l yX9_drift (Cond.code yX9_drift cX9_drift 4 ((some .int)) :: tb_G) rm_X9_drift (ps_PB D Y B M [.ref (B + a0), .int x1]) (va_Qi (fun x (_ : Unit) => x = r) (fun _ t => ps_St D Y B M' t) (fun q => B ≤ q)) 0 0 (fun q => B ≤ q) :=
  pm_of (by decide +kernel) (Nat.le_of_ble_eq_true rfl) (fun p e s m args below meth c C hW hS ls hl => kb_X9_drift C hF hW hS hl)

abbrev rm_X9_undo : Room := { frames := 3, cells := 0, slots := 0, locals := 67 }
def f_X9_undo (M : ps_M) (a0 : Nat) (x1 : Int32) : Option (Int32 × ps_M) := ps_b2 (f_X9_isWithin M x1 (1 : Int32) (30 : Int32)) (fun xv1 M => if xv1 = 0 then (some ((-1000000002 : Int32), M)) else (ps_gR M a0 8 3 (fun av3 => ps_gI M av3 2 0 (fun xv4 => if x1 ≤ xv4 then (ps_gR M a0 8 3 (fun av6 => ps_gR M a0 8 2 (fun av7 => ps_ck M av6 2 (ps_b1 (f_X2_bringBack M av6 x1 av7) (fun M => ps_gR M a0 8 2 (fun av8 => ps_gI M av8 6 4 (fun xv9 => some (xv9, M)))))))) else (some ((-1000000003 : Int32), M))))))
set_option maxRecDepth 100000 in
set_option maxHeartbeats 4000000 in
theorem kb_X9_undo (C : ps_C p s m args meth c cX9_undo 2 RX9 ((some .int)) "undo" D Y B) {q : Int32 × ps_M}  {M : ps_M} {a0 : Nat} {x1 : Int32} (hF : f_X9_undo M a0 x1 = some q) (hW : ps_W D Y B M H) (hS : va_S (fun q => B ≤ q) s.heap H locs) (hl : lv_has ls 2 [(0, .ref (B + a0)), (1, .int x1)]) : W p l e rm_X9_undo s m args below meth c H locs 0 0 (ps_Qi D Y B below args s 0 0 q) (F0 m 0 ls []) := by
  have hx := C.1
  have hb := C.2.1
  have hml := C.2.2.1
  have hown := C.2.2.2.1
  have hts := C.2.2.2.2.1
  unfold f_X9_undo at hF
  refine lv_iload_n hx hb dX9_undo_0 rfl (lv_at hl 1 rfl) ?_
  refine lv_iconst (v := 1) hx hb dX9_undo_1 (by decide) ?_
  refine lv_bipush (v := 30) hx hb dX9_undo_2 (by decide) ?_
  obtain ⟨xv1, M9, hc, hF⟩ := ps_b2_some hF
  refine ps_backI (x0 := xv1) (M' := M9) hS (ps_callS C hW mf_X9_isWithin tq_583 tq_582 ⟨Nat.le_of_ble_eq_true rfl, Nat.le_of_ble_eq_true rfl⟩ rfl rfl (As := [.int x1, .int (1 : Int32), .int (30 : Int32)]) (rest := []) (c_X9_isWithin hc) rfl hl.1 rfl (Nat.le_of_ble_eq_true rfl) dX9_undo_4 ⟨Nat.le_of_ble_eq_true rfl, Nat.le_of_ble_eq_true rfl⟩) (fun H locs hW hS => ?_)
  clear hc
  generalize M9 = M at hW hF
  refine lv_if_ne (tgt := 13) hx hb dX9_undo_7 (by decide) (fun hv2 => ?_) (fun hv2 => ?_)
  · replace hF := (if_neg hv2).symm.trans hF
    refine lv_iload_n hx hb dX9_undo_13 rfl (lv_at hl 1 rfl) ?_
    refine lv_aload_n hx hb dX9_undo_14 rfl (lv_at hl 0 rfl) ?_
    refine pw_gR C hW pc_8 (k := 3) (by decide) rfl tq_399 dX9_undo_15 hF (fun av3 hF => ?_)
    refine pw_gI C hW pc_2 (k := 0) (by decide) rfl tq_292 dX9_undo_18 hF (fun xv4 hF => ?_)
    refine lv_icmp_le (tgt := 27) hx hb dX9_undo_21 (by decide) (fun hv5 => ?_) (fun hv5 => ?_)
    · replace hF := (if_pos hv5).symm.trans hF
      refine lv_aload_n hx hb dX9_undo_27 rfl (lv_at hl 0 rfl) ?_
      refine pw_gR C hW pc_8 (k := 3) (by decide) rfl tq_399 dX9_undo_28 hF (fun av6 hF => ?_)
      refine lv_iload_n hx hb dX9_undo_31 rfl (lv_at hl 1 rfl) ?_
      refine lv_aload_n hx hb dX9_undo_32 rfl (lv_at hl 0 rfl) ?_
      refine pw_gR C hW pc_8 (k := 2) (by decide) rfl tq_398 dX9_undo_33 hF (fun av7 hF => ?_)
      obtain ⟨hK, hF⟩ := ps_ck_some hF
      obtain ⟨M9, hc, hF⟩ := ps_b1_some hF
      refine ps_backV (M' := M9) hS (ps_callV C hW pc_2 mf_X2_bringBack tq_696 tq_697 tq_695 ⟨Nat.le_of_ble_eq_true rfl, Nat.le_of_ble_eq_true rfl⟩ rfl rfl (As := [.int x1, .ref (B + av7)]) (rest := []) (c_X2_bringBack hc) hK rfl hl.1 rfl (Nat.le_of_ble_eq_true rfl) dX9_undo_36 ⟨Nat.le_of_ble_eq_true rfl, Nat.le_of_ble_eq_true rfl⟩) (fun H locs hW hS => ?_)
      clear hc
      generalize M9 = M at hW hF
      refine lv_aload_n hx hb dX9_undo_39 rfl (lv_at hl 0 rfl) ?_
      refine pw_gR C hW pc_8 (k := 2) (by decide) rfl tq_398 dX9_undo_40 hF (fun av8 hF => ?_)
      refine pw_gI C hW pc_6 (k := 4) (by decide) rfl tq_232 dX9_undo_43 hF (fun xv9 hF => ?_)
      exact pw_iret C hW hS dX9_undo_46 hF
    · replace hF := (if_neg hv5).symm.trans hF
      refine lv_ldc (v := -1000000003) hx hb hown (hts _ tq_572) dX9_undo_24 ?_
      exact pw_iret C hW hS dX9_undo_26 hF
  · replace hF := (if_pos hv2).symm.trans hF
    refine lv_ldc (v := -1000000002) hx hb hown (hts _ tq_434) dX9_undo_10 ?_
    exact pw_iret C hW hS dX9_undo_12 hF
theorem mf_X9_undo : ps_mf yX9_undo cX9_undo 2 ((some .int)) 1 := ⟨tq_694, tq_61, by decide +kernel, by decide +kernel, by decide +kernel⟩
theorem c_X9_undo {l : Launch} {D : va_G} {Y : ps_A} {B : Nat} {M : ps_M} {a0 : Nat} {x1 : Int32} {r : Int32} {M' : ps_M} (hF : f_X9_undo M a0 x1 = some (r, M')) : Met l yX9_undo (Cond.code yX9_undo cX9_undo 2 ((some .int)) :: tb_G) rm_X9_undo (ps_PB D Y B M [.ref (B + a0), .int x1]) (va_Qi (fun x (_ : Unit) => x = r) (fun _ t => ps_St D Y B M' t) (fun q => B ≤ q)) 0 0 (fun q => B ≤ q) :=
  pm_of (by decide +kernel) (Nat.le_of_ble_eq_true rfl) (fun p e s m args below meth c C hW hS ls hl => kb_X9_undo C hF hW hS hl)

abbrev rm_X9_noneIfNever : Room := { frames := 0, cells := 0, slots := 0, locals := 0 }
def f_X9_noneIfNever_b12 (M : ps_M) (t0 : Int32) : Option (Int32 × ps_M) := some (t0, M)
def f_X9_noneIfNever (M : ps_M) (x0 : Int32) : Option (Int32 × ps_M) := if x0 = (1000 : Int32) then (f_X9_noneIfNever_b12 M (-1 : Int32)) else (f_X9_noneIfNever_b12 M x0)
set_option maxRecDepth 100000 in
set_option maxHeartbeats 4000000 in
theorem kb_X9_noneIfNever_b12 (C : ps_C p s m args meth c cX9_noneIfNever 1 RX9 ((some .int)) "noneIfNever" D Y B) {q : Int32 × ps_M}  {M : ps_M} {t0 : Int32} (hF : f_X9_noneIfNever_b12 M t0 = some q) (hW : ps_W D Y B M H) (hS : va_S (fun q => B ≤ q) s.heap H locs) (hl : lv_has ls 1 []) : W p l e rm_X9_noneIfNever s m args below meth c H locs 0 0 (ps_Qi D Y B below args s 0 0 q) (F0 m 12 ls [.int t0]) := by
  have hx := C.1
  have hb := C.2.1
  have hml := C.2.2.1
  have hown := C.2.2.2.1
  have hts := C.2.2.2.2.1
  unfold f_X9_noneIfNever_b12 at hF
  exact pw_iret C hW hS dX9_noneIfNever_12 hF
set_option maxRecDepth 100000 in
set_option maxHeartbeats 4000000 in
theorem kb_X9_noneIfNever (C : ps_C p s m args meth c cX9_noneIfNever 1 RX9 ((some .int)) "noneIfNever" D Y B) {q : Int32 × ps_M}  {M : ps_M} {x0 : Int32} (hF : f_X9_noneIfNever M x0 = some q) (hW : ps_W D Y B M H) (hS : va_S (fun q => B ≤ q) s.heap H locs) (hl : lv_has ls 1 [(0, .int x0)]) : W p l e rm_X9_noneIfNever s m args below meth c H locs 0 0 (ps_Qi D Y B below args s 0 0 q) (F0 m 0 ls []) := by
  have hx := C.1
  have hb := C.2.1
  have hml := C.2.2.1
  have hown := C.2.2.2.1
  have hts := C.2.2.2.2.1
  unfold f_X9_noneIfNever at hF
  refine lv_iload_n hx hb dX9_noneIfNever_0 rfl (lv_at hl 0 rfl) ?_
  refine lv_sipush (v := 1000) hx hb dX9_noneIfNever_1 (by decide) ?_
  refine lv_icmp_ne (tgt := 11) hx hb dX9_noneIfNever_4 (by decide) (fun hv1 => ?_) (fun hv1 => ?_)
  · replace hF := (if_neg hv1).symm.trans hF
    refine lv_iload_n hx hb dX9_noneIfNever_11 rfl (lv_at hl 0 rfl) ?_
    exact kb_X9_noneIfNever_b12 C hF hW hS (lv_sub hl [] rfl)
  · replace hF := (if_pos hv1).symm.trans hF
    refine lv_iconst (v := -1) hx hb dX9_noneIfNever_7 (by decide) ?_
    refine lv_goto (tgt := 12) hx hb dX9_noneIfNever_8 (by decide) ?_
    exact kb_X9_noneIfNever_b12 C hF hW hS (lv_sub hl [] rfl)
theorem mf_X9_noneIfNever : ps_mf yX9_noneIfNever cX9_noneIfNever 1 ((some .int)) 1 := ⟨tq_725, tq_61, by decide +kernel, by decide +kernel, by decide +kernel⟩
theorem c_X9_noneIfNever {l : Launch} {D : va_G} {Y : ps_A} {B : Nat} {M : ps_M} {x0 : Int32} {r : Int32} {M' : ps_M} (hF : f_X9_noneIfNever M x0 = some (r, M')) : Met l yX9_noneIfNever (Cond.code yX9_noneIfNever cX9_noneIfNever 1 ((some .int)) :: tb_G) rm_X9_noneIfNever (ps_PB D Y B M [.int x0]) (va_Qi (fun x (_ : Unit) => x = r) (fun _ t => ps_St D Y B M' t) (fun q => B ≤ q)) 0 0 (fun q => B ≤ q) :=
  pm_of (by decide +kernel) (Nat.le_of_ble_eq_true rfl) (fun p e s m args below meth c C hW hS ls hl => kb_X9_noneIfNever C hF hW hS hl)

abbrev rm_X9_toGo : Room := { frames := 5, cells := 0, slots := 0, locals := 118 }
def f_X9_toGo_b33 (M : ps_M) (t0 : Int32) : Option (Int32 × ps_M) := some (t0, M)
def f_X9_toGo (M : ps_M) (a0 : Nat) : Option (Int32 × ps_M) := ps_gR M a0 8 2 (fun av1 => ps_ck M av1 6 (ps_b2 (f_X7_hasPair M av1 ) (fun xv2 M => if xv2 = 0 then (f_X9_toGo_b33 M (-1000000003 : Int32)) else (ps_gR M a0 8 4 (fun av4 => ps_gR M a0 8 0 (fun av5 => ps_gR M a0 8 2 (fun av6 => ps_ck M av4 5 (ps_b2 (f_X6_strokesFrom M av4 av5 av6) (fun xv7 M => ps_b2 (f_X9_noneIfNever M xv7) (fun xv8 M => f_X9_toGo_b33 M xv8))))))))))
set_option maxRecDepth 100000 in
set_option maxHeartbeats 4000000 in
theorem kb_X9_toGo_b33 (C : ps_C p s m args meth c cX9_toGo 1 RX9 ((some .int)) "toGo" D Y B) {q : Int32 × ps_M}  {M : ps_M} {t0 : Int32} (hF : f_X9_toGo_b33 M t0 = some q) (hW : ps_W D Y B M H) (hS : va_S (fun q => B ≤ q) s.heap H locs) (hl : lv_has ls 1 []) : W p l e rm_X9_toGo s m args below meth c H locs 0 0 (ps_Qi D Y B below args s 0 0 q) (F0 m 33 ls [.int t0]) := by
  have hx := C.1
  have hb := C.2.1
  have hml := C.2.2.1
  have hown := C.2.2.2.1
  have hts := C.2.2.2.2.1
  unfold f_X9_toGo_b33 at hF
  exact pw_iret C hW hS dX9_toGo_33 hF
set_option maxRecDepth 100000 in
set_option maxHeartbeats 4000000 in
theorem kb_X9_toGo (C : ps_C p s m args meth c cX9_toGo 1 RX9 ((some .int)) "toGo" D Y B) {q : Int32 × ps_M}  {M : ps_M} {a0 : Nat} (hF : f_X9_toGo M a0 = some q) (hW : ps_W D Y B M H) (hS : va_S (fun q => B ≤ q) s.heap H locs) (hl : lv_has ls 1 [(0, .ref (B + a0))]) : W p l e rm_X9_toGo s m args below meth c H locs 0 0 (ps_Qi D Y B below args s 0 0 q) (F0 m 0 ls []) := by
  have hx := C.1
  have hb := C.2.1
  have hml := C.2.2.1
  have hown := C.2.2.2.1
  have hts := C.2.2.2.2.1
  unfold f_X9_toGo at hF
  refine lv_aload_n hx hb dX9_toGo_0 rfl (lv_at hl 0 rfl) ?_
  refine pw_gR C hW pc_8 (k := 2) (by decide) rfl tq_398 dX9_toGo_1 hF (fun av1 hF => ?_)
  obtain ⟨hK, hF⟩ := ps_ck_some hF
  obtain ⟨xv2, M9, hc, hF⟩ := ps_b2_some hF
  refine ps_backI (x0 := xv2) (M' := M9) hS (ps_callV C hW pc_6 mf_X7_hasPair tq_586 tq_587 tq_585 ⟨Nat.le_of_ble_eq_true rfl, Nat.le_of_ble_eq_true rfl⟩ rfl rfl (As := []) (rest := []) (c_X7_hasPair hc) hK rfl hl.1 rfl (Nat.le_of_ble_eq_true rfl) dX9_toGo_4 ⟨Nat.le_of_ble_eq_true rfl, Nat.le_of_ble_eq_true rfl⟩) (fun H locs hW hS => ?_)
  clear hc
  generalize M9 = M at hW hF
  refine lv_if_eq (tgt := 31) hx hb dX9_toGo_7 (by decide) (fun hv3 => ?_) (fun hv3 => ?_)
  · replace hF := (if_pos hv3).symm.trans hF
    refine lv_ldc (v := -1000000003) hx hb hown (hts _ tq_572) dX9_toGo_31 ?_
    exact kb_X9_toGo_b33 C hF hW hS (lv_sub hl [] rfl)
  · replace hF := (if_neg hv3).symm.trans hF
    refine lv_aload_n hx hb dX9_toGo_10 rfl (lv_at hl 0 rfl) ?_
    refine pw_gR C hW pc_8 (k := 4) (by decide) rfl tq_400 dX9_toGo_11 hF (fun av4 hF => ?_)
    refine lv_aload_n hx hb dX9_toGo_14 rfl (lv_at hl 0 rfl) ?_
    refine pw_gR C hW pc_8 (k := 0) (by decide) rfl tq_396 dX9_toGo_15 hF (fun av5 hF => ?_)
    refine lv_aload_n hx hb dX9_toGo_18 rfl (lv_at hl 0 rfl) ?_
    refine pw_gR C hW pc_8 (k := 2) (by decide) rfl tq_398 dX9_toGo_19 hF (fun av6 hF => ?_)
    obtain ⟨hK, hF⟩ := ps_ck_some hF
    obtain ⟨xv7, M9, hc, hF⟩ := ps_b2_some hF
    refine ps_backI (x0 := xv7) (M' := M9) hS (ps_callV C hW pc_5 mf_X6_strokesFrom tq_704 tq_705 tq_703 ⟨Nat.le_of_ble_eq_true rfl, Nat.le_of_ble_eq_true rfl⟩ rfl rfl (As := [.ref (B + av5), .ref (B + av6)]) (rest := []) (c_X6_strokesFrom hc) hK rfl hl.1 rfl (Nat.le_of_ble_eq_true rfl) dX9_toGo_22 ⟨Nat.le_of_ble_eq_true rfl, Nat.le_of_ble_eq_true rfl⟩) (fun H locs hW hS => ?_)
    clear hc
    generalize M9 = M at hW hF
    obtain ⟨xv8, M9, hc, hF⟩ := ps_b2_some hF
    refine ps_backI (x0 := xv8) (M' := M9) hS (ps_callS C hW mf_X9_noneIfNever tq_724 tq_723 ⟨Nat.le_of_ble_eq_true rfl, Nat.le_of_ble_eq_true rfl⟩ rfl rfl (As := [.int xv7]) (rest := []) (c_X9_noneIfNever hc) rfl hl.1 rfl (Nat.le_of_ble_eq_true rfl) dX9_toGo_25 ⟨Nat.le_of_ble_eq_true rfl, Nat.le_of_ble_eq_true rfl⟩) (fun H locs hW hS => ?_)
    clear hc
    generalize M9 = M at hW hF
    refine lv_goto (tgt := 33) hx hb dX9_toGo_28 (by decide) ?_
    exact kb_X9_toGo_b33 C hF hW hS (lv_sub hl [] rfl)
theorem mf_X9_toGo : ps_mf yX9_toGo cX9_toGo 1 ((some .int)) 0 := ⟨tq_702, tq_61, by decide +kernel, by decide +kernel, by decide +kernel⟩
theorem c_X9_toGo {l : Launch} {D : va_G} {Y : ps_A} {B : Nat} {M : ps_M} {a0 : Nat} {r : Int32} {M' : ps_M} (hF : f_X9_toGo M a0 = some (r, M')) : Met l yX9_toGo (Cond.code yX9_toGo cX9_toGo 1 ((some .int)) :: tb_G) rm_X9_toGo (ps_PB D Y B M [.ref (B + a0)]) (va_Qi (fun x (_ : Unit) => x = r) (fun _ t => ps_St D Y B M' t) (fun q => B ≤ q)) 0 0 (fun q => B ≤ q) :=
  pm_of (by decide +kernel) (Nat.le_of_ble_eq_true rfl) (fun p e s m args below meth c C hW hS ls hl => kb_X9_toGo C hF hW hS hl)

abbrev rm_X9_fresh : Room := { frames := 5, cells := 0, slots := 0, locals := 120 }
def f_X9_fresh_b35 (M : ps_M) (t0 : Int32) : Option (Int32 × ps_M) := some (t0, M)
def f_X9_fresh (M : ps_M) (a0 : Nat) (x1 : Int32) (x2 : Int32) : Option (Int32 × ps_M) := ps_ck M a0 8 (ps_b2 (f_X9_refusalOfTwo M a0 x1 x2) (fun xv1 M => if xv1 = 0 then (ps_gR M a0 8 4 (fun av3 => ps_gR M a0 8 0 (fun av4 => ps_gR M a0 8 2 (fun av5 => ps_ck M av3 5 (ps_b2 (f_X6_strokesFresh M av3 av4 av5 x1 x2) (fun xv6 M => ps_b2 (f_X9_noneIfNever M xv6) (fun xv7 M => f_X9_fresh_b35 M xv7))))))) else (f_X9_fresh_b35 M xv1)))
set_option maxRecDepth 100000 in
set_option maxHeartbeats 4000000 in
theorem kb_X9_fresh_b35 (C : ps_C p s m args meth c cX9_fresh 4 RX9 ((some .int)) "fresh" D Y B) {q : Int32 × ps_M}  {M : ps_M} {t0 : Int32} (hF : f_X9_fresh_b35 M t0 = some q) (hW : ps_W D Y B M H) (hS : va_S (fun q => B ≤ q) s.heap H locs) (hl : lv_has ls 4 []) : W p l e rm_X9_fresh s m args below meth c H locs 0 0 (ps_Qi D Y B below args s 0 0 q) (F0 m 35 ls [.int t0]) := by
  have hx := C.1
  have hb := C.2.1
  have hml := C.2.2.1
  have hown := C.2.2.2.1
  have hts := C.2.2.2.2.1
  unfold f_X9_fresh_b35 at hF
  exact pw_iret C hW hS dX9_fresh_35 hF
set_option maxRecDepth 100000 in
set_option maxHeartbeats 4000000 in
theorem kb_X9_fresh (C : ps_C p s m args meth c cX9_fresh 4 RX9 ((some .int)) "fresh" D Y B) {q : Int32 × ps_M}  {M : ps_M} {a0 : Nat} {x1 : Int32} {x2 : Int32} (hF : f_X9_fresh M a0 x1 x2 = some q) (hW : ps_W D Y B M H) (hS : va_S (fun q => B ≤ q) s.heap H locs) (hl : lv_has ls 4 [(0, .ref (B + a0)), (1, .int x1), (2, .int x2)]) : W p l e rm_X9_fresh s m args below meth c H locs 0 0 (ps_Qi D Y B below args s 0 0 q) (F0 m 0 ls []) := by
  have hx := C.1
  have hb := C.2.1
  have hml := C.2.2.1
  have hown := C.2.2.2.1
  have hts := C.2.2.2.2.1
  unfold f_X9_fresh at hF
  refine lv_aload_n hx hb dX9_fresh_0 rfl (lv_at hl 0 rfl) ?_
  refine lv_iload_n hx hb dX9_fresh_1 rfl (lv_at hl 1 rfl) ?_
  refine lv_iload_n hx hb dX9_fresh_2 rfl (lv_at hl 2 rfl) ?_
  obtain ⟨hK, hF⟩ := ps_ck_some hF
  obtain ⟨xv1, M9, hc, hF⟩ := ps_b2_some hF
  refine ps_backI (x0 := xv1) (M' := M9) hS (ps_callV C hW pc_8 mf_X9_refusalOfTwo tq_565 tq_9 tq_563 ⟨Nat.le_of_ble_eq_true rfl, Nat.le_of_ble_eq_true rfl⟩ rfl rfl (As := [.int x1, .int x2]) (rest := []) (c_X9_refusalOfTwo hc) hK rfl hl.1 rfl (Nat.le_of_ble_eq_true rfl) dX9_fresh_3 ⟨Nat.le_of_ble_eq_true rfl, Nat.le_of_ble_eq_true rfl⟩) (fun H locs hW hS => ?_)
  clear hc
  generalize M9 = M at hW hF
  refine lv_istore_n (lv' := [(3, .int xv1), (0, .ref (B + a0)), (1, .int x1), (2, .int x2)]) hx hb dX9_fresh_6 rfl hl (by decide) rfl (fun ls hl => ?_)
  refine lv_iload_n hx hb dX9_fresh_7 rfl (lv_at hl 0 rfl) ?_
  refine lv_if_eq (tgt := 15) hx hb dX9_fresh_8 (by decide) (fun hv2 => ?_) (fun hv2 => ?_)
  · replace hF := (if_pos hv2).symm.trans hF
    refine lv_aload_n hx hb dX9_fresh_15 rfl (lv_at hl 1 rfl) ?_
    refine pw_gR C hW pc_8 (k := 4) (by decide) rfl tq_400 dX9_fresh_16 hF (fun av3 hF => ?_)
    refine lv_aload_n hx hb dX9_fresh_19 rfl (lv_at hl 1 rfl) ?_
    refine pw_gR C hW pc_8 (k := 0) (by decide) rfl tq_396 dX9_fresh_20 hF (fun av4 hF => ?_)
    refine lv_aload_n hx hb dX9_fresh_23 rfl (lv_at hl 1 rfl) ?_
    refine pw_gR C hW pc_8 (k := 2) (by decide) rfl tq_398 dX9_fresh_24 hF (fun av5 hF => ?_)
    refine lv_iload_n hx hb dX9_fresh_27 rfl (lv_at hl 2 rfl) ?_
    refine lv_iload_n hx hb dX9_fresh_28 rfl (lv_at hl 3 rfl) ?_
    obtain ⟨hK, hF⟩ := ps_ck_some hF
    obtain ⟨xv6, M9, hc, hF⟩ := ps_b2_some hF
    refine ps_backI (x0 := xv6) (M' := M9) hS (ps_callV C hW pc_5 mf_X6_strokesFresh tq_731 tq_732 tq_730 ⟨Nat.le_of_ble_eq_true rfl, Nat.le_of_ble_eq_true rfl⟩ rfl rfl (As := [.ref (B + av4), .ref (B + av5), .int x1, .int x2]) (rest := []) (c_X6_strokesFresh hc) hK rfl hl.1 rfl (Nat.le_of_ble_eq_true rfl) dX9_fresh_29 ⟨Nat.le_of_ble_eq_true rfl, Nat.le_of_ble_eq_true rfl⟩) (fun H locs hW hS => ?_)
    clear hc
    generalize M9 = M at hW hF
    obtain ⟨xv7, M9, hc, hF⟩ := ps_b2_some hF
    refine ps_backI (x0 := xv7) (M' := M9) hS (ps_callS C hW mf_X9_noneIfNever tq_724 tq_723 ⟨Nat.le_of_ble_eq_true rfl, Nat.le_of_ble_eq_true rfl⟩ rfl rfl (As := [.int xv6]) (rest := []) (c_X9_noneIfNever hc) rfl hl.1 rfl (Nat.le_of_ble_eq_true rfl) dX9_fresh_32 ⟨Nat.le_of_ble_eq_true rfl, Nat.le_of_ble_eq_true rfl⟩) (fun H locs hW hS => ?_)
    clear hc
    generalize M9 = M at hW hF
    exact kb_X9_fresh_b35 C hF hW hS (lv_sub hl [] rfl)
  · replace hF := (if_neg hv2).symm.trans hF
    refine lv_iload_n hx hb dX9_fresh_11 rfl (lv_at hl 0 rfl) ?_
    refine lv_goto (tgt := 35) hx hb dX9_fresh_12 (by decide) ?_
    exact kb_X9_fresh_b35 C hF hW hS (lv_sub hl [] rfl)
theorem mf_X9_fresh : ps_mf yX9_fresh cX9_fresh 4 ((some .int)) 2 := ⟨tq_729, tq_61, by decide +kernel, by decide +kernel, by decide +kernel⟩
theorem c_X9_fresh {l : Launch} {D : va_G} {Y : ps_A} {B : Nat} {M : ps_M} {a0 : Nat} {x1 : Int32} {x2 : Int32} {r : Int32} {M' : ps_M} (hF : f_X9_fresh M a0 x1 x2 = some (r, M')) : Met l yX9_fresh (Cond.code yX9_fresh cX9_fresh 4 ((some .int)) :: tb_G) rm_X9_fresh (ps_PB D Y B M [.ref (B + a0), .int x1, .int x2]) (va_Qi (fun x (_ : Unit) => x = r) (fun _ t => ps_St D Y B M' t) (fun q => B ≤ q)) 0 0 (fun q => B ≤ q) :=
  pm_of (by decide +kernel) (Nat.le_of_ble_eq_true rfl) (fun p e s m args below meth c C hW hS ls hl => kb_X9_fresh C hF hW hS hl)

abbrev rm_X9_wishes : Room := { frames := 5, cells := 0, slots := 0, locals := 125 }
def f_X9_wishes_b108 (M : ps_M) (t0 : Int32) : Option (Int32 × ps_M) := some (t0, M)
def f_X9_wishes (M : ps_M) (a0 : Nat) (x1 : Int32) (x2 : Int32) (x3 : Int32) : Option (Int32 × ps_M) := ps_gR M a0 8 0 (fun av1 => ps_ck M av1 7 (ps_b2 (f_X8_hasTwo M av1 x1 x2) (fun xv2 M => if xv2 = 0 then (some ((-1000000001 : Int32), M)) else (ps_b2 (f_X9_isWithin M x3 (0 : Int32) (2 : Int32)) (fun xv4 M => if xv4 = 0 then (some ((-1000000002 : Int32), M)) else (ps_gR M a0 8 0 (fun av6 => ps_gI M av6 7 0 (fun xv7 => if xv7 = 0 then (some ((-1000000003 : Int32), M)) else (ps_gR M a0 8 4 (fun av9 => ps_gR M a0 8 0 (fun av10 => ps_gR M a0 8 2 (fun av11 => ps_ck M av9 5 (ps_b1 (f_X6_findWishes M av9 av10 av11 x1 x2) (fun M => ps_gR M a0 8 4 (fun av12 => ps_gI M av12 5 0 (fun xv13 => if xv13 = (1000 : Int32) then (some ((-1 : Int32), M)) else (if x3 = 0 then (ps_gR M a0 8 4 (fun av21 => ps_gI M av21 5 0 (fun xv22 => f_X9_wishes_b108 M xv22))) else (if x3 = (1 : Int32) then (ps_gR M a0 8 4 (fun av19 => ps_gI M av19 5 1 (fun xv20 => f_X9_wishes_b108 M xv20))) else (ps_gR M a0 8 4 (fun av17 => ps_gI M av17 5 2 (fun xv18 => f_X9_wishes_b108 M xv18)))))))))))))))))))))
set_option maxRecDepth 100000 in
set_option maxHeartbeats 4000000 in
theorem kb_X9_wishes_b108 (C : ps_C p s m args meth c cX9_wishes 4 RX9 ((some .int)) "wishes" D Y B) {q : Int32 × ps_M}  {M : ps_M} {t0 : Int32} (hF : f_X9_wishes_b108 M t0 = some q) (hW : ps_W D Y B M H) (hS : va_S (fun q => B ≤ q) s.heap H locs) (hl : lv_has ls 4 []) : W p l e rm_X9_wishes s m args below meth c H locs 0 0 (ps_Qi D Y B below args s 0 0 q) (F0 m 108 ls [.int t0]) := by
  have hx := C.1
  have hb := C.2.1
  have hml := C.2.2.1
  have hown := C.2.2.2.1
  have hts := C.2.2.2.2.1
  unfold f_X9_wishes_b108 at hF
  exact pw_iret C hW hS dX9_wishes_108 hF
set_option maxRecDepth 100000 in
set_option maxHeartbeats 4000000 in
theorem kb_X9_wishes (C : ps_C p s m args meth c cX9_wishes 4 RX9 ((some .int)) "wishes" D Y B) {q : Int32 × ps_M}  {M : ps_M} {a0 : Nat} {x1 : Int32} {x2 : Int32} {x3 : Int32} (hF : f_X9_wishes M a0 x1 x2 x3 = some q) (hW : ps_W D Y B M H) (hS : va_S (fun q => B ≤ q) s.heap H locs) (hl : lv_has ls 4 [(0, .ref (B + a0)), (1, .int x1), (2, .int x2), (3, .int x3)]) : W p l e rm_X9_wishes s m args below meth c H locs 0 0 (ps_Qi D Y B below args s 0 0 q) (F0 m 0 ls []) := by
  have hx := C.1
  have hb := C.2.1
  have hml := C.2.2.1
  have hown := C.2.2.2.1
  have hts := C.2.2.2.2.1
  unfold f_X9_wishes at hF
  refine lv_aload_n hx hb dX9_wishes_0 rfl (lv_at hl 0 rfl) ?_
  refine pw_gR C hW pc_8 (k := 0) (by decide) rfl tq_396 dX9_wishes_1 hF (fun av1 hF => ?_)
  refine lv_iload_n hx hb dX9_wishes_4 rfl (lv_at hl 1 rfl) ?_
  refine lv_iload_n hx hb dX9_wishes_5 rfl (lv_at hl 2 rfl) ?_
  obtain ⟨hK, hF⟩ := ps_ck_some hF
  obtain ⟨xv2, M9, hc, hF⟩ := ps_b2_some hF
  refine ps_backI (x0 := xv2) (M' := M9) hS (ps_callV C hW pc_7 mf_X8_hasTwo tq_568 tq_569 tq_567 ⟨Nat.le_of_ble_eq_true rfl, Nat.le_of_ble_eq_true rfl⟩ rfl rfl (As := [.int x1, .int x2]) (rest := []) (c_X8_hasTwo hc) hK rfl hl.1 rfl (Nat.le_of_ble_eq_true rfl) dX9_wishes_6 ⟨Nat.le_of_ble_eq_true rfl, Nat.le_of_ble_eq_true rfl⟩) (fun H locs hW hS => ?_)
  clear hc
  generalize M9 = M at hW hF
  refine lv_if_ne (tgt := 15) hx hb dX9_wishes_9 (by decide) (fun hv3 => ?_) (fun hv3 => ?_)
  · replace hF := (if_neg hv3).symm.trans hF
    refine lv_iload_n hx hb dX9_wishes_15 rfl (lv_at hl 3 rfl) ?_
    refine lv_iconst (v := 0) hx hb dX9_wishes_16 (by decide) ?_
    refine lv_iconst (v := 2) hx hb dX9_wishes_17 (by decide) ?_
    obtain ⟨xv4, M9, hc, hF⟩ := ps_b2_some hF
    refine ps_backI (x0 := xv4) (M' := M9) hS (ps_callS C hW mf_X9_isWithin tq_583 tq_582 ⟨Nat.le_of_ble_eq_true rfl, Nat.le_of_ble_eq_true rfl⟩ rfl rfl (As := [.int x3, .int (0 : Int32), .int (2 : Int32)]) (rest := []) (c_X9_isWithin hc) rfl hl.1 rfl (Nat.le_of_ble_eq_true rfl) dX9_wishes_18 ⟨Nat.le_of_ble_eq_true rfl, Nat.le_of_ble_eq_true rfl⟩) (fun H locs hW hS => ?_)
    clear hc
    generalize M9 = M at hW hF
    refine lv_if_ne (tgt := 27) hx hb dX9_wishes_21 (by decide) (fun hv5 => ?_) (fun hv5 => ?_)
    · replace hF := (if_neg hv5).symm.trans hF
      refine lv_aload_n hx hb dX9_wishes_27 rfl (lv_at hl 0 rfl) ?_
      refine pw_gR C hW pc_8 (k := 0) (by decide) rfl tq_396 dX9_wishes_28 hF (fun av6 hF => ?_)
      refine pw_gI C hW pc_7 (k := 0) (by decide) rfl tq_89 dX9_wishes_31 hF (fun xv7 hF => ?_)
      refine lv_if_ne (tgt := 40) hx hb dX9_wishes_34 (by decide) (fun hv8 => ?_) (fun hv8 => ?_)
      · replace hF := (if_neg hv8).symm.trans hF
        refine lv_aload_n hx hb dX9_wishes_40 rfl (lv_at hl 0 rfl) ?_
        refine pw_gR C hW pc_8 (k := 4) (by decide) rfl tq_400 dX9_wishes_41 hF (fun av9 hF => ?_)
        refine lv_aload_n hx hb dX9_wishes_44 rfl (lv_at hl 0 rfl) ?_
        refine pw_gR C hW pc_8 (k := 0) (by decide) rfl tq_396 dX9_wishes_45 hF (fun av10 hF => ?_)
        refine lv_aload_n hx hb dX9_wishes_48 rfl (lv_at hl 0 rfl) ?_
        refine pw_gR C hW pc_8 (k := 2) (by decide) rfl tq_398 dX9_wishes_49 hF (fun av11 hF => ?_)
        refine lv_iload_n hx hb dX9_wishes_52 rfl (lv_at hl 1 rfl) ?_
        refine lv_iload_n hx hb dX9_wishes_53 rfl (lv_at hl 2 rfl) ?_
        obtain ⟨hK, hF⟩ := ps_ck_some hF
        obtain ⟨M9, hc, hF⟩ := ps_b1_some hF
        refine ps_backV (M' := M9) hS (ps_callV C hW pc_5 mf_X6_findWishes tq_745 tq_746 tq_744 ⟨Nat.le_of_ble_eq_true rfl, Nat.le_of_ble_eq_true rfl⟩ rfl rfl (As := [.ref (B + av10), .ref (B + av11), .int x1, .int x2]) (rest := []) (c_X6_findWishes hc) hK rfl hl.1 rfl (Nat.le_of_ble_eq_true rfl) dX9_wishes_54 ⟨Nat.le_of_ble_eq_true rfl, Nat.le_of_ble_eq_true rfl⟩) (fun H locs hW hS => ?_)
        clear hc
        generalize M9 = M at hW hF
        refine lv_aload_n hx hb dX9_wishes_57 rfl (lv_at hl 0 rfl) ?_
        refine pw_gR C hW pc_8 (k := 4) (by decide) rfl tq_400 dX9_wishes_58 hF (fun av12 hF => ?_)
        refine pw_gI C hW pc_5 (k := 0) (by decide) rfl tq_311 dX9_wishes_61 hF (fun xv13 hF => ?_)
        refine lv_sipush (v := 1000) hx hb dX9_wishes_64 (by decide) ?_
        refine lv_icmp_ne (tgt := 72) hx hb dX9_wishes_67 (by decide) (fun hv14 => ?_) (fun hv14 => ?_)
        · replace hF := (if_neg hv14).symm.trans hF
          refine lv_iload_n hx hb dX9_wishes_72 rfl (lv_at hl 3 rfl) ?_
          refine lv_if_ne (tgt := 86) hx hb dX9_wishes_73 (by decide) (fun hv15 => ?_) (fun hv15 => ?_)
          · replace hF := (if_neg hv15).symm.trans hF
            refine lv_iload_n hx hb dX9_wishes_86 rfl (lv_at hl 3 rfl) ?_
            refine lv_iconst (v := 1) hx hb dX9_wishes_87 (by decide) ?_
            refine lv_icmp_ne (tgt := 101) hx hb dX9_wishes_88 (by decide) (fun hv16 => ?_) (fun hv16 => ?_)
            · replace hF := (if_neg hv16).symm.trans hF
              refine lv_aload_n hx hb dX9_wishes_101 rfl (lv_at hl 0 rfl) ?_
              refine pw_gR C hW pc_8 (k := 4) (by decide) rfl tq_400 dX9_wishes_102 hF (fun av17 hF => ?_)
              refine pw_gI C hW pc_5 (k := 2) (by decide) rfl tq_315 dX9_wishes_105 hF (fun xv18 hF => ?_)
              exact kb_X9_wishes_b108 C hF hW hS (lv_sub hl [] rfl)
            · replace hF := (if_pos hv16).symm.trans hF
              refine lv_aload_n hx hb dX9_wishes_91 rfl (lv_at hl 0 rfl) ?_
              refine pw_gR C hW pc_8 (k := 4) (by decide) rfl tq_400 dX9_wishes_92 hF (fun av19 hF => ?_)
              refine pw_gI C hW pc_5 (k := 1) (by decide) rfl tq_313 dX9_wishes_95 hF (fun xv20 hF => ?_)
              refine lv_goto (tgt := 108) hx hb dX9_wishes_98 (by decide) ?_
              exact kb_X9_wishes_b108 C hF hW hS (lv_sub hl [] rfl)
          · replace hF := (if_pos hv15).symm.trans hF
            refine lv_aload_n hx hb dX9_wishes_76 rfl (lv_at hl 0 rfl) ?_
            refine pw_gR C hW pc_8 (k := 4) (by decide) rfl tq_400 dX9_wishes_77 hF (fun av21 hF => ?_)
            refine pw_gI C hW pc_5 (k := 0) (by decide) rfl tq_311 dX9_wishes_80 hF (fun xv22 hF => ?_)
            refine lv_goto (tgt := 108) hx hb dX9_wishes_83 (by decide) ?_
            exact kb_X9_wishes_b108 C hF hW hS (lv_sub hl [] rfl)
        · replace hF := (if_pos hv14).symm.trans hF
          refine lv_iconst (v := -1) hx hb dX9_wishes_70 (by decide) ?_
          exact pw_iret C hW hS dX9_wishes_71 hF
      · replace hF := (if_pos hv8).symm.trans hF
        refine lv_ldc (v := -1000000003) hx hb hown (hts _ tq_572) dX9_wishes_37 ?_
        exact pw_iret C hW hS dX9_wishes_39 hF
    · replace hF := (if_pos hv5).symm.trans hF
      refine lv_ldc (v := -1000000002) hx hb hown (hts _ tq_434) dX9_wishes_24 ?_
      exact pw_iret C hW hS dX9_wishes_26 hF
  · replace hF := (if_pos hv3).symm.trans hF
    refine lv_ldc (v := -1000000001) hx hb hown (hts _ tq_547) dX9_wishes_12 ?_
    exact pw_iret C hW hS dX9_wishes_14 hF
theorem mf_X9_wishes : ps_mf yX9_wishes cX9_wishes 4 ((some .int)) 3 := ⟨tq_743, tq_61, by decide +kernel, by decide +kernel, by decide +kernel⟩
theorem c_X9_wishes {l : Launch} {D : va_G} {Y : ps_A} {B : Nat} {M : ps_M} {a0 : Nat} {x1 : Int32} {x2 : Int32} {x3 : Int32} {r : Int32} {M' : ps_M} (hF : f_X9_wishes M a0 x1 x2 x3 = some (r, M')) : Met l yX9_wishes (Cond.code yX9_wishes cX9_wishes 4 ((some .int)) :: tb_G) rm_X9_wishes (ps_PB D Y B M [.ref (B + a0), .int x1, .int x2, .int x3]) (va_Qi (fun x (_ : Unit) => x = r) (fun _ t => ps_St D Y B M' t) (fun q => B ≤ q)) 0 0 (fun q => B ≤ q) :=
  pm_of (by decide +kernel) (Nat.le_of_ble_eq_true rfl) (fun p e s m args below meth c C hW hS ls hl => kb_X9_wishes C hF hW hS hl)

abbrev rm_X9_quarrel : Room := { frames := 4, cells := 0, slots := 0, locals := 96 }
def f_X9_quarrel_b32 (M : ps_M) (t0 : Int32) : Option (Int32 × ps_M) := some (t0, M)
def f_X9_quarrel (M : ps_M) (a0 : Nat) (x1 : Int32) (x2 : Int32) : Option (Int32 × ps_M) := ps_ck M a0 8 (ps_b2 (f_X9_refusalOfTwo M a0 x1 x2) (fun xv1 M => if xv1 = 0 then (ps_gR M a0 8 4 (fun av3 => ps_gR M a0 8 0 (fun av4 => ps_gR M a0 8 2 (fun av5 => ps_ck M av3 5 (ps_b2 (f_X6_quarrelStroke M av3 av4 av5 x1 x2) (fun xv6 M => f_X9_quarrel_b32 M xv6)))))) else (f_X9_quarrel_b32 M xv1)))
set_option maxRecDepth 100000 in
set_option maxHeartbeats 4000000 in
theorem kb_X9_quarrel_b32 (C : ps_C p s m args meth c cX9_quarrel 4 RX9 ((some .int)) "quarrel" D Y B) {q : Int32 × ps_M}  {M : ps_M} {t0 : Int32} (hF : f_X9_quarrel_b32 M t0 = some q) (hW : ps_W D Y B M H) (hS : va_S (fun q => B ≤ q) s.heap H locs) (hl : lv_has ls 4 []) : W p l e rm_X9_quarrel s m args below meth c H locs 0 0 (ps_Qi D Y B below args s 0 0 q) (F0 m 32 ls [.int t0]) := by
  have hx := C.1
  have hb := C.2.1
  have hml := C.2.2.1
  have hown := C.2.2.2.1
  have hts := C.2.2.2.2.1
  unfold f_X9_quarrel_b32 at hF
  exact pw_iret C hW hS dX9_quarrel_32 hF
set_option maxRecDepth 100000 in
set_option maxHeartbeats 4000000 in
theorem kb_X9_quarrel (C : ps_C p s m args meth c cX9_quarrel 4 RX9 ((some .int)) "quarrel" D Y B) {q : Int32 × ps_M}  {M : ps_M} {a0 : Nat} {x1 : Int32} {x2 : Int32} (hF : f_X9_quarrel M a0 x1 x2 = some q) (hW : ps_W D Y B M H) (hS : va_S (fun q => B ≤ q) s.heap H locs) (hl : lv_has ls 4 [(0, .ref (B + a0)), (1, .int x1), (2, .int x2)]) : W p l e rm_X9_quarrel s m args below meth c H locs 0 0 (ps_Qi D Y B below args s 0 0 q) (F0 m 0 ls []) := by
  have hx := C.1
  have hb := C.2.1
  have hml := C.2.2.1
  have hown := C.2.2.2.1
  have hts := C.2.2.2.2.1
  unfold f_X9_quarrel at hF
  refine lv_aload_n hx hb dX9_quarrel_0 rfl (lv_at hl 0 rfl) ?_
  refine lv_iload_n hx hb dX9_quarrel_1 rfl (lv_at hl 1 rfl) ?_
  refine lv_iload_n hx hb dX9_quarrel_2 rfl (lv_at hl 2 rfl) ?_
  obtain ⟨hK, hF⟩ := ps_ck_some hF
  obtain ⟨xv1, M9, hc, hF⟩ := ps_b2_some hF
  refine ps_backI (x0 := xv1) (M' := M9) hS (ps_callV C hW pc_8 mf_X9_refusalOfTwo tq_565 tq_9 tq_563 ⟨Nat.le_of_ble_eq_true rfl, Nat.le_of_ble_eq_true rfl⟩ rfl rfl (As := [.int x1, .int x2]) (rest := []) (c_X9_refusalOfTwo hc) hK rfl hl.1 rfl (Nat.le_of_ble_eq_true rfl) dX9_quarrel_3 ⟨Nat.le_of_ble_eq_true rfl, Nat.le_of_ble_eq_true rfl⟩) (fun H locs hW hS => ?_)
  clear hc
  generalize M9 = M at hW hF
  refine lv_istore_n (lv' := [(3, .int xv1), (0, .ref (B + a0)), (1, .int x1), (2, .int x2)]) hx hb dX9_quarrel_6 rfl hl (by decide) rfl (fun ls hl => ?_)
  refine lv_iload_n hx hb dX9_quarrel_7 rfl (lv_at hl 0 rfl) ?_
  refine lv_if_eq (tgt := 15) hx hb dX9_quarrel_8 (by decide) (fun hv2 => ?_) (fun hv2 => ?_)
  · replace hF := (if_pos hv2).symm.trans hF
    refine lv_aload_n hx hb dX9_quarrel_15 rfl (lv_at hl 1 rfl) ?_
    refine pw_gR C hW pc_8 (k := 4) (by decide) rfl tq_400 dX9_quarrel_16 hF (fun av3 hF => ?_)
    refine lv_aload_n hx hb dX9_quarrel_19 rfl (lv_at hl 1 rfl) ?_
    refine pw_gR C hW pc_8 (k := 0) (by decide) rfl tq_396 dX9_quarrel_20 hF (fun av4 hF => ?_)
    refine lv_aload_n hx hb dX9_quarrel_23 rfl (lv_at hl 1 rfl) ?_
    refine pw_gR C hW pc_8 (k := 2) (by decide) rfl tq_398 dX9_quarrel_24 hF (fun av5 hF => ?_)
    refine lv_iload_n hx hb dX9_quarrel_27 rfl (lv_at hl 2 rfl) ?_
    refine lv_iload_n hx hb dX9_quarrel_28 rfl (lv_at hl 3 rfl) ?_
    obtain ⟨hK, hF⟩ := ps_ck_some hF
    obtain ⟨xv6, M9, hc, hF⟩ := ps_b2_some hF
    refine ps_backI (x0 := xv6) (M' := M9) hS (ps_callV C hW pc_5 mf_X6_quarrelStroke tq_755 tq_756 tq_754 ⟨Nat.le_of_ble_eq_true rfl, Nat.le_of_ble_eq_true rfl⟩ rfl rfl (As := [.ref (B + av4), .ref (B + av5), .int x1, .int x2]) (rest := []) (c_X6_quarrelStroke hc) hK rfl hl.1 rfl (Nat.le_of_ble_eq_true rfl) dX9_quarrel_29 ⟨Nat.le_of_ble_eq_true rfl, Nat.le_of_ble_eq_true rfl⟩) (fun H locs hW hS => ?_)
    clear hc
    generalize M9 = M at hW hF
    exact kb_X9_quarrel_b32 C hF hW hS (lv_sub hl [] rfl)
  · replace hF := (if_neg hv2).symm.trans hF
    refine lv_iload_n hx hb dX9_quarrel_11 rfl (lv_at hl 0 rfl) ?_
    refine lv_goto (tgt := 32) hx hb dX9_quarrel_12 (by decide) ?_
    exact kb_X9_quarrel_b32 C hF hW hS (lv_sub hl [] rfl)
theorem mf_X9_quarrel : ps_mf yX9_quarrel cX9_quarrel 4 ((some .int)) 2 := ⟨tq_753, tq_61, by decide +kernel, by decide +kernel, by decide +kernel⟩
theorem c_X9_quarrel {l : Launch} {D : va_G} {Y : ps_A} {B : Nat} {M : ps_M} {a0 : Nat} {x1 : Int32} {x2 : Int32} {r : Int32} {M' : ps_M} (hF : f_X9_quarrel M a0 x1 x2 = some (r, M')) : Met l yX9_quarrel (Cond.code yX9_quarrel cX9_quarrel 4 ((some .int)) :: tb_G) rm_X9_quarrel (ps_PB D Y B M [.ref (B + a0), .int x1, .int x2]) (va_Qi (fun x (_ : Unit) => x = r) (fun _ t => ps_St D Y B M' t) (fun q => B ≤ q)) 0 0 (fun q => B ≤ q) :=
  pm_of (by decide +kernel) (Nat.le_of_ble_eq_true rfl) (fun p e s m args below meth c C hW hS ls hl => kb_X9_quarrel C hF hW hS hl)

abbrev rm_X9_withWhom : Room := { frames := 6, cells := 0, slots := 0, locals := 151 }
def f_X9_withWhom_b62 (M : ps_M) (t0 : Int32) : Option (Int32 × ps_M) := some (t0, M)
def f_X9_withWhom_b51 (M : ps_M) (x2 : Int32) : Option (Int32 × ps_M) := f_X9_withWhom_b62 M x2
def f_X9_withWhom (M : ps_M) (a0 : Nat) (x1 : Int32) : Option (Int32 × ps_M) := ps_b2 (f_X9_isWithin M x1 (0 : Int32) (1 : Int32)) (fun xv1 M => if xv1 = 0 then (some ((-1000000002 : Int32), M)) else (ps_gR M a0 8 0 (fun av3 => ps_gI M av3 7 0 (fun xv4 => if xv4 = 0 then (some ((-1000000003 : Int32), M)) else (ps_gR M a0 8 4 (fun av6 => ps_gR M a0 8 0 (fun av7 => ps_gR M a0 8 2 (fun av8 => ps_ck M av6 5 (ps_b2 (f_X6_findMate M av6 av7 av8) (fun xv9 M => if xv9 = (-1 : Int32) then (f_X9_withWhom_b51 M xv9) else (if x1 = (1 : Int32) then (f_X9_withWhom_b51 M xv9) else (ps_gR M a0 8 4 (fun av12 => ps_gI M av12 5 0 (fun xv13 => f_X9_withWhom_b62 M xv13))))))))))))))
set_option maxRecDepth 100000 in
set_option maxHeartbeats 4000000 in
theorem kb_X9_withWhom_b62 (C : ps_C p s m args meth c cX9_withWhom 3 RX9 ((some .int)) "withWhom" D Y B) {q : Int32 × ps_M}  {M : ps_M} {t0 : Int32} (hF : f_X9_withWhom_b62 M t0 = some q) (hW : ps_W D Y B M H) (hS : va_S (fun q => B ≤ q) s.heap H locs) (hl : lv_has ls 3 []) : W p l e rm_X9_withWhom s m args below meth c H locs 0 0 (ps_Qi D Y B below args s 0 0 q) (F0 m 62 ls [.int t0]) := by
  have hx := C.1
  have hb := C.2.1
  have hml := C.2.2.1
  have hown := C.2.2.2.1
  have hts := C.2.2.2.2.1
  unfold f_X9_withWhom_b62 at hF
  exact pw_iret C hW hS dX9_withWhom_62 hF
set_option maxRecDepth 100000 in
set_option maxHeartbeats 4000000 in
theorem kb_X9_withWhom_b51 (C : ps_C p s m args meth c cX9_withWhom 3 RX9 ((some .int)) "withWhom" D Y B) {q : Int32 × ps_M}  {M : ps_M} {x2 : Int32} (hF : f_X9_withWhom_b51 M x2 = some q) (hW : ps_W D Y B M H) (hS : va_S (fun q => B ≤ q) s.heap H locs) (hl : lv_has ls 3 [(2, .int x2)]) : W p l e rm_X9_withWhom s m args below meth c H locs 0 0 (ps_Qi D Y B below args s 0 0 q) (F0 m 51 ls []) := by
  have hx := C.1
  have hb := C.2.1
  have hml := C.2.2.1
  have hown := C.2.2.2.1
  have hts := C.2.2.2.2.1
  unfold f_X9_withWhom_b51 at hF
  refine lv_iload_n hx hb dX9_withWhom_51 rfl (lv_at hl 0 rfl) ?_
  refine lv_goto (tgt := 62) hx hb dX9_withWhom_52 (by decide) ?_
  exact kb_X9_withWhom_b62 C hF hW hS (lv_sub hl [] rfl)
set_option maxRecDepth 100000 in
set_option maxHeartbeats 4000000 in
theorem kb_X9_withWhom (C : ps_C p s m args meth c cX9_withWhom 3 RX9 ((some .int)) "withWhom" D Y B) {q : Int32 × ps_M}  {M : ps_M} {a0 : Nat} {x1 : Int32} (hF : f_X9_withWhom M a0 x1 = some q) (hW : ps_W D Y B M H) (hS : va_S (fun q => B ≤ q) s.heap H locs) (hl : lv_has ls 3 [(0, .ref (B + a0)), (1, .int x1)]) : W p l e rm_X9_withWhom s m args below meth c H locs 0 0 (ps_Qi D Y B below args s 0 0 q) (F0 m 0 ls []) := by
  have hx := C.1
  have hb := C.2.1
  have hml := C.2.2.1
  have hown := C.2.2.2.1
  have hts := C.2.2.2.2.1
  unfold f_X9_withWhom at hF
  refine lv_iload_n hx hb dX9_withWhom_0 rfl (lv_at hl 1 rfl) ?_
  refine lv_iconst (v := 0) hx hb dX9_withWhom_1 (by decide) ?_
  refine lv_iconst (v := 1) hx hb dX9_withWhom_2 (by decide) ?_
  obtain ⟨xv1, M9, hc, hF⟩ := ps_b2_some hF
  refine ps_backI (x0 := xv1) (M' := M9) hS (ps_callS C hW mf_X9_isWithin tq_583 tq_582 ⟨Nat.le_of_ble_eq_true rfl, Nat.le_of_ble_eq_true rfl⟩ rfl rfl (As := [.int x1, .int (0 : Int32), .int (1 : Int32)]) (rest := []) (c_X9_isWithin hc) rfl hl.1 rfl (Nat.le_of_ble_eq_true rfl) dX9_withWhom_3 ⟨Nat.le_of_ble_eq_true rfl, Nat.le_of_ble_eq_true rfl⟩) (fun H locs hW hS => ?_)
  clear hc
  generalize M9 = M at hW hF
  refine lv_if_ne (tgt := 12) hx hb dX9_withWhom_6 (by decide) (fun hv2 => ?_) (fun hv2 => ?_)
  · replace hF := (if_neg hv2).symm.trans hF
    refine lv_aload_n hx hb dX9_withWhom_12 rfl (lv_at hl 0 rfl) ?_
    refine pw_gR C hW pc_8 (k := 0) (by decide) rfl tq_396 dX9_withWhom_13 hF (fun av3 hF => ?_)
    refine pw_gI C hW pc_7 (k := 0) (by decide) rfl tq_89 dX9_withWhom_16 hF (fun xv4 hF => ?_)
    refine lv_if_ne (tgt := 25) hx hb dX9_withWhom_19 (by decide) (fun hv5 => ?_) (fun hv5 => ?_)
    · replace hF := (if_neg hv5).symm.trans hF
      refine lv_aload_n hx hb dX9_withWhom_25 rfl (lv_at hl 0 rfl) ?_
      refine pw_gR C hW pc_8 (k := 4) (by decide) rfl tq_400 dX9_withWhom_26 hF (fun av6 hF => ?_)
      refine lv_aload_n hx hb dX9_withWhom_29 rfl (lv_at hl 0 rfl) ?_
      refine pw_gR C hW pc_8 (k := 0) (by decide) rfl tq_396 dX9_withWhom_30 hF (fun av7 hF => ?_)
      refine lv_aload_n hx hb dX9_withWhom_33 rfl (lv_at hl 0 rfl) ?_
      refine pw_gR C hW pc_8 (k := 2) (by decide) rfl tq_398 dX9_withWhom_34 hF (fun av8 hF => ?_)
      obtain ⟨hK, hF⟩ := ps_ck_some hF
      obtain ⟨xv9, M9, hc, hF⟩ := ps_b2_some hF
      refine ps_backI (x0 := xv9) (M' := M9) hS (ps_callV C hW pc_5 mf_X6_findMate tq_770 tq_771 tq_769 ⟨Nat.le_of_ble_eq_true rfl, Nat.le_of_ble_eq_true rfl⟩ rfl rfl (As := [.ref (B + av7), .ref (B + av8)]) (rest := []) (c_X6_findMate hc) hK rfl hl.1 rfl (Nat.le_of_ble_eq_true rfl) dX9_withWhom_37 ⟨Nat.le_of_ble_eq_true rfl, Nat.le_of_ble_eq_true rfl⟩) (fun H locs hW hS => ?_)
      clear hc
      generalize M9 = M at hW hF
      refine lv_istore_n (lv' := [(2, .int xv9), (0, .ref (B + a0)), (1, .int x1)]) hx hb dX9_withWhom_40 rfl hl (by decide) rfl (fun ls hl => ?_)
      refine lv_iload_n hx hb dX9_withWhom_41 rfl (lv_at hl 0 rfl) ?_
      refine lv_iconst (v := -1) hx hb dX9_withWhom_42 (by decide) ?_
      refine lv_icmp_eq (tgt := 51) hx hb dX9_withWhom_43 (by decide) (fun hv10 => ?_) (fun hv10 => ?_)
      · replace hF := (if_pos hv10).symm.trans hF
        exact kb_X9_withWhom_b51 C hF hW hS (lv_sub hl [0] rfl)
      · replace hF := (if_neg hv10).symm.trans hF
        refine lv_iload_n hx hb dX9_withWhom_46 rfl (lv_at hl 2 rfl) ?_
        refine lv_iconst (v := 1) hx hb dX9_withWhom_47 (by decide) ?_
        refine lv_icmp_ne (tgt := 55) hx hb dX9_withWhom_48 (by decide) (fun hv11 => ?_) (fun hv11 => ?_)
        · replace hF := (if_neg hv11).symm.trans hF
          refine lv_aload_n hx hb dX9_withWhom_55 rfl (lv_at hl 1 rfl) ?_
          refine pw_gR C hW pc_8 (k := 4) (by decide) rfl tq_400 dX9_withWhom_56 hF (fun av12 hF => ?_)
          refine pw_gI C hW pc_5 (k := 0) (by decide) rfl tq_311 dX9_withWhom_59 hF (fun xv13 hF => ?_)
          exact kb_X9_withWhom_b62 C hF hW hS (lv_sub hl [] rfl)
        · replace hF := (if_pos hv11).symm.trans hF
          exact kb_X9_withWhom_b51 C hF hW hS (lv_sub hl [0] rfl)
    · replace hF := (if_pos hv5).symm.trans hF
      refine lv_ldc (v := -1000000003) hx hb hown (hts _ tq_572) dX9_withWhom_22 ?_
      exact pw_iret C hW hS dX9_withWhom_24 hF
  · replace hF := (if_pos hv2).symm.trans hF
    refine lv_ldc (v := -1000000002) hx hb hown (hts _ tq_434) dX9_withWhom_9 ?_
    exact pw_iret C hW hS dX9_withWhom_11 hF
theorem mf_X9_withWhom : ps_mf yX9_withWhom cX9_withWhom 3 ((some .int)) 1 := ⟨tq_768, tq_61, by decide +kernel, by decide +kernel, by decide +kernel⟩
theorem c_X9_withWhom {l : Launch} {D : va_G} {Y : ps_A} {B : Nat} {M : ps_M} {a0 : Nat} {x1 : Int32} {r : Int32} {M' : ps_M} (hF : f_X9_withWhom M a0 x1 = some (r, M')) : Met l yX9_withWhom (Cond.code yX9_withWhom cX9_withWhom 3 ((some .int)) :: tb_G) rm_X9_withWhom (ps_PB D Y B M [.ref (B + a0), .int x1]) (va_Qi (fun x (_ : Unit) => x = r) (fun _ t => ps_St D Y B M' t) (fun q => B ≤ q)) 0 0 (fun q => B ≤ q) :=
  pm_of (by decide +kernel) (Nat.le_of_ble_eq_true rfl) (fun p e s m args below meth c C hW hS ls hl => kb_X9_withWhom C hF hW hS hl)

abbrev rm_X9_changes : Room := { frames := 5, cells := 0, slots := 0, locals := 114 }
def f_X9_changes_b30 (M : ps_M)  : Option (Int32 × ps_M) := some ((-1000000002 : Int32), M)
def f_X9_changes_b94 (M : ps_M) (t0 : Int32) : Option (Int32 × ps_M) := some (t0, M)
def f_X9_changes (M : ps_M) (a0 : Nat) (x1 : Int32) (x2 : Int32) (x3 : Int32) : Option (Int32 × ps_M) := ps_b2 (f_X9_isWithin M x1 (1 : Int32) (30 : Int32)) (fun xv1 M => if xv1 = 0 then (f_X9_changes_b30 M ) else (ps_b2 (f_X9_isWithin M x2 (0 : Int32) (999 : Int32)) (fun xv3 M => if xv3 = 0 then (f_X9_changes_b30 M ) else (ps_b2 (f_X9_isWithin M x3 (0 : Int32) (1 : Int32)) (fun xv5 M => if xv5 = 0 then (f_X9_changes_b30 M ) else (ps_gR M a0 8 2 (fun av7 => ps_ck M av7 6 (ps_b2 (f_X7_hasPair M av7 ) (fun xv8 M => if xv8 = 0 then (some ((-1000000003 : Int32), M)) else (ps_gR M a0 8 5 (fun av10 => ps_gR M a0 8 2 (fun av11 => ps_gI M av11 6 5 (fun xv12 => ps_gR M a0 8 2 (fun av13 => ps_gR M a0 8 0 (fun av14 => ps_ck M av13 6 (ps_b2 (f_X7_lean M av13 av14) (fun xv15 M => ps_ck M av10 0 (ps_b1 (f_X0_weigh M av10 xv12 xv15 x1 x2) (fun M => if x3 = 0 then (ps_gR M a0 8 5 (fun av19 => ps_gI M av19 0 0 (fun xv20 => f_X9_changes_b94 M xv20))) else (ps_gR M a0 8 5 (fun av17 => ps_gI M av17 0 1 (fun xv18 => f_X9_changes_b94 M xv18))))))))))))))))))))))
set_option maxRecDepth 100000 in
set_option maxHeartbeats 4000000 in
theorem kb_X9_changes_b30 (C : ps_C p s m args meth c cX9_changes 4 RX9 ((some .int)) "changes" D Y B) {q : Int32 × ps_M}  {M : ps_M}  (hF : f_X9_changes_b30 M  = some q) (hW : ps_W D Y B M H) (hS : va_S (fun q => B ≤ q) s.heap H locs) (hl : lv_has ls 4 []) : W p l e rm_X9_changes s m args below meth c H locs 0 0 (ps_Qi D Y B below args s 0 0 q) (F0 m 30 ls []) := by
  have hx := C.1
  have hb := C.2.1
  have hml := C.2.2.1
  have hown := C.2.2.2.1
  have hts := C.2.2.2.2.1
  unfold f_X9_changes_b30 at hF
  refine lv_ldc (v := -1000000002) hx hb hown (hts _ tq_434) dX9_changes_30 ?_
  exact pw_iret C hW hS dX9_changes_32 hF
set_option maxRecDepth 100000 in
set_option maxHeartbeats 4000000 in
theorem kb_X9_changes_b94 (C : ps_C p s m args meth c cX9_changes 4 RX9 ((some .int)) "changes" D Y B) {q : Int32 × ps_M}  {M : ps_M} {t0 : Int32} (hF : f_X9_changes_b94 M t0 = some q) (hW : ps_W D Y B M H) (hS : va_S (fun q => B ≤ q) s.heap H locs) (hl : lv_has ls 4 []) : W p l e rm_X9_changes s m args below meth c H locs 0 0 (ps_Qi D Y B below args s 0 0 q) (F0 m 94 ls [.int t0]) := by
  have hx := C.1
  have hb := C.2.1
  have hml := C.2.2.1
  have hown := C.2.2.2.1
  have hts := C.2.2.2.2.1
  unfold f_X9_changes_b94 at hF
  exact pw_iret C hW hS dX9_changes_94 hF
set_option maxRecDepth 100000 in
set_option maxHeartbeats 4000000 in
theorem kb_X9_changes (C : ps_C p s m args meth c cX9_changes 4 RX9 ((some .int)) "changes" D Y B) {q : Int32 × ps_M}  {M : ps_M} {a0 : Nat} {x1 : Int32} {x2 : Int32} {x3 : Int32} (hF : f_X9_changes M a0 x1 x2 x3 = some q) (hW : ps_W D Y B M H) (hS : va_S (fun q => B ≤ q) s.heap H locs) (hl : lv_has ls 4 [(0, .ref (B + a0)), (1, .int x1), (2, .int x2), (3, .int x3)]) : W p l e rm_X9_changes s m args below meth c H locs 0 0 (ps_Qi D Y B below args s 0 0 q) (F0 m 0 ls []) := by
  have hx := C.1
  have hb := C.2.1
  have hml := C.2.2.1
  have hown := C.2.2.2.1
  have hts := C.2.2.2.2.1
  unfold f_X9_changes at hF
  refine lv_iload_n hx hb dX9_changes_0 rfl (lv_at hl 1 rfl) ?_
  refine lv_iconst (v := 1) hx hb dX9_changes_1 (by decide) ?_
  refine lv_bipush (v := 30) hx hb dX9_changes_2 (by decide) ?_
  obtain ⟨xv1, M9, hc, hF⟩ := ps_b2_some hF
  refine ps_backI (x0 := xv1) (M' := M9) hS (ps_callS C hW mf_X9_isWithin tq_583 tq_582 ⟨Nat.le_of_ble_eq_true rfl, Nat.le_of_ble_eq_true rfl⟩ rfl rfl (As := [.int x1, .int (1 : Int32), .int (30 : Int32)]) (rest := []) (c_X9_isWithin hc) rfl hl.1 rfl (Nat.le_of_ble_eq_true rfl) dX9_changes_4 ⟨Nat.le_of_ble_eq_true rfl, Nat.le_of_ble_eq_true rfl⟩) (fun H locs hW hS => ?_)
  clear hc
  generalize M9 = M at hW hF
  refine lv_if_eq (tgt := 30) hx hb dX9_changes_7 (by decide) (fun hv2 => ?_) (fun hv2 => ?_)
  · replace hF := (if_pos hv2).symm.trans hF
    exact kb_X9_changes_b30 C hF hW hS (lv_sub hl [] rfl)
  · replace hF := (if_neg hv2).symm.trans hF
    refine lv_iload_n hx hb dX9_changes_10 rfl (lv_at hl 2 rfl) ?_
    refine lv_iconst (v := 0) hx hb dX9_changes_11 (by decide) ?_
    refine lv_sipush (v := 999) hx hb dX9_changes_12 (by decide) ?_
    obtain ⟨xv3, M9, hc, hF⟩ := ps_b2_some hF
    refine ps_backI (x0 := xv3) (M' := M9) hS (ps_callS C hW mf_X9_isWithin tq_583 tq_582 ⟨Nat.le_of_ble_eq_true rfl, Nat.le_of_ble_eq_true rfl⟩ rfl rfl (As := [.int x2, .int (0 : Int32), .int (999 : Int32)]) (rest := []) (c_X9_isWithin hc) rfl hl.1 rfl (Nat.le_of_ble_eq_true rfl) dX9_changes_15 ⟨Nat.le_of_ble_eq_true rfl, Nat.le_of_ble_eq_true rfl⟩) (fun H locs hW hS => ?_)
    clear hc
    generalize M9 = M at hW hF
    refine lv_if_eq (tgt := 30) hx hb dX9_changes_18 (by decide) (fun hv4 => ?_) (fun hv4 => ?_)
    · replace hF := (if_pos hv4).symm.trans hF
      exact kb_X9_changes_b30 C hF hW hS (lv_sub hl [] rfl)
    · replace hF := (if_neg hv4).symm.trans hF
      refine lv_iload_n hx hb dX9_changes_21 rfl (lv_at hl 3 rfl) ?_
      refine lv_iconst (v := 0) hx hb dX9_changes_22 (by decide) ?_
      refine lv_iconst (v := 1) hx hb dX9_changes_23 (by decide) ?_
      obtain ⟨xv5, M9, hc, hF⟩ := ps_b2_some hF
      refine ps_backI (x0 := xv5) (M' := M9) hS (ps_callS C hW mf_X9_isWithin tq_583 tq_582 ⟨Nat.le_of_ble_eq_true rfl, Nat.le_of_ble_eq_true rfl⟩ rfl rfl (As := [.int x3, .int (0 : Int32), .int (1 : Int32)]) (rest := []) (c_X9_isWithin hc) rfl hl.1 rfl (Nat.le_of_ble_eq_true rfl) dX9_changes_24 ⟨Nat.le_of_ble_eq_true rfl, Nat.le_of_ble_eq_true rfl⟩) (fun H locs hW hS => ?_)
      clear hc
      generalize M9 = M at hW hF
      refine lv_if_ne (tgt := 33) hx hb dX9_changes_27 (by decide) (fun hv6 => ?_) (fun hv6 => ?_)
      · replace hF := (if_neg hv6).symm.trans hF
        refine lv_aload_n hx hb dX9_changes_33 rfl (lv_at hl 0 rfl) ?_
        refine pw_gR C hW pc_8 (k := 2) (by decide) rfl tq_398 dX9_changes_34 hF (fun av7 hF => ?_)
        obtain ⟨hK, hF⟩ := ps_ck_some hF
        obtain ⟨xv8, M9, hc, hF⟩ := ps_b2_some hF
        refine ps_backI (x0 := xv8) (M' := M9) hS (ps_callV C hW pc_6 mf_X7_hasPair tq_586 tq_587 tq_585 ⟨Nat.le_of_ble_eq_true rfl, Nat.le_of_ble_eq_true rfl⟩ rfl rfl (As := []) (rest := []) (c_X7_hasPair hc) hK rfl hl.1 rfl (Nat.le_of_ble_eq_true rfl) dX9_changes_37 ⟨Nat.le_of_ble_eq_true rfl, Nat.le_of_ble_eq_true rfl⟩) (fun H locs hW hS => ?_)
        clear hc
        generalize M9 = M at hW hF
        refine lv_if_ne (tgt := 46) hx hb dX9_changes_40 (by decide) (fun hv9 => ?_) (fun hv9 => ?_)
        · replace hF := (if_neg hv9).symm.trans hF
          refine lv_aload_n hx hb dX9_changes_46 rfl (lv_at hl 0 rfl) ?_
          refine pw_gR C hW pc_8 (k := 5) (by decide) rfl tq_401 dX9_changes_47 hF (fun av10 hF => ?_)
          refine lv_aload_n hx hb dX9_changes_50 rfl (lv_at hl 0 rfl) ?_
          refine pw_gR C hW pc_8 (k := 2) (by decide) rfl tq_398 dX9_changes_51 hF (fun av11 hF => ?_)
          refine pw_gI C hW pc_6 (k := 5) (by decide) rfl tq_234 dX9_changes_54 hF (fun xv12 hF => ?_)
          refine lv_aload_n hx hb dX9_changes_57 rfl (lv_at hl 0 rfl) ?_
          refine pw_gR C hW pc_8 (k := 2) (by decide) rfl tq_398 dX9_changes_58 hF (fun av13 hF => ?_)
          refine lv_aload_n hx hb dX9_changes_61 rfl (lv_at hl 0 rfl) ?_
          refine pw_gR C hW pc_8 (k := 0) (by decide) rfl tq_396 dX9_changes_62 hF (fun av14 hF => ?_)
          obtain ⟨hK, hF⟩ := ps_ck_some hF
          obtain ⟨xv15, M9, hc, hF⟩ := ps_b2_some hF
          refine ps_backI (x0 := xv15) (M' := M9) hS (ps_callV C hW pc_6 mf_X7_lean tq_632 tq_633 tq_779 ⟨Nat.le_of_ble_eq_true rfl, Nat.le_of_ble_eq_true rfl⟩ rfl rfl (As := [.ref (B + av14)]) (rest := [.int xv12, .ref (B + av10)]) (c_X7_lean hc) hK rfl hl.1 rfl (Nat.le_of_ble_eq_true rfl) dX9_changes_65 ⟨Nat.le_of_ble_eq_true rfl, Nat.le_of_ble_eq_true rfl⟩) (fun H locs hW hS => ?_)
          clear hc
          generalize M9 = M at hW hF
          refine lv_iload_n hx hb dX9_changes_68 rfl (lv_at hl 1 rfl) ?_
          refine lv_iload_n hx hb dX9_changes_69 rfl (lv_at hl 2 rfl) ?_
          obtain ⟨hK, hF⟩ := ps_ck_some hF
          obtain ⟨M9, hc, hF⟩ := ps_b1_some hF
          refine ps_backV (M' := M9) hS (ps_callV C hW pc_0 mf_X0_weigh tq_781 tq_782 tq_780 ⟨Nat.le_of_ble_eq_true rfl, Nat.le_of_ble_eq_true rfl⟩ rfl rfl (As := [.int xv12, .int xv15, .int x1, .int x2]) (rest := []) (c_X0_weigh hc) hK rfl hl.1 rfl (Nat.le_of_ble_eq_true rfl) dX9_changes_70 ⟨Nat.le_of_ble_eq_true rfl, Nat.le_of_ble_eq_true rfl⟩) (fun H locs hW hS => ?_)
          clear hc
          generalize M9 = M at hW hF
          refine lv_iload_n hx hb dX9_changes_73 rfl (lv_at hl 3 rfl) ?_
          refine lv_if_ne (tgt := 87) hx hb dX9_changes_74 (by decide) (fun hv16 => ?_) (fun hv16 => ?_)
          · replace hF := (if_neg hv16).symm.trans hF
            refine lv_aload_n hx hb dX9_changes_87 rfl (lv_at hl 0 rfl) ?_
            refine pw_gR C hW pc_8 (k := 5) (by decide) rfl tq_401 dX9_changes_88 hF (fun av17 hF => ?_)
            refine pw_gI C hW pc_0 (k := 1) (by decide) rfl tq_354 dX9_changes_91 hF (fun xv18 hF => ?_)
            exact kb_X9_changes_b94 C hF hW hS (lv_sub hl [] rfl)
          · replace hF := (if_pos hv16).symm.trans hF
            refine lv_aload_n hx hb dX9_changes_77 rfl (lv_at hl 0 rfl) ?_
            refine pw_gR C hW pc_8 (k := 5) (by decide) rfl tq_401 dX9_changes_78 hF (fun av19 hF => ?_)
            refine pw_gI C hW pc_0 (k := 0) (by decide) rfl tq_352 dX9_changes_81 hF (fun xv20 hF => ?_)
            refine lv_goto (tgt := 94) hx hb dX9_changes_84 (by decide) ?_
            exact kb_X9_changes_b94 C hF hW hS (lv_sub hl [] rfl)
        · replace hF := (if_pos hv9).symm.trans hF
          refine lv_ldc (v := -1000000003) hx hb hown (hts _ tq_572) dX9_changes_43 ?_
          exact pw_iret C hW hS dX9_changes_45 hF
      · replace hF := (if_pos hv6).symm.trans hF
        exact kb_X9_changes_b30 C hF hW hS (lv_sub hl [] rfl)
theorem mf_X9_changes : ps_mf yX9_changes cX9_changes 4 ((some .int)) 3 := ⟨tq_778, tq_61, by decide +kernel, by decide +kernel, by decide +kernel⟩
theorem c_X9_changes {l : Launch} {D : va_G} {Y : ps_A} {B : Nat} {M : ps_M} {a0 : Nat} {x1 : Int32} {x2 : Int32} {x3 : Int32} {r : Int32} {M' : ps_M} (hF : f_X9_changes M a0 x1 x2 x3 = some (r, M')) : Met l yX9_changes (Cond.code yX9_changes cX9_changes 4 ((some .int)) :: tb_G) rm_X9_changes (ps_PB D Y B M [.ref (B + a0), .int x1, .int x2, .int x3]) (va_Qi (fun x (_ : Unit) => x = r) (fun _ t => ps_St D Y B M' t) (fun q => B ≤ q)) 0 0 (fun q => B ≤ q) :=
  pm_of (by decide +kernel) (Nat.le_of_ble_eq_true rfl) (fun p e s m args below meth c C hW hS ls hl => kb_X9_changes C hF hW hS hl)

abbrev rm_X9_whenWedge : Room := { frames := 6, cells := 0, slots := 0, locals := 143 }
def f_X9_whenWedge_b61 (M : ps_M) (t0 : Int32) : Option (Int32 × ps_M) := some (t0, M)
def f_X9_whenWedge_b50 (M : ps_M) (x2 : Int32) : Option (Int32 × ps_M) := f_X9_whenWedge_b61 M x2
def f_X9_whenWedge (M : ps_M) (a0 : Nat) (x1 : Int32) : Option (Int32 × ps_M) := ps_b2 (f_X9_isWithin M x1 (0 : Int32) (1 : Int32)) (fun xv1 M => if xv1 = 0 then (some ((-1000000002 : Int32), M)) else (ps_gR M a0 8 2 (fun av3 => ps_ck M av3 6 (ps_b2 (f_X7_hasPair M av3 ) (fun xv4 M => if xv4 = 0 then (some ((-1000000003 : Int32), M)) else (ps_gR M a0 8 4 (fun av6 => ps_gR M a0 8 0 (fun av7 => ps_gR M a0 8 2 (fun av8 => ps_ck M av6 5 (ps_b2 (f_X6_findWedge M av6 av7 av8) (fun xv9 M => if xv9 = (-1 : Int32) then (f_X9_whenWedge_b50 M xv9) else (if x1 = 0 then (f_X9_whenWedge_b50 M xv9) else (ps_gR M a0 8 4 (fun av12 => ps_gI M av12 5 0 (fun xv13 => f_X9_whenWedge_b61 M xv13)))))))))))))))
set_option maxRecDepth 100000 in
set_option maxHeartbeats 4000000 in
theorem kb_X9_whenWedge_b61 (C : ps_C p s m args meth c cX9_whenWedge 3 RX9 ((some .int)) "whenWedge" D Y B) {q : Int32 × ps_M}  {M : ps_M} {t0 : Int32} (hF : f_X9_whenWedge_b61 M t0 = some q) (hW : ps_W D Y B M H) (hS : va_S (fun q => B ≤ q) s.heap H locs) (hl : lv_has ls 3 []) : W p l e rm_X9_whenWedge s m args below meth c H locs 0 0 (ps_Qi D Y B below args s 0 0 q) (F0 m 61 ls [.int t0]) := by
  have hx := C.1
  have hb := C.2.1
  have hml := C.2.2.1
  have hown := C.2.2.2.1
  have hts := C.2.2.2.2.1
  unfold f_X9_whenWedge_b61 at hF
  exact pw_iret C hW hS dX9_whenWedge_61 hF
set_option maxRecDepth 100000 in
set_option maxHeartbeats 4000000 in
theorem kb_X9_whenWedge_b50 (C : ps_C p s m args meth c cX9_whenWedge 3 RX9 ((some .int)) "whenWedge" D Y B) {q : Int32 × ps_M}  {M : ps_M} {x2 : Int32} (hF : f_X9_whenWedge_b50 M x2 = some q) (hW : ps_W D Y B M H) (hS : va_S (fun q => B ≤ q) s.heap H locs) (hl : lv_has ls 3 [(2, .int x2)]) : W p l e rm_X9_whenWedge s m args below meth c H locs 0 0 (ps_Qi D Y B below args s 0 0 q) (F0 m 50 ls []) := by
  have hx := C.1
  have hb := C.2.1
  have hml := C.2.2.1
  have hown := C.2.2.2.1
  have hts := C.2.2.2.2.1
  unfold f_X9_whenWedge_b50 at hF
  refine lv_iload_n hx hb dX9_whenWedge_50 rfl (lv_at hl 0 rfl) ?_
  refine lv_goto (tgt := 61) hx hb dX9_whenWedge_51 (by decide) ?_
  exact kb_X9_whenWedge_b61 C hF hW hS (lv_sub hl [] rfl)
set_option maxRecDepth 100000 in
set_option maxHeartbeats 4000000 in
theorem kb_X9_whenWedge (C : ps_C p s m args meth c cX9_whenWedge 3 RX9 ((some .int)) "whenWedge" D Y B) {q : Int32 × ps_M}  {M : ps_M} {a0 : Nat} {x1 : Int32} (hF : f_X9_whenWedge M a0 x1 = some q) (hW : ps_W D Y B M H) (hS : va_S (fun q => B ≤ q) s.heap H locs) (hl : lv_has ls 3 [(0, .ref (B + a0)), (1, .int x1)]) : W p l e rm_X9_whenWedge s m args below meth c H locs 0 0 (ps_Qi D Y B below args s 0 0 q) (F0 m 0 ls []) := by
  have hx := C.1
  have hb := C.2.1
  have hml := C.2.2.1
  have hown := C.2.2.2.1
  have hts := C.2.2.2.2.1
  unfold f_X9_whenWedge at hF
  refine lv_iload_n hx hb dX9_whenWedge_0 rfl (lv_at hl 1 rfl) ?_
  refine lv_iconst (v := 0) hx hb dX9_whenWedge_1 (by decide) ?_
  refine lv_iconst (v := 1) hx hb dX9_whenWedge_2 (by decide) ?_
  obtain ⟨xv1, M9, hc, hF⟩ := ps_b2_some hF
  refine ps_backI (x0 := xv1) (M' := M9) hS (ps_callS C hW mf_X9_isWithin tq_583 tq_582 ⟨Nat.le_of_ble_eq_true rfl, Nat.le_of_ble_eq_true rfl⟩ rfl rfl (As := [.int x1, .int (0 : Int32), .int (1 : Int32)]) (rest := []) (c_X9_isWithin hc) rfl hl.1 rfl (Nat.le_of_ble_eq_true rfl) dX9_whenWedge_3 ⟨Nat.le_of_ble_eq_true rfl, Nat.le_of_ble_eq_true rfl⟩) (fun H locs hW hS => ?_)
  clear hc
  generalize M9 = M at hW hF
  refine lv_if_ne (tgt := 12) hx hb dX9_whenWedge_6 (by decide) (fun hv2 => ?_) (fun hv2 => ?_)
  · replace hF := (if_neg hv2).symm.trans hF
    refine lv_aload_n hx hb dX9_whenWedge_12 rfl (lv_at hl 0 rfl) ?_
    refine pw_gR C hW pc_8 (k := 2) (by decide) rfl tq_398 dX9_whenWedge_13 hF (fun av3 hF => ?_)
    obtain ⟨hK, hF⟩ := ps_ck_some hF
    obtain ⟨xv4, M9, hc, hF⟩ := ps_b2_some hF
    refine ps_backI (x0 := xv4) (M' := M9) hS (ps_callV C hW pc_6 mf_X7_hasPair tq_586 tq_587 tq_585 ⟨Nat.le_of_ble_eq_true rfl, Nat.le_of_ble_eq_true rfl⟩ rfl rfl (As := []) (rest := []) (c_X7_hasPair hc) hK rfl hl.1 rfl (Nat.le_of_ble_eq_true rfl) dX9_whenWedge_16 ⟨Nat.le_of_ble_eq_true rfl, Nat.le_of_ble_eq_true rfl⟩) (fun H locs hW hS => ?_)
    clear hc
    generalize M9 = M at hW hF
    refine lv_if_ne (tgt := 25) hx hb dX9_whenWedge_19 (by decide) (fun hv5 => ?_) (fun hv5 => ?_)
    · replace hF := (if_neg hv5).symm.trans hF
      refine lv_aload_n hx hb dX9_whenWedge_25 rfl (lv_at hl 0 rfl) ?_
      refine pw_gR C hW pc_8 (k := 4) (by decide) rfl tq_400 dX9_whenWedge_26 hF (fun av6 hF => ?_)
      refine lv_aload_n hx hb dX9_whenWedge_29 rfl (lv_at hl 0 rfl) ?_
      refine pw_gR C hW pc_8 (k := 0) (by decide) rfl tq_396 dX9_whenWedge_30 hF (fun av7 hF => ?_)
      refine lv_aload_n hx hb dX9_whenWedge_33 rfl (lv_at hl 0 rfl) ?_
      refine pw_gR C hW pc_8 (k := 2) (by decide) rfl tq_398 dX9_whenWedge_34 hF (fun av8 hF => ?_)
      obtain ⟨hK, hF⟩ := ps_ck_some hF
      obtain ⟨xv9, M9, hc, hF⟩ := ps_b2_some hF
      refine ps_backI (x0 := xv9) (M' := M9) hS (ps_callV C hW pc_5 mf_X6_findWedge tq_817 tq_818 tq_816 ⟨Nat.le_of_ble_eq_true rfl, Nat.le_of_ble_eq_true rfl⟩ rfl rfl (As := [.ref (B + av7), .ref (B + av8)]) (rest := []) (c_X6_findWedge hc) hK rfl hl.1 rfl (Nat.le_of_ble_eq_true rfl) dX9_whenWedge_37 ⟨Nat.le_of_ble_eq_true rfl, Nat.le_of_ble_eq_true rfl⟩) (fun H locs hW hS => ?_)
      clear hc
      generalize M9 = M at hW hF
      refine lv_istore_n (lv' := [(2, .int xv9), (0, .ref (B + a0)), (1, .int x1)]) hx hb dX9_whenWedge_40 rfl hl (by decide) rfl (fun ls hl => ?_)
      refine lv_iload_n hx hb dX9_whenWedge_41 rfl (lv_at hl 0 rfl) ?_
      refine lv_iconst (v := -1) hx hb dX9_whenWedge_42 (by decide) ?_
      refine lv_icmp_eq (tgt := 50) hx hb dX9_whenWedge_43 (by decide) (fun hv10 => ?_) (fun hv10 => ?_)
      · replace hF := (if_pos hv10).symm.trans hF
        exact kb_X9_whenWedge_b50 C hF hW hS (lv_sub hl [0] rfl)
      · replace hF := (if_neg hv10).symm.trans hF
        refine lv_iload_n hx hb dX9_whenWedge_46 rfl (lv_at hl 2 rfl) ?_
        refine lv_if_ne (tgt := 54) hx hb dX9_whenWedge_47 (by decide) (fun hv11 => ?_) (fun hv11 => ?_)
        · replace hF := (if_neg hv11).symm.trans hF
          refine lv_aload_n hx hb dX9_whenWedge_54 rfl (lv_at hl 1 rfl) ?_
          refine pw_gR C hW pc_8 (k := 4) (by decide) rfl tq_400 dX9_whenWedge_55 hF (fun av12 hF => ?_)
          refine pw_gI C hW pc_5 (k := 0) (by decide) rfl tq_311 dX9_whenWedge_58 hF (fun xv13 hF => ?_)
          exact kb_X9_whenWedge_b61 C hF hW hS (lv_sub hl [] rfl)
        · replace hF := (if_pos hv11).symm.trans hF
          exact kb_X9_whenWedge_b50 C hF hW hS (lv_sub hl [0] rfl)
    · replace hF := (if_pos hv5).symm.trans hF
      refine lv_ldc (v := -1000000003) hx hb hown (hts _ tq_572) dX9_whenWedge_22 ?_
      exact pw_iret C hW hS dX9_whenWedge_24 hF
  · replace hF := (if_pos hv2).symm.trans hF
    refine lv_ldc (v := -1000000002) hx hb hown (hts _ tq_434) dX9_whenWedge_9 ?_
    exact pw_iret C hW hS dX9_whenWedge_11 hF
theorem mf_X9_whenWedge : ps_mf yX9_whenWedge cX9_whenWedge 3 ((some .int)) 1 := ⟨tq_815, tq_61, by decide +kernel, by decide +kernel, by decide +kernel⟩
theorem c_X9_whenWedge {l : Launch} {D : va_G} {Y : ps_A} {B : Nat} {M : ps_M} {a0 : Nat} {x1 : Int32} {r : Int32} {M' : ps_M} (hF : f_X9_whenWedge M a0 x1 = some (r, M')) : Met l yX9_whenWedge (Cond.code yX9_whenWedge cX9_whenWedge 3 ((some .int)) :: tb_G) rm_X9_whenWedge (ps_PB D Y B M [.ref (B + a0), .int x1]) (va_Qi (fun x (_ : Unit) => x = r) (fun _ t => ps_St D Y B M' t) (fun q => B ≤ q)) 0 0 (fun q => B ≤ q) :=
  pm_of (by decide +kernel) (Nat.le_of_ble_eq_true rfl) (fun p e s m args below meth c C hW hS ls hl => kb_X9_whenWedge C hF hW hS hl)

abbrev rm_X9_whenRest : Room := { frames := 5, cells := 0, slots := 0, locals := 124 }
def f_X9_whenRest_b19 (M : ps_M)  : Option (Int32 × ps_M) := some ((-1000000002 : Int32), M)
def f_X9_whenRest_b67 (M : ps_M) (t0 : Int32) : Option (Int32 × ps_M) := some (t0, M)
def f_X9_whenRest (M : ps_M) (a0 : Nat) (x1 : Int32) (x2 : Int32) : Option (Int32 × ps_M) := ps_b2 (f_X9_isWithin M x1 (1 : Int32) (10 : Int32)) (fun xv1 M => if xv1 = 0 then (f_X9_whenRest_b19 M ) else (ps_b2 (f_X9_isWithin M x2 (0 : Int32) (1 : Int32)) (fun xv3 M => if xv3 = 0 then (f_X9_whenRest_b19 M ) else (ps_gR M a0 8 2 (fun av5 => ps_ck M av5 6 (ps_b2 (f_X7_hasPair M av5 ) (fun xv6 M => if xv6 = 0 then (some ((-1000000003 : Int32), M)) else (ps_gR M a0 8 4 (fun av8 => ps_gR M a0 8 0 (fun av9 => ps_gR M a0 8 2 (fun av10 => ps_ck M av8 5 (ps_b2 (f_X6_findRests M av8 av9 av10 x1) (fun xv11 M => if x2 = 0 then (ps_gR M a0 8 4 (fun av13 => ps_gI M av13 5 3 (fun xv14 => f_X9_whenRest_b67 M xv14))) else (f_X9_whenRest_b67 M xv11))))))))))))))
set_option maxRecDepth 100000 in
set_option maxHeartbeats 4000000 in
theorem kb_X9_whenRest_b19 (C : ps_C p s m args meth c cX9_whenRest 4 RX9 ((some .int)) "whenRest" D Y B) {q : Int32 × ps_M}  {M : ps_M}  (hF : f_X9_whenRest_b19 M  = some q) (hW : ps_W D Y B M H) (hS : va_S (fun q => B ≤ q) s.heap H locs) (hl : lv_has ls 4 []) : W p l e rm_X9_whenRest s m args below meth c H locs 0 0 (ps_Qi D Y B below args s 0 0 q) (F0 m 19 ls []) := by
  have hx := C.1
  have hb := C.2.1
  have hml := C.2.2.1
  have hown := C.2.2.2.1
  have hts := C.2.2.2.2.1
  unfold f_X9_whenRest_b19 at hF
  refine lv_ldc (v := -1000000002) hx hb hown (hts _ tq_434) dX9_whenRest_19 ?_
  exact pw_iret C hW hS dX9_whenRest_21 hF
set_option maxRecDepth 100000 in
set_option maxHeartbeats 4000000 in
theorem kb_X9_whenRest_b67 (C : ps_C p s m args meth c cX9_whenRest 4 RX9 ((some .int)) "whenRest" D Y B) {q : Int32 × ps_M}  {M : ps_M} {t0 : Int32} (hF : f_X9_whenRest_b67 M t0 = some q) (hW : ps_W D Y B M H) (hS : va_S (fun q => B ≤ q) s.heap H locs) (hl : lv_has ls 4 []) : W p l e rm_X9_whenRest s m args below meth c H locs 0 0 (ps_Qi D Y B below args s 0 0 q) (F0 m 67 ls [.int t0]) := by
  have hx := C.1
  have hb := C.2.1
  have hml := C.2.2.1
  have hown := C.2.2.2.1
  have hts := C.2.2.2.2.1
  unfold f_X9_whenRest_b67 at hF
  exact pw_iret C hW hS dX9_whenRest_67 hF
set_option maxRecDepth 100000 in
set_option maxHeartbeats 4000000 in
theorem kb_X9_whenRest (C : ps_C p s m args meth c cX9_whenRest 4 RX9 ((some .int)) "whenRest" D Y B) {q : Int32 × ps_M}  {M : ps_M} {a0 : Nat} {x1 : Int32} {x2 : Int32} (hF : f_X9_whenRest M a0 x1 x2 = some q) (hW : ps_W D Y B M H) (hS : va_S (fun q => B ≤ q) s.heap H locs) (hl : lv_has ls 4 [(0, .ref (B + a0)), (1, .int x1), (2, .int x2)]) : W p l e rm_X9_whenRest s m args below meth c H locs 0 0 (ps_Qi D Y B below args s 0 0 q) (F0 m 0 ls []) := by
  have hx := C.1
  have hb := C.2.1
  have hml := C.2.2.1
  have hown := C.2.2.2.1
  have hts := C.2.2.2.2.1
  unfold f_X9_whenRest at hF
  refine lv_iload_n hx hb dX9_whenRest_0 rfl (lv_at hl 1 rfl) ?_
  refine lv_iconst (v := 1) hx hb dX9_whenRest_1 (by decide) ?_
  refine lv_bipush (v := 10) hx hb dX9_whenRest_2 (by decide) ?_
  obtain ⟨xv1, M9, hc, hF⟩ := ps_b2_some hF
  refine ps_backI (x0 := xv1) (M' := M9) hS (ps_callS C hW mf_X9_isWithin tq_583 tq_582 ⟨Nat.le_of_ble_eq_true rfl, Nat.le_of_ble_eq_true rfl⟩ rfl rfl (As := [.int x1, .int (1 : Int32), .int (10 : Int32)]) (rest := []) (c_X9_isWithin hc) rfl hl.1 rfl (Nat.le_of_ble_eq_true rfl) dX9_whenRest_4 ⟨Nat.le_of_ble_eq_true rfl, Nat.le_of_ble_eq_true rfl⟩) (fun H locs hW hS => ?_)
  clear hc
  generalize M9 = M at hW hF
  refine lv_if_eq (tgt := 19) hx hb dX9_whenRest_7 (by decide) (fun hv2 => ?_) (fun hv2 => ?_)
  · replace hF := (if_pos hv2).symm.trans hF
    exact kb_X9_whenRest_b19 C hF hW hS (lv_sub hl [] rfl)
  · replace hF := (if_neg hv2).symm.trans hF
    refine lv_iload_n hx hb dX9_whenRest_10 rfl (lv_at hl 2 rfl) ?_
    refine lv_iconst (v := 0) hx hb dX9_whenRest_11 (by decide) ?_
    refine lv_iconst (v := 1) hx hb dX9_whenRest_12 (by decide) ?_
    obtain ⟨xv3, M9, hc, hF⟩ := ps_b2_some hF
    refine ps_backI (x0 := xv3) (M' := M9) hS (ps_callS C hW mf_X9_isWithin tq_583 tq_582 ⟨Nat.le_of_ble_eq_true rfl, Nat.le_of_ble_eq_true rfl⟩ rfl rfl (As := [.int x2, .int (0 : Int32), .int (1 : Int32)]) (rest := []) (c_X9_isWithin hc) rfl hl.1 rfl (Nat.le_of_ble_eq_true rfl) dX9_whenRest_13 ⟨Nat.le_of_ble_eq_true rfl, Nat.le_of_ble_eq_true rfl⟩) (fun H locs hW hS => ?_)
    clear hc
    generalize M9 = M at hW hF
    refine lv_if_ne (tgt := 22) hx hb dX9_whenRest_16 (by decide) (fun hv4 => ?_) (fun hv4 => ?_)
    · replace hF := (if_neg hv4).symm.trans hF
      refine lv_aload_n hx hb dX9_whenRest_22 rfl (lv_at hl 0 rfl) ?_
      refine pw_gR C hW pc_8 (k := 2) (by decide) rfl tq_398 dX9_whenRest_23 hF (fun av5 hF => ?_)
      obtain ⟨hK, hF⟩ := ps_ck_some hF
      obtain ⟨xv6, M9, hc, hF⟩ := ps_b2_some hF
      refine ps_backI (x0 := xv6) (M' := M9) hS (ps_callV C hW pc_6 mf_X7_hasPair tq_586 tq_587 tq_585 ⟨Nat.le_of_ble_eq_true rfl, Nat.le_of_ble_eq_true rfl⟩ rfl rfl (As := []) (rest := []) (c_X7_hasPair hc) hK rfl hl.1 rfl (Nat.le_of_ble_eq_true rfl) dX9_whenRest_26 ⟨Nat.le_of_ble_eq_true rfl, Nat.le_of_ble_eq_true rfl⟩) (fun H locs hW hS => ?_)
      clear hc
      generalize M9 = M at hW hF
      refine lv_if_ne (tgt := 35) hx hb dX9_whenRest_29 (by decide) (fun hv7 => ?_) (fun hv7 => ?_)
      · replace hF := (if_neg hv7).symm.trans hF
        refine lv_aload_n hx hb dX9_whenRest_35 rfl (lv_at hl 0 rfl) ?_
        refine pw_gR C hW pc_8 (k := 4) (by decide) rfl tq_400 dX9_whenRest_36 hF (fun av8 hF => ?_)
        refine lv_aload_n hx hb dX9_whenRest_39 rfl (lv_at hl 0 rfl) ?_
        refine pw_gR C hW pc_8 (k := 0) (by decide) rfl tq_396 dX9_whenRest_40 hF (fun av9 hF => ?_)
        refine lv_aload_n hx hb dX9_whenRest_43 rfl (lv_at hl 0 rfl) ?_
        refine pw_gR C hW pc_8 (k := 2) (by decide) rfl tq_398 dX9_whenRest_44 hF (fun av10 hF => ?_)
        refine lv_iload_n hx hb dX9_whenRest_47 rfl (lv_at hl 1 rfl) ?_
        obtain ⟨hK, hF⟩ := ps_ck_some hF
        obtain ⟨xv11, M9, hc, hF⟩ := ps_b2_some hF
        refine ps_backI (x0 := xv11) (M' := M9) hS (ps_callV C hW pc_5 mf_X6_findRests tq_826 tq_827 tq_825 ⟨Nat.le_of_ble_eq_true rfl, Nat.le_of_ble_eq_true rfl⟩ rfl rfl (As := [.ref (B + av9), .ref (B + av10), .int x1]) (rest := []) (c_X6_findRests hc) hK rfl hl.1 rfl (Nat.le_of_ble_eq_true rfl) dX9_whenRest_48 ⟨Nat.le_of_ble_eq_true rfl, Nat.le_of_ble_eq_true rfl⟩) (fun H locs hW hS => ?_)
        clear hc
        generalize M9 = M at hW hF
        refine lv_istore_n (lv' := [(3, .int xv11), (0, .ref (B + a0)), (1, .int x1), (2, .int x2)]) hx hb dX9_whenRest_51 rfl hl (by decide) rfl (fun ls hl => ?_)
        refine lv_iload_n hx hb dX9_whenRest_52 rfl (lv_at hl 3 rfl) ?_
        refine lv_if_ne (tgt := 66) hx hb dX9_whenRest_53 (by decide) (fun hv12 => ?_) (fun hv12 => ?_)
        · replace hF := (if_neg hv12).symm.trans hF
          refine lv_iload_n hx hb dX9_whenRest_66 rfl (lv_at hl 0 rfl) ?_
          exact kb_X9_whenRest_b67 C hF hW hS (lv_sub hl [] rfl)
        · replace hF := (if_pos hv12).symm.trans hF
          refine lv_aload_n hx hb dX9_whenRest_56 rfl (lv_at hl 1 rfl) ?_
          refine pw_gR C hW pc_8 (k := 4) (by decide) rfl tq_400 dX9_whenRest_57 hF (fun av13 hF => ?_)
          refine pw_gI C hW pc_5 (k := 3) (by decide) rfl tq_317 dX9_whenRest_60 hF (fun xv14 hF => ?_)
          refine lv_goto (tgt := 67) hx hb dX9_whenRest_63 (by decide) ?_
          exact kb_X9_whenRest_b67 C hF hW hS (lv_sub hl [] rfl)
      · replace hF := (if_pos hv7).symm.trans hF
        refine lv_ldc (v := -1000000003) hx hb hown (hts _ tq_572) dX9_whenRest_32 ?_
        exact pw_iret C hW hS dX9_whenRest_34 hF
    · replace hF := (if_pos hv4).symm.trans hF
      exact kb_X9_whenRest_b19 C hF hW hS (lv_sub hl [] rfl)
theorem mf_X9_whenRest : ps_mf yX9_whenRest cX9_whenRest 4 ((some .int)) 2 := ⟨tq_824, tq_61, by decide +kernel, by decide +kernel, by decide +kernel⟩
theorem c_X9_whenRest {l : Launch} {D : va_G} {Y : ps_A} {B : Nat} {M : ps_M} {a0 : Nat} {x1 : Int32} {x2 : Int32} {r : Int32} {M' : ps_M} (hF : f_X9_whenRest M a0 x1 x2 = some (r, M')) : Met l yX9_whenRest (Cond.code yX9_whenRest cX9_whenRest 4 ((some .int)) :: tb_G) rm_X9_whenRest (ps_PB D Y B M [.ref (B + a0), .int x1, .int x2]) (va_Qi (fun x (_ : Unit) => x = r) (fun _ t => ps_St D Y B M' t) (fun q => B ≤ q)) 0 0 (fun q => B ≤ q) :=
  pm_of (by decide +kernel) (Nat.le_of_ble_eq_true rfl) (fun p e s m args below meth c C hW hS ls hl => kb_X9_whenRest C hF hW hS hl)

end
