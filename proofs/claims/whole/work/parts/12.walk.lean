section
variable {p : Program} {l : Launch} {e : Env} {s : State} {m : MethodId} {args : Array Value} {below : List Frame} {meth : Method} {c : Code} {H : Heap} {locs : List Loc} {ls : Array Slot} {D : va_G} {Y : ps_A} {B : Nat}
abbrev rm_X6_findMate : Room := { frames := 5, cells := 0, slots := 0, locals := 120 }
def f_X6_findMate_b153 (k25 : ps_M → Nat → Nat → Nat → Int32 → Int32 → Int32 → Option (Int32 × ps_M)) (M : ps_M) (a0 : Nat) (a1 : Nat) (a2 : Nat) (x3 : Int32) (x4 : Int32) (x5 : Int32) : Option (Int32 × ps_M) := ps_v (x5 + 1) (fun xv1 => k25 M a0 a1 a2 x3 x4 xv1)
def f_X6_findMate_b137 (k25 : ps_M → Nat → Nat → Nat → Int32 → Int32 → Int32 → Option (Int32 × ps_M)) (M : ps_M) (a0 : Nat) (a1 : Nat) (a2 : Nat) (x5 : Int32) (x8 : Int32) (x9 : Int32) (x10 : Int32) : Option (Int32 × ps_M) := ps_pI M a0 5 0 x10 (fun M => ps_v ((x8 + x9)) (fun xv2 => f_X6_findMate_b153 k25 M a0 a1 a2 x5 xv2 x5))
def f_X6_findMate_b121 (k25 : ps_M → Nat → Nat → Nat → Int32 → Int32 → Int32 → Option (Int32 × ps_M)) (M : ps_M) (a0 : Nat) (a1 : Nat) (a2 : Nat) (x3 : Int32) (x4 : Int32) (x5 : Int32) (x8 : Int32) (x9 : Int32) (x10 : Int32) (t0 : Int32) : Option (Int32 × ps_M) := ps_gI M a0 5 0 (fun xv3 => if x10 < xv3 then (f_X6_findMate_b137 k25 M a0 a1 a2 x5 x8 x9 x10) else (if t0 = 0 then (f_X6_findMate_b153 k25 M a0 a1 a2 x3 x4 x5) else (f_X6_findMate_b137 k25 M a0 a1 a2 x5 x8 x9 x10)))
def f_X6_findMate_b120 (k25 : ps_M → Nat → Nat → Nat → Int32 → Int32 → Int32 → Option (Int32 × ps_M)) (M : ps_M) (a0 : Nat) (a1 : Nat) (a2 : Nat) (x3 : Int32) (x4 : Int32) (x5 : Int32) (x8 : Int32) (x9 : Int32) (x10 : Int32) : Option (Int32 × ps_M) := f_X6_findMate_b121 k25 M a0 a1 a2 x3 x4 x5 x8 x9 x10 (0 : Int32)
def f_X6_findMate_b55 (k25 : ps_M → Nat → Nat → Nat → Int32 → Int32 → Int32 → Option (Int32 × ps_M)) (M : ps_M) (a0 : Nat) (a1 : Nat) (a2 : Nat) (x3 : Int32) (x4 : Int32) (x5 : Int32) (x6 : Int32) (t0 : Int32) : Option (Int32 × ps_M) := ps_ck M a0 5 (ps_b2 (f_X6_strokesFresh M a0 a1 a2 (0 : Int32) x5) (fun xv6 M => ps_ck M a0 5 (ps_b2 (f_X6_strokesFresh M a0 a1 a2 x6 t0) (fun xv7 M => ps_v (if xv6 < xv7 then xv7 else xv6) (fun xv8 => ps_gI M a0 5 0 (fun xv9 => if xv8 = xv9 then (if (1000 : Int32) ≤ xv8 then (f_X6_findMate_b120 k25 M a0 a1 a2 x3 x4 x5 xv6 xv7 xv8) else (if x4 ≤ (xv6 + xv7) then (f_X6_findMate_b120 k25 M a0 a1 a2 x3 x4 x5 xv6 xv7 xv8) else (f_X6_findMate_b121 k25 M a0 a1 a2 x3 x4 x5 xv6 xv7 xv8 (1 : Int32)))) else (f_X6_findMate_b120 k25 M a0 a1 a2 x3 x4 x5 xv6 xv7 xv8)))))))
def f_X6_findMate_b42 (k25 : ps_M → Nat → Nat → Nat → Int32 → Int32 → Int32 → Option (Int32 × ps_M)) (M : ps_M) (a0 : Nat) (a1 : Nat) (a2 : Nat) (x3 : Int32) (x4 : Int32) (x5 : Int32) (t0 : Int32) : Option (Int32 × ps_M) := if x5 = (3 : Int32) then (f_X6_findMate_b55 k25 M a0 a1 a2 x3 x4 x5 t0 (2 : Int32)) else (f_X6_findMate_b55 k25 M a0 a1 a2 x3 x4 x5 t0 (3 : Int32))
def f_X6_findMate_w25 (k25 : ps_M → Nat → Nat → Nat → Int32 → Int32 → Int32 → Option (Int32 × ps_M)) (M : ps_M) (a0 : Nat) (a1 : Nat) (a2 : Nat) (x3 : Int32) (x4 : Int32) (x5 : Int32) : Option (Int32 × ps_M) := if (4 : Int32) ≤ x5 then (some (x3, M)) else (if x5 = (1 : Int32) then (f_X6_findMate_b42 k25 M a0 a1 a2 x3 x4 x5 (2 : Int32)) else (f_X6_findMate_b42 k25 M a0 a1 a2 x3 x4 x5 (1 : Int32)))
def f_X6_findMate_l25 : Nat → ps_M → Nat → Nat → Nat → Int32 → Int32 → Int32 → Option (Int32 × ps_M)
  | 0, _, _, _, _, _, _, _ => none
  | n + 1, M, a0, a1, a2, x3, x4, x5 => f_X6_findMate_w25 (f_X6_findMate_l25 n) M a0 a1 a2 x3 x4 x5
def f_X6_findMate (M : ps_M) (a0 : Nat) (a1 : Nat) (a2 : Nat) : Option (Int32 × ps_M) := ps_gI M a1 7 1 (fun xv16 => if (4 : Int32) ≤ xv16 then (ps_pI M a0 5 0 (1000 : Int32) (fun M => f_X6_findMate_l25 ps_fu M a0 a1 a2 (-1 : Int32) (0 : Int32) (1 : Int32))) else (some ((-1 : Int32), M)))
set_option maxRecDepth 100000 in
set_option maxHeartbeats 4000000 in
theorem kb_X6_findMate_b153 (C : ps_C p s m args meth c cX6_findMate 12 RX6 ((some .int)) "findMate" D Y B) {q : Int32 × ps_M} (k25 : ps_M → Nat → Nat → Nat → Int32 → Int32 → Int32 → Option (Int32 × ps_M)) (hk25 : ∀ (M : ps_M) (H : Heap) (locs : List Loc) (ls : Array Slot) (a0 : Nat) (a1 : Nat) (a2 : Nat) (x3 : Int32) (x4 : Int32) (x5 : Int32), k25 M a0 a1 a2 x3 x4 x5 = some q → ps_W D Y B M H → va_S (fun q => B ≤ q) s.heap H locs → lv_has ls 12 [(0, .ref (B + a0)), (1, .ref (B + a1)), (2, .ref (B + a2)), (3, .int x3), (4, .int x4), (5, .int x5)] → W p l e rm_X6_findMate s m args below meth c H locs 0 0 (ps_Qi D Y B below args s 0 0 q) (F0 m 25 ls [])) {M : ps_M} {a0 : Nat} {a1 : Nat} {a2 : Nat} {x3 : Int32} {x4 : Int32} {x5 : Int32} (hF : f_X6_findMate_b153 k25 M a0 a1 a2 x3 x4 x5 = some q) (hW : ps_W D Y B M H) (hS : va_S (fun q => B ≤ q) s.heap H locs) (hl : lv_has ls 12 [(0, .ref (B + a0)), (1, .ref (B + a1)), (2, .ref (B + a2)), (3, .int x3), (4, .int x4), (5, .int x5)]) : W p l e rm_X6_findMate s m args below meth c H locs 0 0 (ps_Qi D Y B below args s 0 0 q) (F0 m 153 ls []) := by
  have hx := C.1
  have hb := C.2.1
  have hml := C.2.2.1
  have hown := C.2.2.2.1
  have hts := C.2.2.2.2.1
  unfold f_X6_findMate_b153 at hF
  obtain ⟨xv1, exv1, hF⟩ := ps_ve hF
  refine lv_iinc (v := xv1) (lv' := [(5, .int xv1), (0, .ref (B + a0)), (1, .ref (B + a1)), (2, .ref (B + a2)), (3, .int x3), (4, .int x4)]) hx hb dX6_findMate_153 hl (k := 5) rfl (by rw [exv1]; rfl) (by decide) rfl (fun ls hl => ?_)
  clear exv1
  refine lv_goto (tgt := 25) hx hb dX6_findMate_156 (by decide) ?_
  exact hk25 M _ _ _ a0 a1 a2 x3 x4 xv1 hF hW hS (lv_sub hl [1, 2, 3, 4, 5, 0] rfl)
set_option maxRecDepth 100000 in
set_option maxHeartbeats 4000000 in
theorem kb_X6_findMate_b137 (C : ps_C p s m args meth c cX6_findMate 12 RX6 ((some .int)) "findMate" D Y B) {q : Int32 × ps_M} (k25 : ps_M → Nat → Nat → Nat → Int32 → Int32 → Int32 → Option (Int32 × ps_M)) (hk25 : ∀ (M : ps_M) (H : Heap) (locs : List Loc) (ls : Array Slot) (a0 : Nat) (a1 : Nat) (a2 : Nat) (x3 : Int32) (x4 : Int32) (x5 : Int32), k25 M a0 a1 a2 x3 x4 x5 = some q → ps_W D Y B M H → va_S (fun q => B ≤ q) s.heap H locs → lv_has ls 12 [(0, .ref (B + a0)), (1, .ref (B + a1)), (2, .ref (B + a2)), (3, .int x3), (4, .int x4), (5, .int x5)] → W p l e rm_X6_findMate s m args below meth c H locs 0 0 (ps_Qi D Y B below args s 0 0 q) (F0 m 25 ls [])) {M : ps_M} {a0 : Nat} {a1 : Nat} {a2 : Nat} {x5 : Int32} {x8 : Int32} {x9 : Int32} {x10 : Int32} (hF : f_X6_findMate_b137 k25 M a0 a1 a2 x5 x8 x9 x10 = some q) (hW : ps_W D Y B M H) (hS : va_S (fun q => B ≤ q) s.heap H locs) (hl : lv_has ls 12 [(0, .ref (B + a0)), (1, .ref (B + a1)), (2, .ref (B + a2)), (5, .int x5), (8, .int x8), (9, .int x9), (10, .int x10)]) : W p l e rm_X6_findMate s m args below meth c H locs 0 0 (ps_Qi D Y B below args s 0 0 q) (F0 m 137 ls []) := by
  have hx := C.1
  have hb := C.2.1
  have hml := C.2.2.1
  have hown := C.2.2.2.1
  have hts := C.2.2.2.2.1
  unfold f_X6_findMate_b137 at hF
  refine lv_iload hx hb dX6_findMate_137 (lv_at hl 3 rfl) ?_
  refine lv_istore_n (lv' := [(3, .int x5), (0, .ref (B + a0)), (1, .ref (B + a1)), (2, .ref (B + a2)), (5, .int x5), (8, .int x8), (9, .int x9), (10, .int x10)]) hx hb dX6_findMate_139 rfl hl (by decide) rfl (fun ls hl => ?_)
  refine lv_aload_n hx hb dX6_findMate_140 rfl (lv_at hl 1 rfl) ?_
  refine lv_iload hx hb dX6_findMate_141 (lv_at hl 7 rfl) ?_
  refine pw_pI C hW hS pc_5 (k := 0) (by decide) rfl rfl tq_310 rfl dX6_findMate_143 hF (fun M H locs hW hS hF => ?_)
  refine lv_iload hx hb dX6_findMate_146 (lv_at hl 5 rfl) ?_
  refine lv_iload hx hb dX6_findMate_148 (lv_at hl 6 rfl) ?_
  refine lv_iadd hx hb dX6_findMate_150 ?_
  refine pw_v hF (fun xv2 hF => ?_)
  refine lv_istore (lv' := [(4, .int xv2), (3, .int x5), (0, .ref (B + a0)), (1, .ref (B + a1)), (2, .ref (B + a2)), (5, .int x5), (8, .int x8), (9, .int x9), (10, .int x10)]) hx hb dX6_findMate_151 hl (by decide) rfl (fun ls hl => ?_)
  exact kb_X6_findMate_b153 C k25 hk25 hF hW hS (lv_sub hl [2, 3, 4, 1, 0, 5] rfl)
set_option maxRecDepth 100000 in
set_option maxHeartbeats 4000000 in
theorem kb_X6_findMate_b121 (C : ps_C p s m args meth c cX6_findMate 12 RX6 ((some .int)) "findMate" D Y B) {q : Int32 × ps_M} (k25 : ps_M → Nat → Nat → Nat → Int32 → Int32 → Int32 → Option (Int32 × ps_M)) (hk25 : ∀ (M : ps_M) (H : Heap) (locs : List Loc) (ls : Array Slot) (a0 : Nat) (a1 : Nat) (a2 : Nat) (x3 : Int32) (x4 : Int32) (x5 : Int32), k25 M a0 a1 a2 x3 x4 x5 = some q → ps_W D Y B M H → va_S (fun q => B ≤ q) s.heap H locs → lv_has ls 12 [(0, .ref (B + a0)), (1, .ref (B + a1)), (2, .ref (B + a2)), (3, .int x3), (4, .int x4), (5, .int x5)] → W p l e rm_X6_findMate s m args below meth c H locs 0 0 (ps_Qi D Y B below args s 0 0 q) (F0 m 25 ls [])) {M : ps_M} {a0 : Nat} {a1 : Nat} {a2 : Nat} {x3 : Int32} {x4 : Int32} {x5 : Int32} {x8 : Int32} {x9 : Int32} {x10 : Int32} {t0 : Int32} (hF : f_X6_findMate_b121 k25 M a0 a1 a2 x3 x4 x5 x8 x9 x10 t0 = some q) (hW : ps_W D Y B M H) (hS : va_S (fun q => B ≤ q) s.heap H locs) (hl : lv_has ls 12 [(0, .ref (B + a0)), (1, .ref (B + a1)), (2, .ref (B + a2)), (3, .int x3), (4, .int x4), (5, .int x5), (8, .int x8), (9, .int x9), (10, .int x10)]) : W p l e rm_X6_findMate s m args below meth c H locs 0 0 (ps_Qi D Y B below args s 0 0 q) (F0 m 121 ls [.int t0]) := by
  have hx := C.1
  have hb := C.2.1
  have hml := C.2.2.1
  have hown := C.2.2.2.1
  have hts := C.2.2.2.2.1
  unfold f_X6_findMate_b121 at hF
  refine lv_istore (lv' := [(11, .int t0), (0, .ref (B + a0)), (1, .ref (B + a1)), (2, .ref (B + a2)), (3, .int x3), (4, .int x4), (5, .int x5), (8, .int x8), (9, .int x9), (10, .int x10)]) hx hb dX6_findMate_121 hl (by decide) rfl (fun ls hl => ?_)
  refine lv_iload hx hb dX6_findMate_123 (lv_at hl 9 rfl) ?_
  refine lv_aload_n hx hb dX6_findMate_125 rfl (lv_at hl 1 rfl) ?_
  refine pw_gI C hW pc_5 (k := 0) (by decide) rfl tq_310 dX6_findMate_126 hF (fun xv3 hF => ?_)
  refine lv_icmp_lt (tgt := 137) hx hb dX6_findMate_129 (by decide) (fun hv4 => ?_) (fun hv4 => ?_)
  · replace hF := (if_pos hv4).symm.trans hF
    exact kb_X6_findMate_b137 C k25 hk25 hF hW hS (lv_sub hl [1, 2, 3, 6, 7, 8, 9] rfl)
  · replace hF := (if_neg hv4).symm.trans hF
    refine lv_iload hx hb dX6_findMate_132 (lv_at hl 0 rfl) ?_
    refine lv_if_eq (tgt := 153) hx hb dX6_findMate_134 (by decide) (fun hv5 => ?_) (fun hv5 => ?_)
    · replace hF := (if_pos hv5).symm.trans hF
      exact kb_X6_findMate_b153 C k25 hk25 hF hW hS (lv_sub hl [1, 2, 3, 4, 5, 6] rfl)
    · replace hF := (if_neg hv5).symm.trans hF
      exact kb_X6_findMate_b137 C k25 hk25 hF hW hS (lv_sub hl [1, 2, 3, 6, 7, 8, 9] rfl)
set_option maxRecDepth 100000 in
set_option maxHeartbeats 4000000 in
theorem kb_X6_findMate_b120 (C : ps_C p s m args meth c cX6_findMate 12 RX6 ((some .int)) "findMate" D Y B) {q : Int32 × ps_M} (k25 : ps_M → Nat → Nat → Nat → Int32 → Int32 → Int32 → Option (Int32 × ps_M)) (hk25 : ∀ (M : ps_M) (H : Heap) (locs : List Loc) (ls : Array Slot) (a0 : Nat) (a1 : Nat) (a2 : Nat) (x3 : Int32) (x4 : Int32) (x5 : Int32), k25 M a0 a1 a2 x3 x4 x5 = some q → ps_W D Y B M H → va_S (fun q => B ≤ q) s.heap H locs → lv_has ls 12 [(0, .ref (B + a0)), (1, .ref (B + a1)), (2, .ref (B + a2)), (3, .int x3), (4, .int x4), (5, .int x5)] → W p l e rm_X6_findMate s m args below meth c H locs 0 0 (ps_Qi D Y B below args s 0 0 q) (F0 m 25 ls [])) {M : ps_M} {a0 : Nat} {a1 : Nat} {a2 : Nat} {x3 : Int32} {x4 : Int32} {x5 : Int32} {x8 : Int32} {x9 : Int32} {x10 : Int32} (hF : f_X6_findMate_b120 k25 M a0 a1 a2 x3 x4 x5 x8 x9 x10 = some q) (hW : ps_W D Y B M H) (hS : va_S (fun q => B ≤ q) s.heap H locs) (hl : lv_has ls 12 [(0, .ref (B + a0)), (1, .ref (B + a1)), (2, .ref (B + a2)), (3, .int x3), (4, .int x4), (5, .int x5), (8, .int x8), (9, .int x9), (10, .int x10)]) : W p l e rm_X6_findMate s m args below meth c H locs 0 0 (ps_Qi D Y B below args s 0 0 q) (F0 m 120 ls []) := by
  have hx := C.1
  have hb := C.2.1
  have hml := C.2.2.1
  have hown := C.2.2.2.1
  have hts := C.2.2.2.2.1
  unfold f_X6_findMate_b120 at hF
  refine lv_iconst (v := 0) hx hb dX6_findMate_120 (by decide) ?_
  exact kb_X6_findMate_b121 C k25 hk25 hF hW hS (lv_sub hl [0, 1, 2, 3, 4, 5, 6, 7, 8] rfl)
set_option maxRecDepth 100000 in
set_option maxHeartbeats 4000000 in
theorem kb_X6_findMate_b55 (C : ps_C p s m args meth c cX6_findMate 12 RX6 ((some .int)) "findMate" D Y B) {q : Int32 × ps_M} (k25 : ps_M → Nat → Nat → Nat → Int32 → Int32 → Int32 → Option (Int32 × ps_M)) (hk25 : ∀ (M : ps_M) (H : Heap) (locs : List Loc) (ls : Array Slot) (a0 : Nat) (a1 : Nat) (a2 : Nat) (x3 : Int32) (x4 : Int32) (x5 : Int32), k25 M a0 a1 a2 x3 x4 x5 = some q → ps_W D Y B M H → va_S (fun q => B ≤ q) s.heap H locs → lv_has ls 12 [(0, .ref (B + a0)), (1, .ref (B + a1)), (2, .ref (B + a2)), (3, .int x3), (4, .int x4), (5, .int x5)] → W p l e rm_X6_findMate s m args below meth c H locs 0 0 (ps_Qi D Y B below args s 0 0 q) (F0 m 25 ls [])) {M : ps_M} {a0 : Nat} {a1 : Nat} {a2 : Nat} {x3 : Int32} {x4 : Int32} {x5 : Int32} {x6 : Int32} {t0 : Int32} (hF : f_X6_findMate_b55 k25 M a0 a1 a2 x3 x4 x5 x6 t0 = some q) (hW : ps_W D Y B M H) (hS : va_S (fun q => B ≤ q) s.heap H locs) (hl : lv_has ls 12 [(0, .ref (B + a0)), (1, .ref (B + a1)), (2, .ref (B + a2)), (3, .int x3), (4, .int x4), (5, .int x5), (6, .int x6)]) : W p l e rm_X6_findMate s m args below meth c H locs 0 0 (ps_Qi D Y B below args s 0 0 q) (F0 m 55 ls [.int t0]) := by
  have hx := C.1
  have hb := C.2.1
  have hml := C.2.2.1
  have hown := C.2.2.2.1
  have hts := C.2.2.2.2.1
  unfold f_X6_findMate_b55 at hF
  refine lv_istore (lv' := [(7, .int t0), (0, .ref (B + a0)), (1, .ref (B + a1)), (2, .ref (B + a2)), (3, .int x3), (4, .int x4), (5, .int x5), (6, .int x6)]) hx hb dX6_findMate_55 hl (by decide) rfl (fun ls hl => ?_)
  refine lv_aload_n hx hb dX6_findMate_57 rfl (lv_at hl 1 rfl) ?_
  refine lv_aload_n hx hb dX6_findMate_58 rfl (lv_at hl 2 rfl) ?_
  refine lv_aload_n hx hb dX6_findMate_59 rfl (lv_at hl 3 rfl) ?_
  refine lv_iconst (v := 0) hx hb dX6_findMate_60 (by decide) ?_
  refine lv_iload hx hb dX6_findMate_61 (lv_at hl 6 rfl) ?_
  obtain ⟨hK, hF⟩ := ps_ck_some hF
  obtain ⟨xv6, M9, hc, hF⟩ := ps_b2_some hF
  refine ps_backI (x0 := xv6) (M' := M9) hS (ps_callV C hW pc_5 mf_X6_strokesFresh tq_731 tq_732 tq_773 ⟨Nat.le_of_ble_eq_true rfl, Nat.le_of_ble_eq_true rfl⟩ rfl rfl (As := [.ref (B + a1), .ref (B + a2), .int (0 : Int32), .int x5]) (rest := []) (c_X6_strokesFresh hc) hK rfl hl.1 rfl (Nat.le_of_ble_eq_true rfl) dX6_findMate_63 ⟨Nat.le_of_ble_eq_true rfl, Nat.le_of_ble_eq_true rfl⟩) (fun H locs hW hS => ?_)
  clear hc
  generalize M9 = M at hW hF
  refine lv_istore (lv' := [(8, .int xv6), (7, .int t0), (0, .ref (B + a0)), (1, .ref (B + a1)), (2, .ref (B + a2)), (3, .int x3), (4, .int x4), (5, .int x5), (6, .int x6)]) hx hb dX6_findMate_66 hl (by decide) rfl (fun ls hl => ?_)
  refine lv_aload_n hx hb dX6_findMate_68 rfl (lv_at hl 2 rfl) ?_
  refine lv_aload_n hx hb dX6_findMate_69 rfl (lv_at hl 3 rfl) ?_
  refine lv_aload_n hx hb dX6_findMate_70 rfl (lv_at hl 4 rfl) ?_
  refine lv_iload hx hb dX6_findMate_71 (lv_at hl 8 rfl) ?_
  refine lv_iload hx hb dX6_findMate_73 (lv_at hl 1 rfl) ?_
  obtain ⟨hK, hF⟩ := ps_ck_some hF
  obtain ⟨xv7, M9, hc, hF⟩ := ps_b2_some hF
  refine ps_backI (x0 := xv7) (M' := M9) hS (ps_callV C hW pc_5 mf_X6_strokesFresh tq_731 tq_732 tq_773 ⟨Nat.le_of_ble_eq_true rfl, Nat.le_of_ble_eq_true rfl⟩ rfl rfl (As := [.ref (B + a1), .ref (B + a2), .int x6, .int t0]) (rest := []) (c_X6_strokesFresh hc) hK rfl hl.1 rfl (Nat.le_of_ble_eq_true rfl) dX6_findMate_75 ⟨Nat.le_of_ble_eq_true rfl, Nat.le_of_ble_eq_true rfl⟩) (fun H locs hW hS => ?_)
  clear hc
  generalize M9 = M at hW hF
  refine lv_istore (lv' := [(9, .int xv7), (8, .int xv6), (7, .int t0), (0, .ref (B + a0)), (1, .ref (B + a1)), (2, .ref (B + a2)), (3, .int x3), (4, .int x4), (5, .int x5), (6, .int x6)]) hx hb dX6_findMate_78 hl (by decide) rfl (fun ls hl => ?_)
  refine lv_iload hx hb dX6_findMate_80 (lv_at hl 1 rfl) ?_
  refine lv_iload hx hb dX6_findMate_82 (lv_at hl 0 rfl) ?_
  refine va_mmax hx hb (hml.trans hl.1.symm) hown (hts _ tq_774) (hts _ tq_174) (hts _ tq_65) (hts _ tq_175) (Nat.le_of_ble_eq_true rfl) (Nat.le_of_ble_eq_true rfl) (Nat.le_of_ble_eq_true rfl) (Nat.le_of_ble_eq_true rfl) dX6_findMate_84 ?_
  refine pw_v hF (fun xv8 hF => ?_)
  refine lv_istore (lv' := [(10, .int xv8), (9, .int xv7), (8, .int xv6), (7, .int t0), (0, .ref (B + a0)), (1, .ref (B + a1)), (2, .ref (B + a2)), (3, .int x3), (4, .int x4), (5, .int x5), (6, .int x6)]) hx hb dX6_findMate_87 hl (by decide) rfl (fun ls hl => ?_)
  refine lv_iload hx hb dX6_findMate_89 (lv_at hl 0 rfl) ?_
  refine lv_aload_n hx hb dX6_findMate_91 rfl (lv_at hl 4 rfl) ?_
  refine pw_gI C hW pc_5 (k := 0) (by decide) rfl tq_310 dX6_findMate_92 hF (fun xv9 hF => ?_)
  refine lv_icmp_ne (tgt := 120) hx hb dX6_findMate_95 (by decide) (fun hv10 => ?_) (fun hv10 => ?_)
  · replace hF := (if_neg hv10).symm.trans hF
    exact kb_X6_findMate_b120 C k25 hk25 hF hW hS (lv_sub hl [4, 5, 6, 7, 8, 9, 2, 1, 0] rfl)
  · replace hF := (if_pos hv10).symm.trans hF
    refine lv_iload hx hb dX6_findMate_98 (lv_at hl 0 rfl) ?_
    refine lv_sipush (v := 1000) hx hb dX6_findMate_100 (by decide) ?_
    refine lv_icmp_ge (tgt := 120) hx hb dX6_findMate_103 (by decide) (fun hv11 => ?_) (fun hv11 => ?_)
    · replace hF := (if_pos hv11).symm.trans hF
      exact kb_X6_findMate_b120 C k25 hk25 hF hW hS (lv_sub hl [4, 5, 6, 7, 8, 9, 2, 1, 0] rfl)
    · replace hF := (if_neg hv11).symm.trans hF
      refine lv_iload hx hb dX6_findMate_106 (lv_at hl 2 rfl) ?_
      refine lv_iload hx hb dX6_findMate_108 (lv_at hl 1 rfl) ?_
      refine lv_iadd hx hb dX6_findMate_110 ?_
      refine lv_iload hx hb dX6_findMate_111 (lv_at hl 8 rfl) ?_
      refine lv_icmp_ge (tgt := 120) hx hb dX6_findMate_113 (by decide) (fun hv12 => ?_) (fun hv12 => ?_)
      · replace hF := (if_pos hv12).symm.trans hF
        exact kb_X6_findMate_b120 C k25 hk25 hF hW hS (lv_sub hl [4, 5, 6, 7, 8, 9, 2, 1, 0] rfl)
      · replace hF := (if_neg hv12).symm.trans hF
        refine lv_iconst (v := 1) hx hb dX6_findMate_116 (by decide) ?_
        refine lv_goto (tgt := 121) hx hb dX6_findMate_117 (by decide) ?_
        exact kb_X6_findMate_b121 C k25 hk25 hF hW hS (lv_sub hl [4, 5, 6, 7, 8, 9, 2, 1, 0] rfl)
set_option maxRecDepth 100000 in
set_option maxHeartbeats 4000000 in
theorem kb_X6_findMate_b42 (C : ps_C p s m args meth c cX6_findMate 12 RX6 ((some .int)) "findMate" D Y B) {q : Int32 × ps_M} (k25 : ps_M → Nat → Nat → Nat → Int32 → Int32 → Int32 → Option (Int32 × ps_M)) (hk25 : ∀ (M : ps_M) (H : Heap) (locs : List Loc) (ls : Array Slot) (a0 : Nat) (a1 : Nat) (a2 : Nat) (x3 : Int32) (x4 : Int32) (x5 : Int32), k25 M a0 a1 a2 x3 x4 x5 = some q → ps_W D Y B M H → va_S (fun q => B ≤ q) s.heap H locs → lv_has ls 12 [(0, .ref (B + a0)), (1, .ref (B + a1)), (2, .ref (B + a2)), (3, .int x3), (4, .int x4), (5, .int x5)] → W p l e rm_X6_findMate s m args below meth c H locs 0 0 (ps_Qi D Y B below args s 0 0 q) (F0 m 25 ls [])) {M : ps_M} {a0 : Nat} {a1 : Nat} {a2 : Nat} {x3 : Int32} {x4 : Int32} {x5 : Int32} {t0 : Int32} (hF : f_X6_findMate_b42 k25 M a0 a1 a2 x3 x4 x5 t0 = some q) (hW : ps_W D Y B M H) (hS : va_S (fun q => B ≤ q) s.heap H locs) (hl : lv_has ls 12 [(0, .ref (B + a0)), (1, .ref (B + a1)), (2, .ref (B + a2)), (3, .int x3), (4, .int x4), (5, .int x5)]) : W p l e rm_X6_findMate s m args below meth c H locs 0 0 (ps_Qi D Y B below args s 0 0 q) (F0 m 42 ls [.int t0]) := by
  have hx := C.1
  have hb := C.2.1
  have hml := C.2.2.1
  have hown := C.2.2.2.1
  have hts := C.2.2.2.2.1
  unfold f_X6_findMate_b42 at hF
  refine lv_istore (lv' := [(6, .int t0), (0, .ref (B + a0)), (1, .ref (B + a1)), (2, .ref (B + a2)), (3, .int x3), (4, .int x4), (5, .int x5)]) hx hb dX6_findMate_42 hl (by decide) rfl (fun ls hl => ?_)
  refine lv_iload hx hb dX6_findMate_44 (lv_at hl 6 rfl) ?_
  refine lv_iconst (v := 3) hx hb dX6_findMate_46 (by decide) ?_
  refine lv_icmp_ne (tgt := 54) hx hb dX6_findMate_47 (by decide) (fun hv13 => ?_) (fun hv13 => ?_)
  · replace hF := (if_neg hv13).symm.trans hF
    refine lv_iconst (v := 3) hx hb dX6_findMate_54 (by decide) ?_
    exact kb_X6_findMate_b55 C k25 hk25 hF hW hS (lv_sub hl [1, 2, 3, 4, 5, 6, 0] rfl)
  · replace hF := (if_pos hv13).symm.trans hF
    refine lv_iconst (v := 2) hx hb dX6_findMate_50 (by decide) ?_
    refine lv_goto (tgt := 55) hx hb dX6_findMate_51 (by decide) ?_
    exact kb_X6_findMate_b55 C k25 hk25 hF hW hS (lv_sub hl [1, 2, 3, 4, 5, 6, 0] rfl)
set_option maxRecDepth 100000 in
set_option maxHeartbeats 4000000 in
theorem kb_X6_findMate_w25 (C : ps_C p s m args meth c cX6_findMate 12 RX6 ((some .int)) "findMate" D Y B) {q : Int32 × ps_M} (k25 : ps_M → Nat → Nat → Nat → Int32 → Int32 → Int32 → Option (Int32 × ps_M)) (hk25 : ∀ (M : ps_M) (H : Heap) (locs : List Loc) (ls : Array Slot) (a0 : Nat) (a1 : Nat) (a2 : Nat) (x3 : Int32) (x4 : Int32) (x5 : Int32), k25 M a0 a1 a2 x3 x4 x5 = some q → ps_W D Y B M H → va_S (fun q => B ≤ q) s.heap H locs → lv_has ls 12 [(0, .ref (B + a0)), (1, .ref (B + a1)), (2, .ref (B + a2)), (3, .int x3), (4, .int x4), (5, .int x5)] → W p l e rm_X6_findMate s m args below meth c H locs 0 0 (ps_Qi D Y B below args s 0 0 q) (F0 m 25 ls [])) {M : ps_M} {a0 : Nat} {a1 : Nat} {a2 : Nat} {x3 : Int32} {x4 : Int32} {x5 : Int32} (hF : f_X6_findMate_w25 k25 M a0 a1 a2 x3 x4 x5 = some q) (hW : ps_W D Y B M H) (hS : va_S (fun q => B ≤ q) s.heap H locs) (hl : lv_has ls 12 [(0, .ref (B + a0)), (1, .ref (B + a1)), (2, .ref (B + a2)), (3, .int x3), (4, .int x4), (5, .int x5)]) : W p l e rm_X6_findMate s m args below meth c H locs 0 0 (ps_Qi D Y B below args s 0 0 q) (F0 m 25 ls []) := by
  have hx := C.1
  have hb := C.2.1
  have hml := C.2.2.1
  have hown := C.2.2.2.1
  have hts := C.2.2.2.2.1
  unfold f_X6_findMate_w25 at hF
  refine lv_iload hx hb dX6_findMate_25 (lv_at hl 5 rfl) ?_
  refine lv_iconst (v := 4) hx hb dX6_findMate_27 (by decide) ?_
  refine lv_icmp_ge (tgt := 159) hx hb dX6_findMate_28 (by decide) (fun hv14 => ?_) (fun hv14 => ?_)
  · replace hF := (if_pos hv14).symm.trans hF
    refine lv_iload_n hx hb dX6_findMate_159 rfl (lv_at hl 3 rfl) ?_
    exact pw_iret C hW hS dX6_findMate_160 hF
  · replace hF := (if_neg hv14).symm.trans hF
    refine lv_iload hx hb dX6_findMate_31 (lv_at hl 5 rfl) ?_
    refine lv_iconst (v := 1) hx hb dX6_findMate_33 (by decide) ?_
    refine lv_icmp_ne (tgt := 41) hx hb dX6_findMate_34 (by decide) (fun hv15 => ?_) (fun hv15 => ?_)
    · replace hF := (if_neg hv15).symm.trans hF
      refine lv_iconst (v := 1) hx hb dX6_findMate_41 (by decide) ?_
      exact kb_X6_findMate_b42 C k25 hk25 hF hW hS (lv_sub hl [0, 1, 2, 3, 4, 5] rfl)
    · replace hF := (if_pos hv15).symm.trans hF
      refine lv_iconst (v := 2) hx hb dX6_findMate_37 (by decide) ?_
      refine lv_goto (tgt := 42) hx hb dX6_findMate_38 (by decide) ?_
      exact kb_X6_findMate_b42 C k25 hk25 hF hW hS (lv_sub hl [0, 1, 2, 3, 4, 5] rfl)
theorem kb_X6_findMate_l25 (C : ps_C p s m args meth c cX6_findMate 12 RX6 ((some .int)) "findMate" D Y B) {q : Int32 × ps_M}  : ∀ (n : Nat) (M : ps_M) (H : Heap) (locs : List Loc) (ls : Array Slot) (a0 : Nat) (a1 : Nat) (a2 : Nat) (x3 : Int32) (x4 : Int32) (x5 : Int32), f_X6_findMate_l25 n M a0 a1 a2 x3 x4 x5 = some q → ps_W D Y B M H → va_S (fun q => B ≤ q) s.heap H locs → lv_has ls 12 [(0, .ref (B + a0)), (1, .ref (B + a1)), (2, .ref (B + a2)), (3, .int x3), (4, .int x4), (5, .int x5)] → W p l e rm_X6_findMate s m args below meth c H locs 0 0 (ps_Qi D Y B below args s 0 0 q) (F0 m 25 ls []) := by
  intro n
  induction n with
  | zero => intro M H locs ls a0 a1 a2 x3 x4 x5 hF; cases hF
  | succ n ih => intro M H locs ls a0 a1 a2 x3 x4 x5 hF hW hS hl; exact kb_X6_findMate_w25 C  (f_X6_findMate_l25 n) ih hF hW hS hl
set_option maxRecDepth 100000 in
set_option maxHeartbeats 4000000 in
theorem kb_X6_findMate (C : ps_C p s m args meth c cX6_findMate 12 RX6 ((some .int)) "findMate" D Y B) {q : Int32 × ps_M}  {M : ps_M} {a0 : Nat} {a1 : Nat} {a2 : Nat} (hF : f_X6_findMate M a0 a1 a2 = some q) (hW : ps_W D Y B M H) (hS : va_S (fun q => B ≤ q) s.heap H locs) (hl : lv_has ls 12 [(0, .ref (B + a0)), (1, .ref (B + a1)), (2, .ref (B + a2))]) : W p l e rm_X6_findMate s m args below meth c H locs 0 0 (ps_Qi D Y B below args s 0 0 q) (F0 m 0 ls []) := by
  have hx := C.1
  have hb := C.2.1
  have hml := C.2.2.1
  have hown := C.2.2.2.1
  have hts := C.2.2.2.2.1
  unfold f_X6_findMate at hF
  refine lv_iconst (v := -1) hx hb dX6_findMate_0 (by decide) ?_
  refine lv_istore_n (lv' := [(3, .int (-1 : Int32)), (0, .ref (B + a0)), (1, .ref (B + a1)), (2, .ref (B + a2))]) hx hb dX6_findMate_1 rfl hl (by decide) rfl (fun ls hl => ?_)
  refine lv_aload_n hx hb dX6_findMate_2 rfl (lv_at hl 2 rfl) ?_
  refine pw_gI C hW pc_7 (k := 1) (by decide) rfl tq_95 dX6_findMate_3 hF (fun xv16 hF => ?_)
  refine lv_iconst (v := 4) hx hb dX6_findMate_6 (by decide) ?_
  refine lv_icmp_ge (tgt := 12) hx hb dX6_findMate_7 (by decide) (fun hv17 => ?_) (fun hv17 => ?_)
  · replace hF := (if_pos hv17).symm.trans hF
    refine lv_aload_n hx hb dX6_findMate_12 rfl (lv_at hl 1 rfl) ?_
    refine lv_sipush (v := 1000) hx hb dX6_findMate_13 (by decide) ?_
    refine pw_pI C hW hS pc_5 (k := 0) (by decide) rfl rfl tq_310 rfl dX6_findMate_16 hF (fun M H locs hW hS hF => ?_)
    refine lv_iconst (v := 0) hx hb dX6_findMate_19 (by decide) ?_
    refine lv_istore (lv' := [(4, .int (0 : Int32)), (3, .int (-1 : Int32)), (0, .ref (B + a0)), (1, .ref (B + a1)), (2, .ref (B + a2))]) hx hb dX6_findMate_20 hl (by decide) rfl (fun ls hl => ?_)
    refine lv_iconst (v := 1) hx hb dX6_findMate_22 (by decide) ?_
    refine lv_istore (lv' := [(5, .int (1 : Int32)), (4, .int (0 : Int32)), (3, .int (-1 : Int32)), (0, .ref (B + a0)), (1, .ref (B + a1)), (2, .ref (B + a2))]) hx hb dX6_findMate_23 hl (by decide) rfl (fun ls hl => ?_)
    exact kb_X6_findMate_l25 C ps_fu M _ _ _ a0 a1 a2 (-1 : Int32) (0 : Int32) (1 : Int32) hF hW hS (lv_sub hl [3, 4, 5, 2, 1, 0] rfl)
  · replace hF := (if_neg hv17).symm.trans hF
    refine lv_iload_n hx hb dX6_findMate_10 rfl (lv_at hl 0 rfl) ?_
    exact pw_iret C hW hS dX6_findMate_11 hF
theorem mf_X6_findMate : ps_mf yX6_findMate cX6_findMate 12 ((some .int)) 2 := ⟨tq_772, tq_68, by decide +kernel, by decide +kernel, by decide +kernel⟩
theorem c_X6_findMate {l : Launch} {D : va_G} {Y : ps_A} {B : Nat} {M : ps_M} {a0 : Nat} {a1 : Nat} {a2 : Nat} {r : Int32} {M' : ps_M} (hF : f_X6_findMate M a0 a1 a2 = some (r, M')) : Met l yX6_findMate (Cond.code yX6_findMate cX6_findMate 12 ((some .int)) :: tb_G) rm_X6_findMate (ps_PB D Y B M [.ref (B + a0), .ref (B + a1), .ref (B + a2)]) (va_Qi (fun x (_ : Unit) => x = r) (fun _ t => ps_St D Y B M' t) (fun q => B ≤ q)) 0 0 (fun q => B ≤ q) :=
  pm_of (by decide +kernel) (Nat.le_of_ble_eq_true rfl) (fun p e s m args below meth c C hW hS ls hl => kb_X6_findMate C hF hW hS hl)

abbrev rm_X6_findWedge : Room := { frames := 5, cells := 0, slots := 0, locals := 118 }
def f_X6_findWedge_b133 (k56 : ps_M → Nat → Nat → Int32 → Int32 → Option (Int32 × ps_M)) (M : ps_M) (a0 : Nat) (a1 : Nat) (x3 : Int32) (x4 : Int32) : Option (Int32 × ps_M) := ps_gR M a0 5 8 (fun av1 => ps_ck M av1 6 (ps_b2 (f_X7_pullOnce M av1 a1) (fun xv2 M => ps_v (x4 + 1) (fun xv3 => k56 M a0 a1 x3 xv3))))
def f_X6_findWedge_b148 (M : ps_M) (x3 : Int32) : Option (Int32 × ps_M) := some (x3, M)
def f_X6_findWedge_w56 (k56 : ps_M → Nat → Nat → Int32 → Int32 → Option (Int32 × ps_M)) (M : ps_M) (a0 : Nat) (a1 : Nat) (x3 : Int32) (x4 : Int32) : Option (Int32 × ps_M) := if (99 : Int32) < x4 then (f_X6_findWedge_b148 M x3) else (ps_gR M a0 5 8 (fun av5 => ps_ck M av5 6 (ps_b2 (f_X7_isThrough M av5 a1) (fun xv6 M => if xv6 = 0 then (ps_gR M a0 5 9 (fun av8 => ps_gR M a0 5 8 (fun av9 => ps_ck M av8 6 (ps_b1 (f_X7_become M av8 av9) (fun M => ps_gR M a0 5 9 (fun av10 => ps_pZ M av10 6 8 (1 : Int32) (fun M => ps_gR M a0 5 9 (fun av11 => ps_ck M a0 5 (ps_b2 (f_X6_strokesThrough M a0 a1 av11 ((999 : Int32) - x4)) (fun xv12 M => ps_v (((x4 + xv12) + (3 : Int32))) (fun xv13 => ps_gI M a0 5 0 (fun xv14 => if xv14 ≤ xv13 then (f_X6_findWedge_b133 k56 M a0 a1 x3 x4) else (ps_pI M a0 5 0 xv13 (fun M => f_X6_findWedge_b133 k56 M a0 a1 x4 x4)))))))))))))) else (f_X6_findWedge_b148 M x3)))))
def f_X6_findWedge_l56 : Nat → ps_M → Nat → Nat → Int32 → Int32 → Option (Int32 × ps_M)
  | 0, _, _, _, _, _ => none
  | n + 1, M, a0, a1, x3, x4 => f_X6_findWedge_w56 (f_X6_findWedge_l56 n) M a0 a1 x3 x4
def f_X6_findWedge_b42 (M : ps_M) (a0 : Nat) (a1 : Nat) (a2 : Nat) (x3 : Int32) (t0 : Nat) (t1 : Int32) : Option (Int32 × ps_M) := ps_pI M t0 5 0 t1 (fun M => ps_gR M a0 5 8 (fun av16 => ps_ck M av16 6 (ps_b1 (f_X7_become M av16 a2) (fun M => f_X6_findWedge_l56 ps_fu M a0 a1 x3 (0 : Int32)))))
def f_X6_findWedge (M : ps_M) (a0 : Nat) (a1 : Nat) (a2 : Nat) : Option (Int32 × ps_M) := ps_ck M a0 5 (ps_b2 (f_X6_strokesFrom M a0 a1 a2) (fun xv17 M => ps_pI M a0 5 0 xv17 (fun M => ps_gI M a2 6 8 (fun xv18 => if xv18 = 0 then (ps_gI M a0 5 0 (fun xv20 => if xv20 = (1000 : Int32) then (f_X6_findWedge_b42 M a0 a1 a2 (-1 : Int32) a0 (1003 : Int32)) else (ps_gI M a0 5 0 (fun xv22 => f_X6_findWedge_b42 M a0 a1 a2 (-1 : Int32) a0 xv22)))) else (some ((-1 : Int32), M))))))
set_option maxRecDepth 100000 in
set_option maxHeartbeats 4000000 in
theorem kb_X6_findWedge_b133 (C : ps_C p s m args meth c cX6_findWedge 6 RX6 ((some .int)) "findWedge" D Y B) {q : Int32 × ps_M} (k56 : ps_M → Nat → Nat → Int32 → Int32 → Option (Int32 × ps_M)) (hk56 : ∀ (M : ps_M) (H : Heap) (locs : List Loc) (ls : Array Slot) (a0 : Nat) (a1 : Nat) (x3 : Int32) (x4 : Int32), k56 M a0 a1 x3 x4 = some q → ps_W D Y B M H → va_S (fun q => B ≤ q) s.heap H locs → lv_has ls 6 [(0, .ref (B + a0)), (1, .ref (B + a1)), (3, .int x3), (4, .int x4)] → W p l e rm_X6_findWedge s m args below meth c H locs 0 0 (ps_Qi D Y B below args s 0 0 q) (F0 m 56 ls [])) {M : ps_M} {a0 : Nat} {a1 : Nat} {x3 : Int32} {x4 : Int32} (hF : f_X6_findWedge_b133 k56 M a0 a1 x3 x4 = some q) (hW : ps_W D Y B M H) (hS : va_S (fun q => B ≤ q) s.heap H locs) (hl : lv_has ls 6 [(0, .ref (B + a0)), (1, .ref (B + a1)), (3, .int x3), (4, .int x4)]) : W p l e rm_X6_findWedge s m args below meth c H locs 0 0 (ps_Qi D Y B below args s 0 0 q) (F0 m 133 ls []) := by
  have hx := C.1
  have hb := C.2.1
  have hml := C.2.2.1
  have hown := C.2.2.2.1
  have hts := C.2.2.2.2.1
  unfold f_X6_findWedge_b133 at hF
  refine lv_aload_n hx hb dX6_findWedge_133 rfl (lv_at hl 0 rfl) ?_
  refine pw_gR C hW pc_5 (k := 8) (by decide) rfl tq_322 dX6_findWedge_134 hF (fun av1 hF => ?_)
  refine lv_aload_n hx hb dX6_findWedge_137 rfl (lv_at hl 1 rfl) ?_
  obtain ⟨hK, hF⟩ := ps_ck_some hF
  obtain ⟨xv2, M9, hc, hF⟩ := ps_b2_some hF
  refine ps_backI (x0 := xv2) (M' := M9) hS (ps_callV C hW pc_6 mf_X7_pullOnce tq_605 tq_606 tq_713 ⟨Nat.le_of_ble_eq_true rfl, Nat.le_of_ble_eq_true rfl⟩ rfl rfl (As := [.ref (B + a1)]) (rest := []) (c_X7_pullOnce hc) hK rfl hl.1 rfl (Nat.le_of_ble_eq_true rfl) dX6_findWedge_138 ⟨Nat.le_of_ble_eq_true rfl, Nat.le_of_ble_eq_true rfl⟩) (fun H locs hW hS => ?_)
  clear hc
  generalize M9 = M at hW hF
  refine lv_pop hx hb dX6_findWedge_141 rfl ?_
  obtain ⟨xv3, exv3, hF⟩ := ps_ve hF
  refine lv_iinc (v := xv3) (lv' := [(4, .int xv3), (0, .ref (B + a0)), (1, .ref (B + a1)), (3, .int x3)]) hx hb dX6_findWedge_142 hl (k := 3) rfl (by rw [exv3]; rfl) (by decide) rfl (fun ls hl => ?_)
  clear exv3
  refine lv_goto (tgt := 56) hx hb dX6_findWedge_145 (by decide) ?_
  exact hk56 M _ _ _ a0 a1 x3 xv3 hF hW hS (lv_sub hl [1, 2, 3, 0] rfl)
set_option maxRecDepth 100000 in
set_option maxHeartbeats 4000000 in
theorem kb_X6_findWedge_b148 (C : ps_C p s m args meth c cX6_findWedge 6 RX6 ((some .int)) "findWedge" D Y B) {q : Int32 × ps_M}  {M : ps_M} {x3 : Int32} (hF : f_X6_findWedge_b148 M x3 = some q) (hW : ps_W D Y B M H) (hS : va_S (fun q => B ≤ q) s.heap H locs) (hl : lv_has ls 6 [(3, .int x3)]) : W p l e rm_X6_findWedge s m args below meth c H locs 0 0 (ps_Qi D Y B below args s 0 0 q) (F0 m 148 ls []) := by
  have hx := C.1
  have hb := C.2.1
  have hml := C.2.2.1
  have hown := C.2.2.2.1
  have hts := C.2.2.2.2.1
  unfold f_X6_findWedge_b148 at hF
  refine lv_iload_n hx hb dX6_findWedge_148 rfl (lv_at hl 0 rfl) ?_
  exact pw_iret C hW hS dX6_findWedge_149 hF
set_option maxRecDepth 100000 in
set_option maxHeartbeats 4000000 in
theorem kb_X6_findWedge_w56 (C : ps_C p s m args meth c cX6_findWedge 6 RX6 ((some .int)) "findWedge" D Y B) {q : Int32 × ps_M} (k56 : ps_M → Nat → Nat → Int32 → Int32 → Option (Int32 × ps_M)) (hk56 : ∀ (M : ps_M) (H : Heap) (locs : List Loc) (ls : Array Slot) (a0 : Nat) (a1 : Nat) (x3 : Int32) (x4 : Int32), k56 M a0 a1 x3 x4 = some q → ps_W D Y B M H → va_S (fun q => B ≤ q) s.heap H locs → lv_has ls 6 [(0, .ref (B + a0)), (1, .ref (B + a1)), (3, .int x3), (4, .int x4)] → W p l e rm_X6_findWedge s m args below meth c H locs 0 0 (ps_Qi D Y B below args s 0 0 q) (F0 m 56 ls [])) {M : ps_M} {a0 : Nat} {a1 : Nat} {x3 : Int32} {x4 : Int32} (hF : f_X6_findWedge_w56 k56 M a0 a1 x3 x4 = some q) (hW : ps_W D Y B M H) (hS : va_S (fun q => B ≤ q) s.heap H locs) (hl : lv_has ls 6 [(0, .ref (B + a0)), (1, .ref (B + a1)), (3, .int x3), (4, .int x4)]) : W p l e rm_X6_findWedge s m args below meth c H locs 0 0 (ps_Qi D Y B below args s 0 0 q) (F0 m 56 ls []) := by
  have hx := C.1
  have hb := C.2.1
  have hml := C.2.2.1
  have hown := C.2.2.2.1
  have hts := C.2.2.2.2.1
  unfold f_X6_findWedge_w56 at hF
  refine lv_iload hx hb dX6_findWedge_56 (lv_at hl 3 rfl) ?_
  refine lv_bipush (v := 99) hx hb dX6_findWedge_58 (by decide) ?_
  refine lv_icmp_gt (tgt := 148) hx hb dX6_findWedge_60 (by decide) (fun hv4 => ?_) (fun hv4 => ?_)
  · replace hF := (if_pos hv4).symm.trans hF
    exact kb_X6_findWedge_b148 C hF hW hS (lv_sub hl [2] rfl)
  · replace hF := (if_neg hv4).symm.trans hF
    refine lv_aload_n hx hb dX6_findWedge_63 rfl (lv_at hl 0 rfl) ?_
    refine pw_gR C hW pc_5 (k := 8) (by decide) rfl tq_322 dX6_findWedge_64 hF (fun av5 hF => ?_)
    refine lv_aload_n hx hb dX6_findWedge_67 rfl (lv_at hl 1 rfl) ?_
    obtain ⟨hK, hF⟩ := ps_ck_some hF
    obtain ⟨xv6, M9, hc, hF⟩ := ps_b2_some hF
    refine ps_backI (x0 := xv6) (M' := M9) hS (ps_callV C hW pc_6 mf_X7_isThrough tq_536 tq_537 tq_712 ⟨Nat.le_of_ble_eq_true rfl, Nat.le_of_ble_eq_true rfl⟩ rfl rfl (As := [.ref (B + a1)]) (rest := []) (c_X7_isThrough hc) hK rfl hl.1 rfl (Nat.le_of_ble_eq_true rfl) dX6_findWedge_68 ⟨Nat.le_of_ble_eq_true rfl, Nat.le_of_ble_eq_true rfl⟩) (fun H locs hW hS => ?_)
    clear hc
    generalize M9 = M at hW hF
    refine lv_if_ne (tgt := 148) hx hb dX6_findWedge_71 (by decide) (fun hv7 => ?_) (fun hv7 => ?_)
    · replace hF := (if_neg hv7).symm.trans hF
      exact kb_X6_findWedge_b148 C hF hW hS (lv_sub hl [2] rfl)
    · replace hF := (if_pos hv7).symm.trans hF
      refine lv_aload_n hx hb dX6_findWedge_74 rfl (lv_at hl 0 rfl) ?_
      refine pw_gR C hW pc_5 (k := 9) (by decide) rfl tq_323 dX6_findWedge_75 hF (fun av8 hF => ?_)
      refine lv_aload_n hx hb dX6_findWedge_78 rfl (lv_at hl 0 rfl) ?_
      refine pw_gR C hW pc_5 (k := 8) (by decide) rfl tq_322 dX6_findWedge_79 hF (fun av9 hF => ?_)
      obtain ⟨hK, hF⟩ := ps_ck_some hF
      obtain ⟨M9, hc, hF⟩ := ps_b1_some hF
      refine ps_backV (M' := M9) hS (ps_callV C hW pc_6 mf_X7_become tq_598 tq_599 tq_707 ⟨Nat.le_of_ble_eq_true rfl, Nat.le_of_ble_eq_true rfl⟩ rfl rfl (As := [.ref (B + av9)]) (rest := []) (c_X7_become hc) hK rfl hl.1 rfl (Nat.le_of_ble_eq_true rfl) dX6_findWedge_82 ⟨Nat.le_of_ble_eq_true rfl, Nat.le_of_ble_eq_true rfl⟩) (fun H locs hW hS => ?_)
      clear hc
      generalize M9 = M at hW hF
      refine lv_aload_n hx hb dX6_findWedge_85 rfl (lv_at hl 0 rfl) ?_
      refine pw_gR C hW pc_5 (k := 9) (by decide) rfl tq_323 dX6_findWedge_86 hF (fun av10 hF => ?_)
      refine lv_iconst (v := 1) hx hb dX6_findWedge_89 (by decide) ?_
      refine pw_pZ C hW hS pc_6 (k := 8) (by decide) rfl rfl tq_242 rfl dX6_findWedge_90 hF (fun M H locs hW hS hF => ?_)
      refine lv_iload hx hb dX6_findWedge_93 (lv_at hl 3 rfl) ?_
      refine lv_aload_n hx hb dX6_findWedge_95 rfl (lv_at hl 0 rfl) ?_
      refine lv_aload_n hx hb dX6_findWedge_96 rfl (lv_at hl 1 rfl) ?_
      refine lv_aload_n hx hb dX6_findWedge_97 rfl (lv_at hl 0 rfl) ?_
      refine pw_gR C hW pc_5 (k := 9) (by decide) rfl tq_323 dX6_findWedge_98 hF (fun av11 hF => ?_)
      refine lv_sipush (v := 999) hx hb dX6_findWedge_101 (by decide) ?_
      refine lv_iload hx hb dX6_findWedge_104 (lv_at hl 3 rfl) ?_
      refine lv_isub hx hb dX6_findWedge_106 ?_
      obtain ⟨hK, hF⟩ := ps_ck_some hF
      obtain ⟨xv12, M9, hc, hF⟩ := ps_b2_some hF
      refine ps_backI (x0 := xv12) (M' := M9) hS (ps_callV C hW pc_5 mf_X6_strokesThrough tq_710 tq_19 tq_708 ⟨Nat.le_of_ble_eq_true rfl, Nat.le_of_ble_eq_true rfl⟩ rfl rfl (As := [.ref (B + a1), .ref (B + av11), .int ((999 : Int32) - x4)]) (rest := [.int x4]) (c_X6_strokesThrough hc) hK rfl hl.1 rfl (Nat.le_of_ble_eq_true rfl) dX6_findWedge_107 ⟨Nat.le_of_ble_eq_true rfl, Nat.le_of_ble_eq_true rfl⟩) (fun H locs hW hS => ?_)
      clear hc
      generalize M9 = M at hW hF
      refine lv_iadd hx hb dX6_findWedge_110 ?_
      refine lv_iconst (v := 3) hx hb dX6_findWedge_111 (by decide) ?_
      refine lv_iadd hx hb dX6_findWedge_112 ?_
      refine pw_v hF (fun xv13 hF => ?_)
      refine lv_istore (lv' := [(5, .int xv13), (0, .ref (B + a0)), (1, .ref (B + a1)), (3, .int x3), (4, .int x4)]) hx hb dX6_findWedge_113 hl (by decide) rfl (fun ls hl => ?_)
      refine lv_iload hx hb dX6_findWedge_115 (lv_at hl 0 rfl) ?_
      refine lv_aload_n hx hb dX6_findWedge_117 rfl (lv_at hl 1 rfl) ?_
      refine pw_gI C hW pc_5 (k := 0) (by decide) rfl tq_310 dX6_findWedge_118 hF (fun xv14 hF => ?_)
      refine lv_icmp_ge (tgt := 133) hx hb dX6_findWedge_121 (by decide) (fun hv15 => ?_) (fun hv15 => ?_)
      · replace hF := (if_pos hv15).symm.trans hF
        exact kb_X6_findWedge_b133 C k56 hk56 hF hW hS (lv_sub hl [1, 2, 3, 4] rfl)
      · replace hF := (if_neg hv15).symm.trans hF
        refine lv_aload_n hx hb dX6_findWedge_124 rfl (lv_at hl 1 rfl) ?_
        refine lv_iload hx hb dX6_findWedge_125 (lv_at hl 0 rfl) ?_
        refine pw_pI C hW hS pc_5 (k := 0) (by decide) rfl rfl tq_310 rfl dX6_findWedge_127 hF (fun M H locs hW hS hF => ?_)
        refine lv_iload hx hb dX6_findWedge_130 (lv_at hl 4 rfl) ?_
        refine lv_istore_n (lv' := [(3, .int x4), (5, .int xv13), (0, .ref (B + a0)), (1, .ref (B + a1)), (4, .int x4)]) hx hb dX6_findWedge_132 rfl hl (by decide) rfl (fun ls hl => ?_)
        exact kb_X6_findWedge_b133 C k56 hk56 hF hW hS (lv_sub hl [2, 3, 0, 4] rfl)
theorem kb_X6_findWedge_l56 (C : ps_C p s m args meth c cX6_findWedge 6 RX6 ((some .int)) "findWedge" D Y B) {q : Int32 × ps_M}  : ∀ (n : Nat) (M : ps_M) (H : Heap) (locs : List Loc) (ls : Array Slot) (a0 : Nat) (a1 : Nat) (x3 : Int32) (x4 : Int32), f_X6_findWedge_l56 n M a0 a1 x3 x4 = some q → ps_W D Y B M H → va_S (fun q => B ≤ q) s.heap H locs → lv_has ls 6 [(0, .ref (B + a0)), (1, .ref (B + a1)), (3, .int x3), (4, .int x4)] → W p l e rm_X6_findWedge s m args below meth c H locs 0 0 (ps_Qi D Y B below args s 0 0 q) (F0 m 56 ls []) := by
  intro n
  induction n with
  | zero => intro M H locs ls a0 a1 x3 x4 hF; cases hF
  | succ n ih => intro M H locs ls a0 a1 x3 x4 hF hW hS hl; exact kb_X6_findWedge_w56 C  (f_X6_findWedge_l56 n) ih hF hW hS hl
set_option maxRecDepth 100000 in
set_option maxHeartbeats 4000000 in
theorem kb_X6_findWedge_b42 (C : ps_C p s m args meth c cX6_findWedge 6 RX6 ((some .int)) "findWedge" D Y B) {q : Int32 × ps_M}  {M : ps_M} {a0 : Nat} {a1 : Nat} {a2 : Nat} {x3 : Int32} {t0 : Nat} {t1 : Int32} (hF : f_X6_findWedge_b42 M a0 a1 a2 x3 t0 t1 = some q) (hW : ps_W D Y B M H) (hS : va_S (fun q => B ≤ q) s.heap H locs) (hl : lv_has ls 6 [(0, .ref (B + a0)), (1, .ref (B + a1)), (2, .ref (B + a2)), (3, .int x3)]) : W p l e rm_X6_findWedge s m args below meth c H locs 0 0 (ps_Qi D Y B below args s 0 0 q) (F0 m 42 ls [.int t1, .ref (B + t0)]) := by
  have hx := C.1
  have hb := C.2.1
  have hml := C.2.2.1
  have hown := C.2.2.2.1
  have hts := C.2.2.2.2.1
  unfold f_X6_findWedge_b42 at hF
  refine pw_pI C hW hS pc_5 (k := 0) (by decide) rfl rfl tq_310 rfl dX6_findWedge_42 hF (fun M H locs hW hS hF => ?_)
  refine lv_aload_n hx hb dX6_findWedge_45 rfl (lv_at hl 0 rfl) ?_
  refine pw_gR C hW pc_5 (k := 8) (by decide) rfl tq_322 dX6_findWedge_46 hF (fun av16 hF => ?_)
  refine lv_aload_n hx hb dX6_findWedge_49 rfl (lv_at hl 2 rfl) ?_
  obtain ⟨hK, hF⟩ := ps_ck_some hF
  obtain ⟨M9, hc, hF⟩ := ps_b1_some hF
  refine ps_backV (M' := M9) hS (ps_callV C hW pc_6 mf_X7_become tq_598 tq_599 tq_707 ⟨Nat.le_of_ble_eq_true rfl, Nat.le_of_ble_eq_true rfl⟩ rfl rfl (As := [.ref (B + a2)]) (rest := []) (c_X7_become hc) hK rfl hl.1 rfl (Nat.le_of_ble_eq_true rfl) dX6_findWedge_50 ⟨Nat.le_of_ble_eq_true rfl, Nat.le_of_ble_eq_true rfl⟩) (fun H locs hW hS => ?_)
  clear hc
  generalize M9 = M at hW hF
  refine lv_iconst (v := 0) hx hb dX6_findWedge_53 (by decide) ?_
  refine lv_istore (lv' := [(4, .int (0 : Int32)), (0, .ref (B + a0)), (1, .ref (B + a1)), (2, .ref (B + a2)), (3, .int x3)]) hx hb dX6_findWedge_54 hl (by decide) rfl (fun ls hl => ?_)
  exact kb_X6_findWedge_l56 C ps_fu M _ _ _ a0 a1 x3 (0 : Int32) hF hW hS (lv_sub hl [1, 2, 4, 0] rfl)
set_option maxRecDepth 100000 in
set_option maxHeartbeats 4000000 in
theorem kb_X6_findWedge (C : ps_C p s m args meth c cX6_findWedge 6 RX6 ((some .int)) "findWedge" D Y B) {q : Int32 × ps_M}  {M : ps_M} {a0 : Nat} {a1 : Nat} {a2 : Nat} (hF : f_X6_findWedge M a0 a1 a2 = some q) (hW : ps_W D Y B M H) (hS : va_S (fun q => B ≤ q) s.heap H locs) (hl : lv_has ls 6 [(0, .ref (B + a0)), (1, .ref (B + a1)), (2, .ref (B + a2))]) : W p l e rm_X6_findWedge s m args below meth c H locs 0 0 (ps_Qi D Y B below args s 0 0 q) (F0 m 0 ls []) := by
  have hx := C.1
  have hb := C.2.1
  have hml := C.2.2.1
  have hown := C.2.2.2.1
  have hts := C.2.2.2.2.1
  unfold f_X6_findWedge at hF
  refine lv_aload_n hx hb dX6_findWedge_0 rfl (lv_at hl 0 rfl) ?_
  refine lv_aload_n hx hb dX6_findWedge_1 rfl (lv_at hl 0 rfl) ?_
  refine lv_aload_n hx hb dX6_findWedge_2 rfl (lv_at hl 1 rfl) ?_
  refine lv_aload_n hx hb dX6_findWedge_3 rfl (lv_at hl 2 rfl) ?_
  obtain ⟨hK, hF⟩ := ps_ck_some hF
  obtain ⟨xv17, M9, hc, hF⟩ := ps_b2_some hF
  refine ps_backI (x0 := xv17) (M' := M9) hS (ps_callV C hW pc_5 mf_X6_strokesFrom tq_704 tq_705 tq_820 ⟨Nat.le_of_ble_eq_true rfl, Nat.le_of_ble_eq_true rfl⟩ rfl rfl (As := [.ref (B + a1), .ref (B + a2)]) (rest := [.ref (B + a0)]) (c_X6_strokesFrom hc) hK rfl hl.1 rfl (Nat.le_of_ble_eq_true rfl) dX6_findWedge_4 ⟨Nat.le_of_ble_eq_true rfl, Nat.le_of_ble_eq_true rfl⟩) (fun H locs hW hS => ?_)
  clear hc
  generalize M9 = M at hW hF
  refine pw_pI C hW hS pc_5 (k := 0) (by decide) rfl rfl tq_310 rfl dX6_findWedge_7 hF (fun M H locs hW hS hF => ?_)
  refine lv_iconst (v := -1) hx hb dX6_findWedge_10 (by decide) ?_
  refine lv_istore_n (lv' := [(3, .int (-1 : Int32)), (0, .ref (B + a0)), (1, .ref (B + a1)), (2, .ref (B + a2))]) hx hb dX6_findWedge_11 rfl hl (by decide) rfl (fun ls hl => ?_)
  refine lv_aload_n hx hb dX6_findWedge_12 rfl (lv_at hl 3 rfl) ?_
  refine pw_gI C hW pc_6 (k := 8) (by decide) rfl tq_242 dX6_findWedge_13 hF (fun xv18 hF => ?_)
  refine lv_if_eq (tgt := 21) hx hb dX6_findWedge_16 (by decide) (fun hv19 => ?_) (fun hv19 => ?_)
  · replace hF := (if_pos hv19).symm.trans hF
    refine lv_aload_n hx hb dX6_findWedge_21 rfl (lv_at hl 1 rfl) ?_
    refine lv_aload_n hx hb dX6_findWedge_22 rfl (lv_at hl 1 rfl) ?_
    refine pw_gI C hW pc_5 (k := 0) (by decide) rfl tq_310 dX6_findWedge_23 hF (fun xv20 hF => ?_)
    refine lv_sipush (v := 1000) hx hb dX6_findWedge_26 (by decide) ?_
    refine lv_icmp_ne (tgt := 38) hx hb dX6_findWedge_29 (by decide) (fun hv21 => ?_) (fun hv21 => ?_)
    · replace hF := (if_neg hv21).symm.trans hF
      refine lv_aload_n hx hb dX6_findWedge_38 rfl (lv_at hl 1 rfl) ?_
      refine pw_gI C hW pc_5 (k := 0) (by decide) rfl tq_310 dX6_findWedge_39 hF (fun xv22 hF => ?_)
      exact kb_X6_findWedge_b42 C hF hW hS (lv_sub hl [1, 2, 3, 0] rfl)
    · replace hF := (if_pos hv21).symm.trans hF
      refine lv_sipush (v := 1003) hx hb dX6_findWedge_32 (by decide) ?_
      refine lv_goto (tgt := 42) hx hb dX6_findWedge_35 (by decide) ?_
      exact kb_X6_findWedge_b42 C hF hW hS (lv_sub hl [1, 2, 3, 0] rfl)
  · replace hF := (if_neg hv19).symm.trans hF
    refine lv_iload_n hx hb dX6_findWedge_19 rfl (lv_at hl 0 rfl) ?_
    exact pw_iret C hW hS dX6_findWedge_20 hF
theorem mf_X6_findWedge : ps_mf yX6_findWedge cX6_findWedge 6 ((some .int)) 2 := ⟨tq_819, tq_68, by decide +kernel, by decide +kernel, by decide +kernel⟩
theorem c_X6_findWedge {l : Launch} {D : va_G} {Y : ps_A} {B : Nat} {M : ps_M} {a0 : Nat} {a1 : Nat} {a2 : Nat} {r : Int32} {M' : ps_M} (hF : f_X6_findWedge M a0 a1 a2 = some (r, M')) : Met l yX6_findWedge (Cond.code yX6_findWedge cX6_findWedge 6 ((some .int)) :: tb_G) rm_X6_findWedge (ps_PB D Y B M [.ref (B + a0), .ref (B + a1), .ref (B + a2)]) (va_Qi (fun x (_ : Unit) => x = r) (fun _ t => ps_St D Y B M' t) (fun q => B ≤ q)) 0 0 (fun q => B ≤ q) :=
  pm_of (by decide +kernel) (Nat.le_of_ble_eq_true rfl) (fun p e s m args below meth c C hW hS ls hl => kb_X6_findWedge C hF hW hS hl)

abbrev rm_J6_bitCount_0f7a4 : Room := { frames := 0, cells := 0, slots := 0, locals := 0 }
def f_J6_bitCount_0f7a4 (M : ps_M) (x0 : Int32) : Option (Int32 × ps_M) := ps_v ((x0 - (((x0.toUInt32 >>> ((1 : Int32).toUInt32 &&& Int32.toUInt32 31)).toInt32) &&& (1431655765 : Int32)))) (fun xv1 => ps_v (((xv1 &&& (858993459 : Int32)) + (((xv1.toUInt32 >>> ((2 : Int32).toUInt32 &&& Int32.toUInt32 31)).toInt32) &&& (858993459 : Int32)))) (fun xv2 => ps_v (((xv2 + ((xv2.toUInt32 >>> ((4 : Int32).toUInt32 &&& Int32.toUInt32 31)).toInt32)) &&& (252645135 : Int32))) (fun xv3 => ps_v ((xv3 + ((xv3.toUInt32 >>> ((8 : Int32).toUInt32 &&& Int32.toUInt32 31)).toInt32))) (fun xv4 => ps_v ((xv4 + ((xv4.toUInt32 >>> ((16 : Int32).toUInt32 &&& Int32.toUInt32 31)).toInt32))) (fun xv5 => some ((xv5 &&& (63 : Int32)), M))))))
set_option maxRecDepth 100000 in
set_option maxHeartbeats 4000000 in
theorem kb_J6_bitCount_0f7a4 (C : ps_C p s m args meth c cJ6_bitCount_0f7a4 1 RJ6 ((some .int)) "bitCount" D Y B) {q : Int32 × ps_M}  {M : ps_M} {x0 : Int32} (hF : f_J6_bitCount_0f7a4 M x0 = some q) (hW : ps_W D Y B M H) (hS : va_S (fun q => B ≤ q) s.heap H locs) (hl : lv_has ls 1 [(0, .int x0)]) : W p l e rm_J6_bitCount_0f7a4 s m args below meth c H locs 0 0 (ps_Qi D Y B below args s 0 0 q) (F0 m 0 ls []) := by
  have hx := C.1
  have hb := C.2.1
  have hml := C.2.2.1
  have hown := C.2.2.2.1
  have hts := C.2.2.2.2.1
  unfold f_J6_bitCount_0f7a4 at hF
  refine lv_iload_n hx hb dJ6_bitCount_0f7a4_0 rfl (lv_at hl 0 rfl) ?_
  refine lv_iload_n hx hb dJ6_bitCount_0f7a4_1 rfl (lv_at hl 0 rfl) ?_
  refine lv_iconst (v := 1) hx hb dJ6_bitCount_0f7a4_2 (by decide) ?_
  refine lv_iushr hx hb dJ6_bitCount_0f7a4_3 rfl ?_
  refine lv_ldcw (v := 1431655765) hx hb hown (hts _ tq_832) dJ6_bitCount_0f7a4_4 ?_
  refine lv_iand hx hb dJ6_bitCount_0f7a4_7 ?_
  refine lv_isub hx hb dJ6_bitCount_0f7a4_8 ?_
  refine pw_v hF (fun xv1 hF => ?_)
  refine lv_istore_n (lv' := [(0, .int xv1)]) hx hb dJ6_bitCount_0f7a4_9 rfl hl (by decide) rfl (fun ls hl => ?_)
  refine lv_iload_n hx hb dJ6_bitCount_0f7a4_10 rfl (lv_at hl 0 rfl) ?_
  refine lv_ldcw (v := 858993459) hx hb hown (hts _ tq_833) dJ6_bitCount_0f7a4_11 ?_
  refine lv_iand hx hb dJ6_bitCount_0f7a4_14 ?_
  refine lv_iload_n hx hb dJ6_bitCount_0f7a4_15 rfl (lv_at hl 0 rfl) ?_
  refine lv_iconst (v := 2) hx hb dJ6_bitCount_0f7a4_16 (by decide) ?_
  refine lv_iushr hx hb dJ6_bitCount_0f7a4_17 rfl ?_
  refine lv_ldcw (v := 858993459) hx hb hown (hts _ tq_833) dJ6_bitCount_0f7a4_18 ?_
  refine lv_iand hx hb dJ6_bitCount_0f7a4_21 ?_
  refine lv_iadd hx hb dJ6_bitCount_0f7a4_22 ?_
  refine pw_v hF (fun xv2 hF => ?_)
  refine lv_istore_n (lv' := [(0, .int xv2)]) hx hb dJ6_bitCount_0f7a4_23 rfl hl (by decide) rfl (fun ls hl => ?_)
  refine lv_iload_n hx hb dJ6_bitCount_0f7a4_24 rfl (lv_at hl 0 rfl) ?_
  refine lv_iload_n hx hb dJ6_bitCount_0f7a4_25 rfl (lv_at hl 0 rfl) ?_
  refine lv_iconst (v := 4) hx hb dJ6_bitCount_0f7a4_26 (by decide) ?_
  refine lv_iushr hx hb dJ6_bitCount_0f7a4_27 rfl ?_
  refine lv_iadd hx hb dJ6_bitCount_0f7a4_28 ?_
  refine lv_ldcw (v := 252645135) hx hb hown (hts _ tq_834) dJ6_bitCount_0f7a4_29 ?_
  refine lv_iand hx hb dJ6_bitCount_0f7a4_32 ?_
  refine pw_v hF (fun xv3 hF => ?_)
  refine lv_istore_n (lv' := [(0, .int xv3)]) hx hb dJ6_bitCount_0f7a4_33 rfl hl (by decide) rfl (fun ls hl => ?_)
  refine lv_iload_n hx hb dJ6_bitCount_0f7a4_34 rfl (lv_at hl 0 rfl) ?_
  refine lv_iload_n hx hb dJ6_bitCount_0f7a4_35 rfl (lv_at hl 0 rfl) ?_
  refine lv_bipush (v := 8) hx hb dJ6_bitCount_0f7a4_36 (by decide) ?_
  refine lv_iushr hx hb dJ6_bitCount_0f7a4_38 rfl ?_
  refine lv_iadd hx hb dJ6_bitCount_0f7a4_39 ?_
  refine pw_v hF (fun xv4 hF => ?_)
  refine lv_istore_n (lv' := [(0, .int xv4)]) hx hb dJ6_bitCount_0f7a4_40 rfl hl (by decide) rfl (fun ls hl => ?_)
  refine lv_iload_n hx hb dJ6_bitCount_0f7a4_41 rfl (lv_at hl 0 rfl) ?_
  refine lv_iload_n hx hb dJ6_bitCount_0f7a4_42 rfl (lv_at hl 0 rfl) ?_
  refine lv_bipush (v := 16) hx hb dJ6_bitCount_0f7a4_43 (by decide) ?_
  refine lv_iushr hx hb dJ6_bitCount_0f7a4_45 rfl ?_
  refine lv_iadd hx hb dJ6_bitCount_0f7a4_46 ?_
  refine pw_v hF (fun xv5 hF => ?_)
  refine lv_istore_n (lv' := [(0, .int xv5)]) hx hb dJ6_bitCount_0f7a4_47 rfl hl (by decide) rfl (fun ls hl => ?_)
  refine lv_iload_n hx hb dJ6_bitCount_0f7a4_48 rfl (lv_at hl 0 rfl) ?_
  refine lv_bipush (v := 63) hx hb dJ6_bitCount_0f7a4_49 (by decide) ?_
  refine lv_iand hx hb dJ6_bitCount_0f7a4_51 ?_
  exact pw_iret C hW hS dJ6_bitCount_0f7a4_52 hF
theorem mf_J6_bitCount_0f7a4 : ps_mf yJ6_bitCount_0f7a4 cJ6_bitCount_0f7a4 1 ((some .int)) 1 := ⟨tq_831, tq_73, by decide +kernel, by decide +kernel, by decide +kernel⟩
theorem c_J6_bitCount_0f7a4 {l : Launch} {D : va_G} {Y : ps_A} {B : Nat} {M : ps_M} {x0 : Int32} {r : Int32} {M' : ps_M} (hF : f_J6_bitCount_0f7a4 M x0 = some (r, M')) : Met l yJ6_bitCount_0f7a4 (Cond.code yJ6_bitCount_0f7a4 cJ6_bitCount_0f7a4 1 ((some .int)) :: tb_G) rm_J6_bitCount_0f7a4 (ps_PB D Y B M [.int x0]) (va_Qi (fun x (_ : Unit) => x = r) (fun _ t => ps_St D Y B M' t) (fun q => B ≤ q)) 0 0 (fun q => B ≤ q) :=
  pm_of (by decide +kernel) (Nat.le_of_ble_eq_true rfl) (fun p e s m args below meth c C hW hS ls hl => kb_J6_bitCount_0f7a4 C hF hW hS hl)

abbrev rm_X7_restFor : Room := { frames := 2, cells := 0, slots := 0, locals := 44 }
def f_X7_restFor (M : ps_M) (a0 : Nat) (x1 : Int32) : Option (ps_M) := ps_gI M a0 6 0 (fun xv1 => ps_ck M a0 6 (ps_b1 (f_X7_tire M a0 xv1 ((-3 : Int32) * x1)) (fun M => ps_gI M a0 6 1 (fun xv2 => ps_ck M a0 6 (ps_b1 (f_X7_tire M a0 xv2 ((-3 : Int32) * x1)) (fun M => ps_gI M a0 6 4 (fun xv3 => ps_pI M a0 6 4 (xv3 + x1) (fun M => some M))))))))
set_option maxRecDepth 100000 in
set_option maxHeartbeats 4000000 in
theorem kb_X7_restFor (C : ps_C p s m args meth c cX7_restFor 2 RX7 none "restFor" D Y B) {q : ps_M}  {M : ps_M} {a0 : Nat} {x1 : Int32} (hF : f_X7_restFor M a0 x1 = some q) (hW : ps_W D Y B M H) (hS : va_S (fun q => B ≤ q) s.heap H locs) (hl : lv_has ls 2 [(0, .ref (B + a0)), (1, .int x1)]) : W p l e rm_X7_restFor s m args below meth c H locs 0 0 (ps_Qv D Y B below args s 0 0 q) (F0 m 0 ls []) := by
  have hx := C.1
  have hb := C.2.1
  have hml := C.2.2.1
  have hown := C.2.2.2.1
  have hts := C.2.2.2.2.1
  unfold f_X7_restFor at hF
  refine lv_aload_n hx hb dX7_restFor_0 rfl (lv_at hl 0 rfl) ?_
  refine lv_aload_n hx hb dX7_restFor_1 rfl (lv_at hl 0 rfl) ?_
  refine pw_gI C hW pc_6 (k := 0) (by decide) rfl tq_220 dX7_restFor_2 hF (fun xv1 hF => ?_)
  refine lv_bipush (v := -3) hx hb dX7_restFor_5 (by decide) ?_
  refine lv_iload_n hx hb dX7_restFor_7 rfl (lv_at hl 1 rfl) ?_
  refine lv_imul hx hb dX7_restFor_8 ?_
  obtain ⟨hK, hF⟩ := ps_ck_some hF
  obtain ⟨M9, hc, hF⟩ := ps_b1_some hF
  refine ps_backV (M' := M9) hS (ps_callV C hW pc_6 mf_X7_tire tq_624 tq_14 tq_622 ⟨Nat.le_of_ble_eq_true rfl, Nat.le_of_ble_eq_true rfl⟩ rfl rfl (As := [.int xv1, .int ((-3 : Int32) * x1)]) (rest := []) (c_X7_tire hc) hK rfl hl.1 rfl (Nat.le_of_ble_eq_true rfl) dX7_restFor_9 ⟨Nat.le_of_ble_eq_true rfl, Nat.le_of_ble_eq_true rfl⟩) (fun H locs hW hS => ?_)
  clear hc
  generalize M9 = M at hW hF
  refine lv_aload_n hx hb dX7_restFor_12 rfl (lv_at hl 0 rfl) ?_
  refine lv_aload_n hx hb dX7_restFor_13 rfl (lv_at hl 0 rfl) ?_
  refine pw_gI C hW pc_6 (k := 1) (by decide) rfl tq_223 dX7_restFor_14 hF (fun xv2 hF => ?_)
  refine lv_bipush (v := -3) hx hb dX7_restFor_17 (by decide) ?_
  refine lv_iload_n hx hb dX7_restFor_19 rfl (lv_at hl 1 rfl) ?_
  refine lv_imul hx hb dX7_restFor_20 ?_
  obtain ⟨hK, hF⟩ := ps_ck_some hF
  obtain ⟨M9, hc, hF⟩ := ps_b1_some hF
  refine ps_backV (M' := M9) hS (ps_callV C hW pc_6 mf_X7_tire tq_624 tq_14 tq_622 ⟨Nat.le_of_ble_eq_true rfl, Nat.le_of_ble_eq_true rfl⟩ rfl rfl (As := [.int xv2, .int ((-3 : Int32) * x1)]) (rest := []) (c_X7_tire hc) hK rfl hl.1 rfl (Nat.le_of_ble_eq_true rfl) dX7_restFor_21 ⟨Nat.le_of_ble_eq_true rfl, Nat.le_of_ble_eq_true rfl⟩) (fun H locs hW hS => ?_)
  clear hc
  generalize M9 = M at hW hF
  refine lv_aload_n hx hb dX7_restFor_24 rfl (lv_at hl 0 rfl) ?_
  refine lv_dup hx hb dX7_restFor_25 rfl ?_
  refine pw_gI C hW pc_6 (k := 4) (by decide) rfl tq_231 dX7_restFor_26 hF (fun xv3 hF => ?_)
  refine lv_iload_n hx hb dX7_restFor_29 rfl (lv_at hl 1 rfl) ?_
  refine lv_iadd hx hb dX7_restFor_30 ?_
  refine pw_pI C hW hS pc_6 (k := 4) (by decide) rfl rfl tq_231 rfl dX7_restFor_31 hF (fun M H locs hW hS hF => ?_)
  exact pw_vret C hW hS dX7_restFor_34 hF
theorem mf_X7_restFor : ps_mf yX7_restFor cX7_restFor 2 none 1 := ⟨tq_642, tq_66, by decide +kernel, by decide +kernel, by decide +kernel⟩
theorem c_X7_restFor {l : Launch} {D : va_G} {Y : ps_A} {B : Nat} {M : ps_M} {a0 : Nat} {x1 : Int32} {M' : ps_M} (hF : f_X7_restFor M a0 x1 = some M') : Met l yX7_restFor (Cond.code yX7_restFor cX7_restFor 2 none :: tb_G) rm_X7_restFor (ps_PB D Y B M [.ref (B + a0), .int x1]) (va_Qv (fun (_ : Unit) => True) (fun _ t => ps_St D Y B M' t) (fun q => B ≤ q)) 0 0 (fun q => B ≤ q) :=
  pm_of (by decide +kernel) (Nat.le_of_ble_eq_true rfl) (fun p e s m args below meth c C hW hS ls hl => kb_X7_restFor C hF hW hS hl)

abbrev rm_X6_depthBehind : Room := { frames := 3, cells := 0, slots := 0, locals := 71 }
def f_X6_depthBehind_b60 (k14 : ps_M → Nat → Nat → Int32 → Int32 → Option (Int32 × ps_M)) (M : ps_M) (a0 : Nat) (a1 : Nat) (x3 : Int32) (x5 : Int32) : Option (Int32 × ps_M) := ps_v (x5 + (-1)) (fun xv1 => k14 M a0 a1 x3 xv1)
def f_X6_depthBehind_b66 (M : ps_M) (a0 : Nat) : Option (Int32 × ps_M) := ps_gR M a0 5 8 (fun av2 => ps_gI M av2 6 3 (fun xv3 => some (xv3, M)))
def f_X6_depthBehind_w14 (k14 : ps_M → Nat → Nat → Int32 → Int32 → Option (Int32 × ps_M)) (M : ps_M) (a0 : Nat) (a1 : Nat) (x3 : Int32) (x5 : Int32) : Option (Int32 × ps_M) := if x5 < 0 then (f_X6_depthBehind_b66 M a0) else (ps_gR M a0 5 8 (fun av5 => ps_ck M av5 6 (ps_b2 (f_X7_isThrough M av5 a1) (fun xv6 M => if xv6 = 0 then (if ((x3 >>> (x5 &&& 31)) &&& (1 : Int32)) = (1 : Int32) then (ps_gR M a0 5 8 (fun av11 => ps_ck M av11 6 (ps_b1 (f_X7_restFor M av11 (1 : Int32)) (fun M => f_X6_depthBehind_b60 k14 M a0 a1 x3 x5)))) else (ps_gR M a0 5 8 (fun av9 => ps_ck M av9 6 (ps_b2 (f_X7_pullOnce M av9 a1) (fun xv10 M => f_X6_depthBehind_b60 k14 M a0 a1 x3 x5))))) else (f_X6_depthBehind_b66 M a0)))))
def f_X6_depthBehind_l14 : Nat → ps_M → Nat → Nat → Int32 → Int32 → Option (Int32 × ps_M)
  | 0, _, _, _, _, _ => none
  | n + 1, M, a0, a1, x3, x5 => f_X6_depthBehind_w14 (f_X6_depthBehind_l14 n) M a0 a1 x3 x5
def f_X6_depthBehind (M : ps_M) (a0 : Nat) (a1 : Nat) (a2 : Nat) (x3 : Int32) (x4 : Int32) : Option (Int32 × ps_M) := ps_gR M a0 5 8 (fun av12 => ps_ck M av12 6 (ps_b1 (f_X7_become M av12 a2) (fun M => ps_v ((x4 - (1 : Int32))) (fun xv13 => f_X6_depthBehind_l14 ps_fu M a0 a1 x3 xv13))))
set_option maxRecDepth 100000 in
set_option maxHeartbeats 4000000 in
theorem kb_X6_depthBehind_b60 (C : ps_C p s m args meth c cX6_depthBehind 6 RX6 ((some .int)) "depthBehind" D Y B) {q : Int32 × ps_M} (k14 : ps_M → Nat → Nat → Int32 → Int32 → Option (Int32 × ps_M)) (hk14 : ∀ (M : ps_M) (H : Heap) (locs : List Loc) (ls : Array Slot) (a0 : Nat) (a1 : Nat) (x3 : Int32) (x5 : Int32), k14 M a0 a1 x3 x5 = some q → ps_W D Y B M H → va_S (fun q => B ≤ q) s.heap H locs → lv_has ls 6 [(0, .ref (B + a0)), (1, .ref (B + a1)), (3, .int x3), (5, .int x5)] → W p l e rm_X6_depthBehind s m args below meth c H locs 0 0 (ps_Qi D Y B below args s 0 0 q) (F0 m 14 ls [])) {M : ps_M} {a0 : Nat} {a1 : Nat} {x3 : Int32} {x5 : Int32} (hF : f_X6_depthBehind_b60 k14 M a0 a1 x3 x5 = some q) (hW : ps_W D Y B M H) (hS : va_S (fun q => B ≤ q) s.heap H locs) (hl : lv_has ls 6 [(0, .ref (B + a0)), (1, .ref (B + a1)), (3, .int x3), (5, .int x5)]) : W p l e rm_X6_depthBehind s m args below meth c H locs 0 0 (ps_Qi D Y B below args s 0 0 q) (F0 m 60 ls []) := by
  have hx := C.1
  have hb := C.2.1
  have hml := C.2.2.1
  have hown := C.2.2.2.1
  have hts := C.2.2.2.2.1
  unfold f_X6_depthBehind_b60 at hF
  obtain ⟨xv1, exv1, hF⟩ := ps_ve hF
  refine lv_iinc (v := xv1) (lv' := [(5, .int xv1), (0, .ref (B + a0)), (1, .ref (B + a1)), (3, .int x3)]) hx hb dX6_depthBehind_60 hl (k := 3) rfl (by rw [exv1]; rfl) (by decide) rfl (fun ls hl => ?_)
  clear exv1
  refine lv_goto (tgt := 14) hx hb dX6_depthBehind_63 (by decide) ?_
  exact hk14 M _ _ _ a0 a1 x3 xv1 hF hW hS (lv_sub hl [1, 2, 3, 0] rfl)
set_option maxRecDepth 100000 in
set_option maxHeartbeats 4000000 in
theorem kb_X6_depthBehind_b66 (C : ps_C p s m args meth c cX6_depthBehind 6 RX6 ((some .int)) "depthBehind" D Y B) {q : Int32 × ps_M}  {M : ps_M} {a0 : Nat} (hF : f_X6_depthBehind_b66 M a0 = some q) (hW : ps_W D Y B M H) (hS : va_S (fun q => B ≤ q) s.heap H locs) (hl : lv_has ls 6 [(0, .ref (B + a0))]) : W p l e rm_X6_depthBehind s m args below meth c H locs 0 0 (ps_Qi D Y B below args s 0 0 q) (F0 m 66 ls []) := by
  have hx := C.1
  have hb := C.2.1
  have hml := C.2.2.1
  have hown := C.2.2.2.1
  have hts := C.2.2.2.2.1
  unfold f_X6_depthBehind_b66 at hF
  refine lv_aload_n hx hb dX6_depthBehind_66 rfl (lv_at hl 0 rfl) ?_
  refine pw_gR C hW pc_5 (k := 8) (by decide) rfl tq_322 dX6_depthBehind_67 hF (fun av2 hF => ?_)
  refine pw_gI C hW pc_6 (k := 3) (by decide) rfl tq_230 dX6_depthBehind_70 hF (fun xv3 hF => ?_)
  exact pw_iret C hW hS dX6_depthBehind_73 hF
set_option maxRecDepth 100000 in
set_option maxHeartbeats 4000000 in
theorem kb_X6_depthBehind_w14 (C : ps_C p s m args meth c cX6_depthBehind 6 RX6 ((some .int)) "depthBehind" D Y B) {q : Int32 × ps_M} (k14 : ps_M → Nat → Nat → Int32 → Int32 → Option (Int32 × ps_M)) (hk14 : ∀ (M : ps_M) (H : Heap) (locs : List Loc) (ls : Array Slot) (a0 : Nat) (a1 : Nat) (x3 : Int32) (x5 : Int32), k14 M a0 a1 x3 x5 = some q → ps_W D Y B M H → va_S (fun q => B ≤ q) s.heap H locs → lv_has ls 6 [(0, .ref (B + a0)), (1, .ref (B + a1)), (3, .int x3), (5, .int x5)] → W p l e rm_X6_depthBehind s m args below meth c H locs 0 0 (ps_Qi D Y B below args s 0 0 q) (F0 m 14 ls [])) {M : ps_M} {a0 : Nat} {a1 : Nat} {x3 : Int32} {x5 : Int32} (hF : f_X6_depthBehind_w14 k14 M a0 a1 x3 x5 = some q) (hW : ps_W D Y B M H) (hS : va_S (fun q => B ≤ q) s.heap H locs) (hl : lv_has ls 6 [(0, .ref (B + a0)), (1, .ref (B + a1)), (3, .int x3), (5, .int x5)]) : W p l e rm_X6_depthBehind s m args below meth c H locs 0 0 (ps_Qi D Y B below args s 0 0 q) (F0 m 14 ls []) := by
  have hx := C.1
  have hb := C.2.1
  have hml := C.2.2.1
  have hown := C.2.2.2.1
  have hts := C.2.2.2.2.1
  unfold f_X6_depthBehind_w14 at hF
  refine lv_iload hx hb dX6_depthBehind_14 (lv_at hl 3 rfl) ?_
  refine lv_if_lt (tgt := 66) hx hb dX6_depthBehind_16 (by decide) (fun hv4 => ?_) (fun hv4 => ?_)
  · replace hF := (if_pos hv4).symm.trans hF
    exact kb_X6_depthBehind_b66 C hF hW hS (lv_sub hl [0] rfl)
  · replace hF := (if_neg hv4).symm.trans hF
    refine lv_aload_n hx hb dX6_depthBehind_19 rfl (lv_at hl 0 rfl) ?_
    refine pw_gR C hW pc_5 (k := 8) (by decide) rfl tq_322 dX6_depthBehind_20 hF (fun av5 hF => ?_)
    refine lv_aload_n hx hb dX6_depthBehind_23 rfl (lv_at hl 1 rfl) ?_
    obtain ⟨hK, hF⟩ := ps_ck_some hF
    obtain ⟨xv6, M9, hc, hF⟩ := ps_b2_some hF
    refine ps_backI (x0 := xv6) (M' := M9) hS (ps_callV C hW pc_6 mf_X7_isThrough tq_536 tq_537 tq_712 ⟨Nat.le_of_ble_eq_true rfl, Nat.le_of_ble_eq_true rfl⟩ rfl rfl (As := [.ref (B + a1)]) (rest := []) (c_X7_isThrough hc) hK rfl hl.1 rfl (Nat.le_of_ble_eq_true rfl) dX6_depthBehind_24 ⟨Nat.le_of_ble_eq_true rfl, Nat.le_of_ble_eq_true rfl⟩) (fun H locs hW hS => ?_)
    clear hc
    generalize M9 = M at hW hF
    refine lv_if_ne (tgt := 66) hx hb dX6_depthBehind_27 (by decide) (fun hv7 => ?_) (fun hv7 => ?_)
    · replace hF := (if_neg hv7).symm.trans hF
      exact kb_X6_depthBehind_b66 C hF hW hS (lv_sub hl [0] rfl)
    · replace hF := (if_pos hv7).symm.trans hF
      refine lv_iload_n hx hb dX6_depthBehind_30 rfl (lv_at hl 2 rfl) ?_
      refine lv_iload hx hb dX6_depthBehind_31 (lv_at hl 3 rfl) ?_
      refine lv_ishr hx hb dX6_depthBehind_33 ?_
      refine lv_iconst (v := 1) hx hb dX6_depthBehind_34 (by decide) ?_
      refine lv_iand hx hb dX6_depthBehind_35 ?_
      refine lv_iconst (v := 1) hx hb dX6_depthBehind_36 (by decide) ?_
      refine lv_icmp_ne (tgt := 51) hx hb dX6_depthBehind_37 (by decide) (fun hv8 => ?_) (fun hv8 => ?_)
      · replace hF := (if_neg hv8).symm.trans hF
        refine lv_aload_n hx hb dX6_depthBehind_51 rfl (lv_at hl 0 rfl) ?_
        refine pw_gR C hW pc_5 (k := 8) (by decide) rfl tq_322 dX6_depthBehind_52 hF (fun av9 hF => ?_)
        refine lv_aload_n hx hb dX6_depthBehind_55 rfl (lv_at hl 1 rfl) ?_
        obtain ⟨hK, hF⟩ := ps_ck_some hF
        obtain ⟨xv10, M9, hc, hF⟩ := ps_b2_some hF
        refine ps_backI (x0 := xv10) (M' := M9) hS (ps_callV C hW pc_6 mf_X7_pullOnce tq_605 tq_606 tq_713 ⟨Nat.le_of_ble_eq_true rfl, Nat.le_of_ble_eq_true rfl⟩ rfl rfl (As := [.ref (B + a1)]) (rest := []) (c_X7_pullOnce hc) hK rfl hl.1 rfl (Nat.le_of_ble_eq_true rfl) dX6_depthBehind_56 ⟨Nat.le_of_ble_eq_true rfl, Nat.le_of_ble_eq_true rfl⟩) (fun H locs hW hS => ?_)
        clear hc
        generalize M9 = M at hW hF
        refine lv_pop hx hb dX6_depthBehind_59 rfl ?_
        exact kb_X6_depthBehind_b60 C k14 hk14 hF hW hS (lv_sub hl [0, 1, 2, 3] rfl)
      · replace hF := (if_pos hv8).symm.trans hF
        refine lv_aload_n hx hb dX6_depthBehind_40 rfl (lv_at hl 0 rfl) ?_
        refine pw_gR C hW pc_5 (k := 8) (by decide) rfl tq_322 dX6_depthBehind_41 hF (fun av11 hF => ?_)
        refine lv_iconst (v := 1) hx hb dX6_depthBehind_44 (by decide) ?_
        obtain ⟨hK, hF⟩ := ps_ck_some hF
        obtain ⟨M9, hc, hF⟩ := ps_b1_some hF
        refine ps_backV (M' := M9) hS (ps_callV C hW pc_6 mf_X7_restFor tq_640 tq_641 tq_839 ⟨Nat.le_of_ble_eq_true rfl, Nat.le_of_ble_eq_true rfl⟩ rfl rfl (As := [.int (1 : Int32)]) (rest := []) (c_X7_restFor hc) hK rfl hl.1 rfl (Nat.le_of_ble_eq_true rfl) dX6_depthBehind_45 ⟨Nat.le_of_ble_eq_true rfl, Nat.le_of_ble_eq_true rfl⟩) (fun H locs hW hS => ?_)
        clear hc
        generalize M9 = M at hW hF
        refine lv_goto (tgt := 60) hx hb dX6_depthBehind_48 (by decide) ?_
        exact kb_X6_depthBehind_b60 C k14 hk14 hF hW hS (lv_sub hl [0, 1, 2, 3] rfl)
theorem kb_X6_depthBehind_l14 (C : ps_C p s m args meth c cX6_depthBehind 6 RX6 ((some .int)) "depthBehind" D Y B) {q : Int32 × ps_M}  : ∀ (n : Nat) (M : ps_M) (H : Heap) (locs : List Loc) (ls : Array Slot) (a0 : Nat) (a1 : Nat) (x3 : Int32) (x5 : Int32), f_X6_depthBehind_l14 n M a0 a1 x3 x5 = some q → ps_W D Y B M H → va_S (fun q => B ≤ q) s.heap H locs → lv_has ls 6 [(0, .ref (B + a0)), (1, .ref (B + a1)), (3, .int x3), (5, .int x5)] → W p l e rm_X6_depthBehind s m args below meth c H locs 0 0 (ps_Qi D Y B below args s 0 0 q) (F0 m 14 ls []) := by
  intro n
  induction n with
  | zero => intro M H locs ls a0 a1 x3 x5 hF; cases hF
  | succ n ih => intro M H locs ls a0 a1 x3 x5 hF hW hS hl; exact kb_X6_depthBehind_w14 C  (f_X6_depthBehind_l14 n) ih hF hW hS hl
set_option maxRecDepth 100000 in
set_option maxHeartbeats 4000000 in
theorem kb_X6_depthBehind (C : ps_C p s m args meth c cX6_depthBehind 6 RX6 ((some .int)) "depthBehind" D Y B) {q : Int32 × ps_M}  {M : ps_M} {a0 : Nat} {a1 : Nat} {a2 : Nat} {x3 : Int32} {x4 : Int32} (hF : f_X6_depthBehind M a0 a1 a2 x3 x4 = some q) (hW : ps_W D Y B M H) (hS : va_S (fun q => B ≤ q) s.heap H locs) (hl : lv_has ls 6 [(0, .ref (B + a0)), (1, .ref (B + a1)), (2, .ref (B + a2)), (3, .int x3), (4, .int x4)]) : W p l e rm_X6_depthBehind s m args below meth c H locs 0 0 (ps_Qi D Y B below args s 0 0 q) (F0 m 0 ls []) := by
  have hx := C.1
  have hb := C.2.1
  have hml := C.2.2.1
  have hown := C.2.2.2.1
  have hts := C.2.2.2.2.1
  unfold f_X6_depthBehind at hF
  refine lv_aload_n hx hb dX6_depthBehind_0 rfl (lv_at hl 0 rfl) ?_
  refine pw_gR C hW pc_5 (k := 8) (by decide) rfl tq_322 dX6_depthBehind_1 hF (fun av12 hF => ?_)
  refine lv_aload_n hx hb dX6_depthBehind_4 rfl (lv_at hl 2 rfl) ?_
  obtain ⟨hK, hF⟩ := ps_ck_some hF
  obtain ⟨M9, hc, hF⟩ := ps_b1_some hF
  refine ps_backV (M' := M9) hS (ps_callV C hW pc_6 mf_X7_become tq_598 tq_599 tq_707 ⟨Nat.le_of_ble_eq_true rfl, Nat.le_of_ble_eq_true rfl⟩ rfl rfl (As := [.ref (B + a2)]) (rest := []) (c_X7_become hc) hK rfl hl.1 rfl (Nat.le_of_ble_eq_true rfl) dX6_depthBehind_5 ⟨Nat.le_of_ble_eq_true rfl, Nat.le_of_ble_eq_true rfl⟩) (fun H locs hW hS => ?_)
  clear hc
  generalize M9 = M at hW hF
  refine lv_iload hx hb dX6_depthBehind_8 (lv_at hl 4 rfl) ?_
  refine lv_iconst (v := 1) hx hb dX6_depthBehind_10 (by decide) ?_
  refine lv_isub hx hb dX6_depthBehind_11 ?_
  refine pw_v hF (fun xv13 hF => ?_)
  refine lv_istore (lv' := [(5, .int xv13), (0, .ref (B + a0)), (1, .ref (B + a1)), (2, .ref (B + a2)), (3, .int x3), (4, .int x4)]) hx hb dX6_depthBehind_12 hl (by decide) rfl (fun ls hl => ?_)
  exact kb_X6_depthBehind_l14 C ps_fu M _ _ _ a0 a1 x3 xv13 hF hW hS (lv_sub hl [1, 2, 4, 0] rfl)
theorem mf_X6_depthBehind : ps_mf yX6_depthBehind cX6_depthBehind 6 ((some .int)) 4 := ⟨tq_838, tq_68, by decide +kernel, by decide +kernel, by decide +kernel⟩
theorem c_X6_depthBehind {l : Launch} {D : va_G} {Y : ps_A} {B : Nat} {M : ps_M} {a0 : Nat} {a1 : Nat} {a2 : Nat} {x3 : Int32} {x4 : Int32} {r : Int32} {M' : ps_M} (hF : f_X6_depthBehind M a0 a1 a2 x3 x4 = some (r, M')) : Met l yX6_depthBehind (Cond.code yX6_depthBehind cX6_depthBehind 6 ((some .int)) :: tb_G) rm_X6_depthBehind (ps_PB D Y B M [.ref (B + a0), .ref (B + a1), .ref (B + a2), .int x3, .int x4]) (va_Qi (fun x (_ : Unit) => x = r) (fun _ t => ps_St D Y B M' t) (fun q => B ≤ q)) 0 0 (fun q => B ≤ q) :=
  pm_of (by decide +kernel) (Nat.le_of_ble_eq_true rfl) (fun p e s m args below meth c C hW hS ls hl => kb_X6_depthBehind C hF hW hS hl)

abbrev rm_X6_turnedRound : Room := { frames := 0, cells := 0, slots := 0, locals := 0 }
def f_X6_turnedRound_w4 (k4 : ps_M → Int32 → Int32 → Int32 → Int32 → Option (Int32 × ps_M)) (M : ps_M) (x0 : Int32) (x1 : Int32) (x2 : Int32) (x3 : Int32) : Option (Int32 × ps_M) := if x1 ≤ x3 then (some (x2, M)) else (ps_v ((x2 ||| (((x0 >>> (((x1 - (1 : Int32)) - x3) &&& 31)) &&& (1 : Int32)) <<< (x3 &&& 31)))) (fun xv2 => ps_v (x3 + 1) (fun xv3 => k4 M x0 x1 xv2 xv3)))
def f_X6_turnedRound_l4 : Nat → ps_M → Int32 → Int32 → Int32 → Int32 → Option (Int32 × ps_M)
  | 0, _, _, _, _, _ => none
  | n + 1, M, x0, x1, x2, x3 => f_X6_turnedRound_w4 (f_X6_turnedRound_l4 n) M x0 x1 x2 x3
def f_X6_turnedRound (M : ps_M) (x0 : Int32) (x1 : Int32) : Option (Int32 × ps_M) := f_X6_turnedRound_l4 ps_fu M x0 x1 (0 : Int32) (0 : Int32)
set_option maxRecDepth 100000 in
set_option maxHeartbeats 4000000 in
theorem kb_X6_turnedRound_w4 (C : ps_C p s m args meth c cX6_turnedRound 4 RX6 ((some .int)) "turnedRound" D Y B) {q : Int32 × ps_M} (k4 : ps_M → Int32 → Int32 → Int32 → Int32 → Option (Int32 × ps_M)) (hk4 : ∀ (M : ps_M) (H : Heap) (locs : List Loc) (ls : Array Slot) (x0 : Int32) (x1 : Int32) (x2 : Int32) (x3 : Int32), k4 M x0 x1 x2 x3 = some q → ps_W D Y B M H → va_S (fun q => B ≤ q) s.heap H locs → lv_has ls 4 [(0, .int x0), (1, .int x1), (2, .int x2), (3, .int x3)] → W p l e rm_X6_turnedRound s m args below meth c H locs 0 0 (ps_Qi D Y B below args s 0 0 q) (F0 m 4 ls [])) {M : ps_M} {x0 : Int32} {x1 : Int32} {x2 : Int32} {x3 : Int32} (hF : f_X6_turnedRound_w4 k4 M x0 x1 x2 x3 = some q) (hW : ps_W D Y B M H) (hS : va_S (fun q => B ≤ q) s.heap H locs) (hl : lv_has ls 4 [(0, .int x0), (1, .int x1), (2, .int x2), (3, .int x3)]) : W p l e rm_X6_turnedRound s m args below meth c H locs 0 0 (ps_Qi D Y B below args s 0 0 q) (F0 m 4 ls []) := by
  have hx := C.1
  have hb := C.2.1
  have hml := C.2.2.1
  have hown := C.2.2.2.1
  have hts := C.2.2.2.2.1
  unfold f_X6_turnedRound_w4 at hF
  refine lv_iload_n hx hb dX6_turnedRound_4 rfl (lv_at hl 3 rfl) ?_
  refine lv_iload_n hx hb dX6_turnedRound_5 rfl (lv_at hl 1 rfl) ?_
  refine lv_icmp_ge (tgt := 29) hx hb dX6_turnedRound_6 (by decide) (fun hv1 => ?_) (fun hv1 => ?_)
  · replace hF := (if_pos hv1).symm.trans hF
    refine lv_iload_n hx hb dX6_turnedRound_29 rfl (lv_at hl 2 rfl) ?_
    exact pw_iret C hW hS dX6_turnedRound_30 hF
  · replace hF := (if_neg hv1).symm.trans hF
    refine lv_iload_n hx hb dX6_turnedRound_9 rfl (lv_at hl 2 rfl) ?_
    refine lv_iload_n hx hb dX6_turnedRound_10 rfl (lv_at hl 0 rfl) ?_
    refine lv_iload_n hx hb dX6_turnedRound_11 rfl (lv_at hl 1 rfl) ?_
    refine lv_iconst (v := 1) hx hb dX6_turnedRound_12 (by decide) ?_
    refine lv_isub hx hb dX6_turnedRound_13 ?_
    refine lv_iload_n hx hb dX6_turnedRound_14 rfl (lv_at hl 3 rfl) ?_
    refine lv_isub hx hb dX6_turnedRound_15 ?_
    refine lv_ishr hx hb dX6_turnedRound_16 ?_
    refine lv_iconst (v := 1) hx hb dX6_turnedRound_17 (by decide) ?_
    refine lv_iand hx hb dX6_turnedRound_18 ?_
    refine lv_iload_n hx hb dX6_turnedRound_19 rfl (lv_at hl 3 rfl) ?_
    refine lv_ishl hx hb dX6_turnedRound_20 ?_
    refine lv_ior hx hb dX6_turnedRound_21 ?_
    refine pw_v hF (fun xv2 hF => ?_)
    refine lv_istore_n (lv' := [(2, .int xv2), (0, .int x0), (1, .int x1), (3, .int x3)]) hx hb dX6_turnedRound_22 rfl hl (by decide) rfl (fun ls hl => ?_)
    obtain ⟨xv3, exv3, hF⟩ := ps_ve hF
    refine lv_iinc (v := xv3) (lv' := [(3, .int xv3), (2, .int xv2), (0, .int x0), (1, .int x1)]) hx hb dX6_turnedRound_23 hl (k := 3) rfl (by rw [exv3]; rfl) (by decide) rfl (fun ls hl => ?_)
    clear exv3
    refine lv_goto (tgt := 4) hx hb dX6_turnedRound_26 (by decide) ?_
    exact hk4 M _ _ _ x0 x1 xv2 xv3 hF hW hS (lv_sub hl [2, 3, 1, 0] rfl)
theorem kb_X6_turnedRound_l4 (C : ps_C p s m args meth c cX6_turnedRound 4 RX6 ((some .int)) "turnedRound" D Y B) {q : Int32 × ps_M}  : ∀ (n : Nat) (M : ps_M) (H : Heap) (locs : List Loc) (ls : Array Slot) (x0 : Int32) (x1 : Int32) (x2 : Int32) (x3 : Int32), f_X6_turnedRound_l4 n M x0 x1 x2 x3 = some q → ps_W D Y B M H → va_S (fun q => B ≤ q) s.heap H locs → lv_has ls 4 [(0, .int x0), (1, .int x1), (2, .int x2), (3, .int x3)] → W p l e rm_X6_turnedRound s m args below meth c H locs 0 0 (ps_Qi D Y B below args s 0 0 q) (F0 m 4 ls []) := by
  intro n
  induction n with
  | zero => intro M H locs ls x0 x1 x2 x3 hF; cases hF
  | succ n ih => intro M H locs ls x0 x1 x2 x3 hF hW hS hl; exact kb_X6_turnedRound_w4 C  (f_X6_turnedRound_l4 n) ih hF hW hS hl
set_option maxRecDepth 100000 in
set_option maxHeartbeats 4000000 in
theorem kb_X6_turnedRound (C : ps_C p s m args meth c cX6_turnedRound 4 RX6 ((some .int)) "turnedRound" D Y B) {q : Int32 × ps_M}  {M : ps_M} {x0 : Int32} {x1 : Int32} (hF : f_X6_turnedRound M x0 x1 = some q) (hW : ps_W D Y B M H) (hS : va_S (fun q => B ≤ q) s.heap H locs) (hl : lv_has ls 4 [(0, .int x0), (1, .int x1)]) : W p l e rm_X6_turnedRound s m args below meth c H locs 0 0 (ps_Qi D Y B below args s 0 0 q) (F0 m 0 ls []) := by
  have hx := C.1
  have hb := C.2.1
  have hml := C.2.2.1
  have hown := C.2.2.2.1
  have hts := C.2.2.2.2.1
  unfold f_X6_turnedRound at hF
  refine lv_iconst (v := 0) hx hb dX6_turnedRound_0 (by decide) ?_
  refine lv_istore_n (lv' := [(2, .int (0 : Int32)), (0, .int x0), (1, .int x1)]) hx hb dX6_turnedRound_1 rfl hl (by decide) rfl (fun ls hl => ?_)
  refine lv_iconst (v := 0) hx hb dX6_turnedRound_2 (by decide) ?_
  refine lv_istore_n (lv' := [(3, .int (0 : Int32)), (2, .int (0 : Int32)), (0, .int x0), (1, .int x1)]) hx hb dX6_turnedRound_3 rfl hl (by decide) rfl (fun ls hl => ?_)
  exact kb_X6_turnedRound_l4 C ps_fu M _ _ _ x0 x1 (0 : Int32) (0 : Int32) hF hW hS (lv_sub hl [2, 3, 1, 0] rfl)
theorem mf_X6_turnedRound : ps_mf yX6_turnedRound cX6_turnedRound 4 ((some .int)) 2 := ⟨tq_842, tq_68, by decide +kernel, by decide +kernel, by decide +kernel⟩
theorem c_X6_turnedRound {l : Launch} {D : va_G} {Y : ps_A} {B : Nat} {M : ps_M} {x0 : Int32} {x1 : Int32} {r : Int32} {M' : ps_M} (hF : f_X6_turnedRound M x0 x1 = some (r, M')) : Met l yX6_turnedRound (Cond.code yX6_turnedRound cX6_turnedRound 4 ((some .int)) :: tb_G) rm_X6_turnedRound (ps_PB D Y B M [.int x0, .int x1]) (va_Qi (fun x (_ : Unit) => x = r) (fun _ t => ps_St D Y B M' t) (fun q => B ≤ q)) 0 0 (fun q => B ≤ q) :=
  pm_of (by decide +kernel) (Nat.le_of_ble_eq_true rfl) (fun p e s m args below meth c C hW hS ls hl => kb_X6_turnedRound C hF hW hS hl)

abbrev rm_X6_findRests : Room := { frames := 4, cells := 0, slots := 0, locals := 96 }
def f_X6_findRests_b79 (k14 : ps_M → Nat → Nat → Nat → Int32 → Int32 → Int32 → Int32 → Option (Int32 × ps_M)) (M : ps_M) (a0 : Nat) (a1 : Nat) (a2 : Nat) (x3 : Int32) (x4 : Int32) (x5 : Int32) (x6 : Int32) : Option (Int32 × ps_M) := ps_v (x6 + 1) (fun xv1 => k14 M a0 a1 a2 x3 x4 x5 xv1)
def f_X6_findRests_b65 (k14 : ps_M → Nat → Nat → Nat → Int32 → Int32 → Int32 → Int32 → Option (Int32 × ps_M)) (M : ps_M) (a0 : Nat) (a1 : Nat) (a2 : Nat) (x3 : Int32) (x6 : Int32) (x7 : Int32) (x8 : Int32) : Option (Int32 × ps_M) := ps_pI M a0 5 3 x8 (fun M => f_X6_findRests_b79 k14 M a0 a1 a2 x3 x7 x6 x6)
def f_X6_findRests_w14 (k14 : ps_M → Nat → Nat → Nat → Int32 → Int32 → Int32 → Int32 → Option (Int32 × ps_M)) (M : ps_M) (a0 : Nat) (a1 : Nat) (a2 : Nat) (x3 : Int32) (x4 : Int32) (x5 : Int32) (x6 : Int32) : Option (Int32 × ps_M) := if ((1 : Int32) <<< (x3 &&& 31)) ≤ x6 then (ps_b2 (f_X6_turnedRound M x5 x3) (fun xv3 M => some (xv3, M))) else (ps_b2 (f_J6_bitCount_0f7a4 M x6) (fun xv4 M => ps_ck M a0 5 (ps_b2 (f_X6_depthBehind M a0 a1 a2 x6 x3) (fun xv5 M => ps_gI M a0 5 3 (fun xv6 => if xv6 < xv5 then (f_X6_findRests_b65 k14 M a0 a1 a2 x3 x6 xv4 xv5) else (ps_gI M a0 5 3 (fun xv8 => if xv5 = xv8 then (if x4 ≤ xv4 then (f_X6_findRests_b79 k14 M a0 a1 a2 x3 x4 x5 x6) else (f_X6_findRests_b65 k14 M a0 a1 a2 x3 x6 xv4 xv5)) else (f_X6_findRests_b79 k14 M a0 a1 a2 x3 x4 x5 x6))))))))
def f_X6_findRests_l14 : Nat → ps_M → Nat → Nat → Nat → Int32 → Int32 → Int32 → Int32 → Option (Int32 × ps_M)
  | 0, _, _, _, _, _, _, _, _ => none
  | n + 1, M, a0, a1, a2, x3, x4, x5, x6 => f_X6_findRests_w14 (f_X6_findRests_l14 n) M a0 a1 a2 x3 x4 x5 x6
def f_X6_findRests (M : ps_M) (a0 : Nat) (a1 : Nat) (a2 : Nat) (x3 : Int32) : Option (Int32 × ps_M) := ps_pI M a0 5 3 (-1 : Int32) (fun M => f_X6_findRests_l14 ps_fu M a0 a1 a2 x3 (0 : Int32) (0 : Int32) (0 : Int32))
set_option maxRecDepth 100000 in
set_option maxHeartbeats 4000000 in
theorem kb_X6_findRests_b79 (C : ps_C p s m args meth c cX6_findRests 9 RX6 ((some .int)) "findRests" D Y B) {q : Int32 × ps_M} (k14 : ps_M → Nat → Nat → Nat → Int32 → Int32 → Int32 → Int32 → Option (Int32 × ps_M)) (hk14 : ∀ (M : ps_M) (H : Heap) (locs : List Loc) (ls : Array Slot) (a0 : Nat) (a1 : Nat) (a2 : Nat) (x3 : Int32) (x4 : Int32) (x5 : Int32) (x6 : Int32), k14 M a0 a1 a2 x3 x4 x5 x6 = some q → ps_W D Y B M H → va_S (fun q => B ≤ q) s.heap H locs → lv_has ls 9 [(0, .ref (B + a0)), (1, .ref (B + a1)), (2, .ref (B + a2)), (3, .int x3), (4, .int x4), (5, .int x5), (6, .int x6)] → W p l e rm_X6_findRests s m args below meth c H locs 0 0 (ps_Qi D Y B below args s 0 0 q) (F0 m 14 ls [])) {M : ps_M} {a0 : Nat} {a1 : Nat} {a2 : Nat} {x3 : Int32} {x4 : Int32} {x5 : Int32} {x6 : Int32} (hF : f_X6_findRests_b79 k14 M a0 a1 a2 x3 x4 x5 x6 = some q) (hW : ps_W D Y B M H) (hS : va_S (fun q => B ≤ q) s.heap H locs) (hl : lv_has ls 9 [(0, .ref (B + a0)), (1, .ref (B + a1)), (2, .ref (B + a2)), (3, .int x3), (4, .int x4), (5, .int x5), (6, .int x6)]) : W p l e rm_X6_findRests s m args below meth c H locs 0 0 (ps_Qi D Y B below args s 0 0 q) (F0 m 79 ls []) := by
  have hx := C.1
  have hb := C.2.1
  have hml := C.2.2.1
  have hown := C.2.2.2.1
  have hts := C.2.2.2.2.1
  unfold f_X6_findRests_b79 at hF
  obtain ⟨xv1, exv1, hF⟩ := ps_ve hF
  refine lv_iinc (v := xv1) (lv' := [(6, .int xv1), (0, .ref (B + a0)), (1, .ref (B + a1)), (2, .ref (B + a2)), (3, .int x3), (4, .int x4), (5, .int x5)]) hx hb dX6_findRests_79 hl (k := 6) rfl (by rw [exv1]; rfl) (by decide) rfl (fun ls hl => ?_)
  clear exv1
  refine lv_goto (tgt := 14) hx hb dX6_findRests_82 (by decide) ?_
  exact hk14 M _ _ _ a0 a1 a2 x3 x4 x5 xv1 hF hW hS (lv_sub hl [1, 2, 3, 4, 5, 6, 0] rfl)
set_option maxRecDepth 100000 in
set_option maxHeartbeats 4000000 in
theorem kb_X6_findRests_b65 (C : ps_C p s m args meth c cX6_findRests 9 RX6 ((some .int)) "findRests" D Y B) {q : Int32 × ps_M} (k14 : ps_M → Nat → Nat → Nat → Int32 → Int32 → Int32 → Int32 → Option (Int32 × ps_M)) (hk14 : ∀ (M : ps_M) (H : Heap) (locs : List Loc) (ls : Array Slot) (a0 : Nat) (a1 : Nat) (a2 : Nat) (x3 : Int32) (x4 : Int32) (x5 : Int32) (x6 : Int32), k14 M a0 a1 a2 x3 x4 x5 x6 = some q → ps_W D Y B M H → va_S (fun q => B ≤ q) s.heap H locs → lv_has ls 9 [(0, .ref (B + a0)), (1, .ref (B + a1)), (2, .ref (B + a2)), (3, .int x3), (4, .int x4), (5, .int x5), (6, .int x6)] → W p l e rm_X6_findRests s m args below meth c H locs 0 0 (ps_Qi D Y B below args s 0 0 q) (F0 m 14 ls [])) {M : ps_M} {a0 : Nat} {a1 : Nat} {a2 : Nat} {x3 : Int32} {x6 : Int32} {x7 : Int32} {x8 : Int32} (hF : f_X6_findRests_b65 k14 M a0 a1 a2 x3 x6 x7 x8 = some q) (hW : ps_W D Y B M H) (hS : va_S (fun q => B ≤ q) s.heap H locs) (hl : lv_has ls 9 [(0, .ref (B + a0)), (1, .ref (B + a1)), (2, .ref (B + a2)), (3, .int x3), (6, .int x6), (7, .int x7), (8, .int x8)]) : W p l e rm_X6_findRests s m args below meth c H locs 0 0 (ps_Qi D Y B below args s 0 0 q) (F0 m 65 ls []) := by
  have hx := C.1
  have hb := C.2.1
  have hml := C.2.2.1
  have hown := C.2.2.2.1
  have hts := C.2.2.2.2.1
  unfold f_X6_findRests_b65 at hF
  refine lv_aload_n hx hb dX6_findRests_65 rfl (lv_at hl 0 rfl) ?_
  refine lv_iload hx hb dX6_findRests_66 (lv_at hl 6 rfl) ?_
  refine pw_pI C hW hS pc_5 (k := 3) (by decide) rfl rfl tq_316 rfl dX6_findRests_68 hF (fun M H locs hW hS hF => ?_)
  refine lv_iload hx hb dX6_findRests_71 (lv_at hl 5 rfl) ?_
  refine lv_istore (lv' := [(4, .int x7), (0, .ref (B + a0)), (1, .ref (B + a1)), (2, .ref (B + a2)), (3, .int x3), (6, .int x6), (7, .int x7), (8, .int x8)]) hx hb dX6_findRests_73 hl (by decide) rfl (fun ls hl => ?_)
  refine lv_iload hx hb dX6_findRests_75 (lv_at hl 5 rfl) ?_
  refine lv_istore (lv' := [(5, .int x6), (4, .int x7), (0, .ref (B + a0)), (1, .ref (B + a1)), (2, .ref (B + a2)), (3, .int x3), (6, .int x6), (7, .int x7), (8, .int x8)]) hx hb dX6_findRests_77 hl (by decide) rfl (fun ls hl => ?_)
  exact kb_X6_findRests_b79 C k14 hk14 hF hW hS (lv_sub hl [2, 3, 4, 5, 1, 0, 6] rfl)
set_option maxRecDepth 100000 in
set_option maxHeartbeats 4000000 in
theorem kb_X6_findRests_w14 (C : ps_C p s m args meth c cX6_findRests 9 RX6 ((some .int)) "findRests" D Y B) {q : Int32 × ps_M} (k14 : ps_M → Nat → Nat → Nat → Int32 → Int32 → Int32 → Int32 → Option (Int32 × ps_M)) (hk14 : ∀ (M : ps_M) (H : Heap) (locs : List Loc) (ls : Array Slot) (a0 : Nat) (a1 : Nat) (a2 : Nat) (x3 : Int32) (x4 : Int32) (x5 : Int32) (x6 : Int32), k14 M a0 a1 a2 x3 x4 x5 x6 = some q → ps_W D Y B M H → va_S (fun q => B ≤ q) s.heap H locs → lv_has ls 9 [(0, .ref (B + a0)), (1, .ref (B + a1)), (2, .ref (B + a2)), (3, .int x3), (4, .int x4), (5, .int x5), (6, .int x6)] → W p l e rm_X6_findRests s m args below meth c H locs 0 0 (ps_Qi D Y B below args s 0 0 q) (F0 m 14 ls [])) {M : ps_M} {a0 : Nat} {a1 : Nat} {a2 : Nat} {x3 : Int32} {x4 : Int32} {x5 : Int32} {x6 : Int32} (hF : f_X6_findRests_w14 k14 M a0 a1 a2 x3 x4 x5 x6 = some q) (hW : ps_W D Y B M H) (hS : va_S (fun q => B ≤ q) s.heap H locs) (hl : lv_has ls 9 [(0, .ref (B + a0)), (1, .ref (B + a1)), (2, .ref (B + a2)), (3, .int x3), (4, .int x4), (5, .int x5), (6, .int x6)]) : W p l e rm_X6_findRests s m args below meth c H locs 0 0 (ps_Qi D Y B below args s 0 0 q) (F0 m 14 ls []) := by
  have hx := C.1
  have hb := C.2.1
  have hml := C.2.2.1
  have hown := C.2.2.2.1
  have hts := C.2.2.2.2.1
  unfold f_X6_findRests_w14 at hF
  refine lv_iload hx hb dX6_findRests_14 (lv_at hl 6 rfl) ?_
  refine lv_iconst (v := 1) hx hb dX6_findRests_16 (by decide) ?_
  refine lv_iload_n hx hb dX6_findRests_17 rfl (lv_at hl 3 rfl) ?_
  refine lv_ishl hx hb dX6_findRests_18 ?_
  refine lv_icmp_ge (tgt := 85) hx hb dX6_findRests_19 (by decide) (fun hv2 => ?_) (fun hv2 => ?_)
  · replace hF := (if_pos hv2).symm.trans hF
    refine lv_iload hx hb dX6_findRests_85 (lv_at hl 5 rfl) ?_
    refine lv_iload_n hx hb dX6_findRests_87 rfl (lv_at hl 3 rfl) ?_
    obtain ⟨xv3, M9, hc, hF⟩ := ps_b2_some hF
    refine ps_backI (x0 := xv3) (M' := M9) hS (ps_callS C hW mf_X6_turnedRound tq_841 tq_840 ⟨Nat.le_of_ble_eq_true rfl, Nat.le_of_ble_eq_true rfl⟩ rfl rfl (As := [.int x5, .int x3]) (rest := []) (c_X6_turnedRound hc) rfl hl.1 rfl (Nat.le_of_ble_eq_true rfl) dX6_findRests_88 ⟨Nat.le_of_ble_eq_true rfl, Nat.le_of_ble_eq_true rfl⟩) (fun H locs hW hS => ?_)
    clear hc
    generalize M9 = M at hW hF
    exact pw_iret C hW hS dX6_findRests_91 hF
  · replace hF := (if_neg hv2).symm.trans hF
    refine lv_iload hx hb dX6_findRests_22 (lv_at hl 6 rfl) ?_
    obtain ⟨xv4, M9, hc, hF⟩ := ps_b2_some hF
    refine ps_backI (x0 := xv4) (M' := M9) hS (ps_callS C hW mf_J6_bitCount_0f7a4 tq_830 tq_829 ⟨Nat.le_of_ble_eq_true rfl, Nat.le_of_ble_eq_true rfl⟩ rfl rfl (As := [.int x6]) (rest := []) (c_J6_bitCount_0f7a4 hc) rfl hl.1 rfl (Nat.le_of_ble_eq_true rfl) dX6_findRests_24 ⟨Nat.le_of_ble_eq_true rfl, Nat.le_of_ble_eq_true rfl⟩) (fun H locs hW hS => ?_)
    clear hc
    generalize M9 = M at hW hF
    refine lv_istore (lv' := [(7, .int xv4), (0, .ref (B + a0)), (1, .ref (B + a1)), (2, .ref (B + a2)), (3, .int x3), (4, .int x4), (5, .int x5), (6, .int x6)]) hx hb dX6_findRests_27 hl (by decide) rfl (fun ls hl => ?_)
    refine lv_aload_n hx hb dX6_findRests_29 rfl (lv_at hl 1 rfl) ?_
    refine lv_aload_n hx hb dX6_findRests_30 rfl (lv_at hl 2 rfl) ?_
    refine lv_aload_n hx hb dX6_findRests_31 rfl (lv_at hl 3 rfl) ?_
    refine lv_iload hx hb dX6_findRests_32 (lv_at hl 7 rfl) ?_
    refine lv_iload_n hx hb dX6_findRests_34 rfl (lv_at hl 4 rfl) ?_
    obtain ⟨hK, hF⟩ := ps_ck_some hF
    obtain ⟨xv5, M9, hc, hF⟩ := ps_b2_some hF
    refine ps_backI (x0 := xv5) (M' := M9) hS (ps_callV C hW pc_5 mf_X6_depthBehind tq_837 tq_28 tq_835 ⟨Nat.le_of_ble_eq_true rfl, Nat.le_of_ble_eq_true rfl⟩ rfl rfl (As := [.ref (B + a1), .ref (B + a2), .int x6, .int x3]) (rest := []) (c_X6_depthBehind hc) hK rfl hl.1 rfl (Nat.le_of_ble_eq_true rfl) dX6_findRests_35 ⟨Nat.le_of_ble_eq_true rfl, Nat.le_of_ble_eq_true rfl⟩) (fun H locs hW hS => ?_)
    clear hc
    generalize M9 = M at hW hF
    refine lv_istore (lv' := [(8, .int xv5), (7, .int xv4), (0, .ref (B + a0)), (1, .ref (B + a1)), (2, .ref (B + a2)), (3, .int x3), (4, .int x4), (5, .int x5), (6, .int x6)]) hx hb dX6_findRests_38 hl (by decide) rfl (fun ls hl => ?_)
    refine lv_iload hx hb dX6_findRests_40 (lv_at hl 0 rfl) ?_
    refine lv_aload_n hx hb dX6_findRests_42 rfl (lv_at hl 2 rfl) ?_
    refine pw_gI C hW pc_5 (k := 3) (by decide) rfl tq_316 dX6_findRests_43 hF (fun xv6 hF => ?_)
    refine lv_icmp_gt (tgt := 65) hx hb dX6_findRests_46 (by decide) (fun hv7 => ?_) (fun hv7 => ?_)
    · replace hF := (if_pos hv7).symm.trans hF
      exact kb_X6_findRests_b65 C k14 hk14 hF hW hS (lv_sub hl [2, 3, 4, 5, 8, 1, 0] rfl)
    · replace hF := (if_neg hv7).symm.trans hF
      refine lv_iload hx hb dX6_findRests_49 (lv_at hl 0 rfl) ?_
      refine lv_aload_n hx hb dX6_findRests_51 rfl (lv_at hl 2 rfl) ?_
      refine pw_gI C hW pc_5 (k := 3) (by decide) rfl tq_316 dX6_findRests_52 hF (fun xv8 hF => ?_)
      refine lv_icmp_ne (tgt := 79) hx hb dX6_findRests_55 (by decide) (fun hv9 => ?_) (fun hv9 => ?_)
      · replace hF := (if_neg hv9).symm.trans hF
        exact kb_X6_findRests_b79 C k14 hk14 hF hW hS (lv_sub hl [2, 3, 4, 5, 6, 7, 8] rfl)
      · replace hF := (if_pos hv9).symm.trans hF
        refine lv_iload hx hb dX6_findRests_58 (lv_at hl 1 rfl) ?_
        refine lv_iload hx hb dX6_findRests_60 (lv_at hl 6 rfl) ?_
        refine lv_icmp_ge (tgt := 79) hx hb dX6_findRests_62 (by decide) (fun hv10 => ?_) (fun hv10 => ?_)
        · replace hF := (if_pos hv10).symm.trans hF
          exact kb_X6_findRests_b79 C k14 hk14 hF hW hS (lv_sub hl [2, 3, 4, 5, 6, 7, 8] rfl)
        · replace hF := (if_neg hv10).symm.trans hF
          exact kb_X6_findRests_b65 C k14 hk14 hF hW hS (lv_sub hl [2, 3, 4, 5, 8, 1, 0] rfl)
theorem kb_X6_findRests_l14 (C : ps_C p s m args meth c cX6_findRests 9 RX6 ((some .int)) "findRests" D Y B) {q : Int32 × ps_M}  : ∀ (n : Nat) (M : ps_M) (H : Heap) (locs : List Loc) (ls : Array Slot) (a0 : Nat) (a1 : Nat) (a2 : Nat) (x3 : Int32) (x4 : Int32) (x5 : Int32) (x6 : Int32), f_X6_findRests_l14 n M a0 a1 a2 x3 x4 x5 x6 = some q → ps_W D Y B M H → va_S (fun q => B ≤ q) s.heap H locs → lv_has ls 9 [(0, .ref (B + a0)), (1, .ref (B + a1)), (2, .ref (B + a2)), (3, .int x3), (4, .int x4), (5, .int x5), (6, .int x6)] → W p l e rm_X6_findRests s m args below meth c H locs 0 0 (ps_Qi D Y B below args s 0 0 q) (F0 m 14 ls []) := by
  intro n
  induction n with
  | zero => intro M H locs ls a0 a1 a2 x3 x4 x5 x6 hF; cases hF
  | succ n ih => intro M H locs ls a0 a1 a2 x3 x4 x5 x6 hF hW hS hl; exact kb_X6_findRests_w14 C  (f_X6_findRests_l14 n) ih hF hW hS hl
set_option maxRecDepth 100000 in
set_option maxHeartbeats 4000000 in
theorem kb_X6_findRests (C : ps_C p s m args meth c cX6_findRests 9 RX6 ((some .int)) "findRests" D Y B) {q : Int32 × ps_M}  {M : ps_M} {a0 : Nat} {a1 : Nat} {a2 : Nat} {x3 : Int32} (hF : f_X6_findRests M a0 a1 a2 x3 = some q) (hW : ps_W D Y B M H) (hS : va_S (fun q => B ≤ q) s.heap H locs) (hl : lv_has ls 9 [(0, .ref (B + a0)), (1, .ref (B + a1)), (2, .ref (B + a2)), (3, .int x3)]) : W p l e rm_X6_findRests s m args below meth c H locs 0 0 (ps_Qi D Y B below args s 0 0 q) (F0 m 0 ls []) := by
  have hx := C.1
  have hb := C.2.1
  have hml := C.2.2.1
  have hown := C.2.2.2.1
  have hts := C.2.2.2.2.1
  unfold f_X6_findRests at hF
  refine lv_aload_n hx hb dX6_findRests_0 rfl (lv_at hl 0 rfl) ?_
  refine lv_iconst (v := -1) hx hb dX6_findRests_1 (by decide) ?_
  refine pw_pI C hW hS pc_5 (k := 3) (by decide) rfl rfl tq_316 rfl dX6_findRests_2 hF (fun M H locs hW hS hF => ?_)
  refine lv_iconst (v := 0) hx hb dX6_findRests_5 (by decide) ?_
  refine lv_istore (lv' := [(4, .int (0 : Int32)), (0, .ref (B + a0)), (1, .ref (B + a1)), (2, .ref (B + a2)), (3, .int x3)]) hx hb dX6_findRests_6 hl (by decide) rfl (fun ls hl => ?_)
  refine lv_iconst (v := 0) hx hb dX6_findRests_8 (by decide) ?_
  refine lv_istore (lv' := [(5, .int (0 : Int32)), (4, .int (0 : Int32)), (0, .ref (B + a0)), (1, .ref (B + a1)), (2, .ref (B + a2)), (3, .int x3)]) hx hb dX6_findRests_9 hl (by decide) rfl (fun ls hl => ?_)
  refine lv_iconst (v := 0) hx hb dX6_findRests_11 (by decide) ?_
  refine lv_istore (lv' := [(6, .int (0 : Int32)), (5, .int (0 : Int32)), (4, .int (0 : Int32)), (0, .ref (B + a0)), (1, .ref (B + a1)), (2, .ref (B + a2)), (3, .int x3)]) hx hb dX6_findRests_12 hl (by decide) rfl (fun ls hl => ?_)
  exact kb_X6_findRests_l14 C ps_fu M _ _ _ a0 a1 a2 x3 (0 : Int32) (0 : Int32) (0 : Int32) hF hW hS (lv_sub hl [3, 4, 5, 6, 2, 1, 0] rfl)
theorem mf_X6_findRests : ps_mf yX6_findRests cX6_findRests 9 ((some .int)) 3 := ⟨tq_828, tq_68, by decide +kernel, by decide +kernel, by decide +kernel⟩
theorem c_X6_findRests {l : Launch} {D : va_G} {Y : ps_A} {B : Nat} {M : ps_M} {a0 : Nat} {a1 : Nat} {a2 : Nat} {x3 : Int32} {r : Int32} {M' : ps_M} (hF : f_X6_findRests M a0 a1 a2 x3 = some (r, M')) : Met l yX6_findRests (Cond.code yX6_findRests cX6_findRests 9 ((some .int)) :: tb_G) rm_X6_findRests (ps_PB D Y B M [.ref (B + a0), .ref (B + a1), .ref (B + a2), .int x3]) (va_Qi (fun x (_ : Unit) => x = r) (fun _ t => ps_St D Y B M' t) (fun q => B ≤ q)) 0 0 (fun q => B ≤ q) :=
  pm_of (by decide +kernel) (Nat.le_of_ble_eq_true rfl) (fun p e s m args below meth c C hW hS ls hl => kb_X6_findRests C hF hW hS hl)

abbrev rm_X6_gainByFile : Room := { frames := 5, cells := 0, slots := 0, locals := 118 }
def f_X6_gainByFile (M : ps_M) (a0 : Nat) (a1 : Nat) (a2 : Nat) : Option (Int32 × ps_M) := ps_ck M a0 5 (ps_b2 (f_X6_strokesFrom M a0 a1 a2) (fun xv1 M => ps_gR M a0 5 8 (fun av2 => ps_ck M av2 6 (ps_b1 (f_X7_become M av2 a2) (fun M => ps_gR M a0 5 8 (fun av3 => ps_gI M a2 6 7 (fun xv4 => ps_v (if (xv4 + (1 : Int32)) < (9 : Int32) then (xv4 + (1 : Int32)) else (9 : Int32)) (fun xv5 => ps_pI M av3 6 7 xv5 (fun M => ps_gR M a0 5 8 (fun av6 => ps_ck M a0 5 (ps_b2 (f_X6_strokesThrough M a0 a1 av6 (999 : Int32)) (fun xv7 M => some (((xv1 - xv7) - (20 : Int32)), M)))))))))))))
set_option maxRecDepth 100000 in
set_option maxHeartbeats 4000000 in
theorem kb_X6_gainByFile (C : ps_C p s m args meth c cX6_gainByFile 4 RX6 ((some .int)) "gainByFile" D Y B) {q : Int32 × ps_M}  {M : ps_M} {a0 : Nat} {a1 : Nat} {a2 : Nat} (hF : f_X6_gainByFile M a0 a1 a2 = some q) (hW : ps_W D Y B M H) (hS : va_S (fun q => B ≤ q) s.heap H locs) (hl : lv_has ls 4 [(0, .ref (B + a0)), (1, .ref (B + a1)), (2, .ref (B + a2))]) : W p l e rm_X6_gainByFile s m args below meth c H locs 0 0 (ps_Qi D Y B below args s 0 0 q) (F0 m 0 ls []) := by
  have hx := C.1
  have hb := C.2.1
  have hml := C.2.2.1
  have hown := C.2.2.2.1
  have hts := C.2.2.2.2.1
  unfold f_X6_gainByFile at hF
  refine lv_aload_n hx hb dX6_gainByFile_0 rfl (lv_at hl 0 rfl) ?_
  refine lv_aload_n hx hb dX6_gainByFile_1 rfl (lv_at hl 1 rfl) ?_
  refine lv_aload_n hx hb dX6_gainByFile_2 rfl (lv_at hl 2 rfl) ?_
  obtain ⟨hK, hF⟩ := ps_ck_some hF
  obtain ⟨xv1, M9, hc, hF⟩ := ps_b2_some hF
  refine ps_backI (x0 := xv1) (M' := M9) hS (ps_callV C hW pc_5 mf_X6_strokesFrom tq_704 tq_705 tq_820 ⟨Nat.le_of_ble_eq_true rfl, Nat.le_of_ble_eq_true rfl⟩ rfl rfl (As := [.ref (B + a1), .ref (B + a2)]) (rest := []) (c_X6_strokesFrom hc) hK rfl hl.1 rfl (Nat.le_of_ble_eq_true rfl) dX6_gainByFile_3 ⟨Nat.le_of_ble_eq_true rfl, Nat.le_of_ble_eq_true rfl⟩) (fun H locs hW hS => ?_)
  clear hc
  generalize M9 = M at hW hF
  refine lv_istore_n (lv' := [(3, .int xv1), (0, .ref (B + a0)), (1, .ref (B + a1)), (2, .ref (B + a2))]) hx hb dX6_gainByFile_6 rfl hl (by decide) rfl (fun ls hl => ?_)
  refine lv_aload_n hx hb dX6_gainByFile_7 rfl (lv_at hl 1 rfl) ?_
  refine pw_gR C hW pc_5 (k := 8) (by decide) rfl tq_322 dX6_gainByFile_8 hF (fun av2 hF => ?_)
  refine lv_aload_n hx hb dX6_gainByFile_11 rfl (lv_at hl 3 rfl) ?_
  obtain ⟨hK, hF⟩ := ps_ck_some hF
  obtain ⟨M9, hc, hF⟩ := ps_b1_some hF
  refine ps_backV (M' := M9) hS (ps_callV C hW pc_6 mf_X7_become tq_598 tq_599 tq_707 ⟨Nat.le_of_ble_eq_true rfl, Nat.le_of_ble_eq_true rfl⟩ rfl rfl (As := [.ref (B + a2)]) (rest := []) (c_X7_become hc) hK rfl hl.1 rfl (Nat.le_of_ble_eq_true rfl) dX6_gainByFile_12 ⟨Nat.le_of_ble_eq_true rfl, Nat.le_of_ble_eq_true rfl⟩) (fun H locs hW hS => ?_)
  clear hc
  generalize M9 = M at hW hF
  refine lv_aload_n hx hb dX6_gainByFile_15 rfl (lv_at hl 1 rfl) ?_
  refine pw_gR C hW pc_5 (k := 8) (by decide) rfl tq_322 dX6_gainByFile_16 hF (fun av3 hF => ?_)
  refine lv_bipush (v := 9) hx hb dX6_gainByFile_19 (by decide) ?_
  refine lv_aload_n hx hb dX6_gainByFile_21 rfl (lv_at hl 3 rfl) ?_
  refine pw_gI C hW pc_6 (k := 7) (by decide) rfl tq_239 dX6_gainByFile_22 hF (fun xv4 hF => ?_)
  refine lv_iconst (v := 1) hx hb dX6_gainByFile_25 (by decide) ?_
  refine lv_iadd hx hb dX6_gainByFile_26 ?_
  refine va_mmin hx hb (hml.trans hl.1.symm) hown (hts _ tq_748) (hts _ tq_602) (hts _ tq_65) (hts _ tq_603) (Nat.le_of_ble_eq_true rfl) (Nat.le_of_ble_eq_true rfl) (Nat.le_of_ble_eq_true rfl) (Nat.le_of_ble_eq_true rfl) dX6_gainByFile_27 ?_
  refine pw_v hF (fun xv5 hF => ?_)
  refine pw_pI C hW hS pc_6 (k := 7) (by decide) rfl rfl tq_239 rfl dX6_gainByFile_30 hF (fun M H locs hW hS hF => ?_)
  refine lv_iload_n hx hb dX6_gainByFile_33 rfl (lv_at hl 0 rfl) ?_
  refine lv_aload_n hx hb dX6_gainByFile_34 rfl (lv_at hl 1 rfl) ?_
  refine lv_aload_n hx hb dX6_gainByFile_35 rfl (lv_at hl 2 rfl) ?_
  refine lv_aload_n hx hb dX6_gainByFile_36 rfl (lv_at hl 1 rfl) ?_
  refine pw_gR C hW pc_5 (k := 8) (by decide) rfl tq_322 dX6_gainByFile_37 hF (fun av6 hF => ?_)
  refine lv_sipush (v := 999) hx hb dX6_gainByFile_40 (by decide) ?_
  obtain ⟨hK, hF⟩ := ps_ck_some hF
  obtain ⟨xv7, M9, hc, hF⟩ := ps_b2_some hF
  refine ps_backI (x0 := xv7) (M' := M9) hS (ps_callV C hW pc_5 mf_X6_strokesThrough tq_710 tq_19 tq_708 ⟨Nat.le_of_ble_eq_true rfl, Nat.le_of_ble_eq_true rfl⟩ rfl rfl (As := [.ref (B + a1), .ref (B + av6), .int (999 : Int32)]) (rest := [.int xv1]) (c_X6_strokesThrough hc) hK rfl hl.1 rfl (Nat.le_of_ble_eq_true rfl) dX6_gainByFile_43 ⟨Nat.le_of_ble_eq_true rfl, Nat.le_of_ble_eq_true rfl⟩) (fun H locs hW hS => ?_)
  clear hc
  generalize M9 = M at hW hF
  refine lv_isub hx hb dX6_gainByFile_46 ?_
  refine lv_bipush (v := 20) hx hb dX6_gainByFile_47 (by decide) ?_
  refine lv_isub hx hb dX6_gainByFile_49 ?_
  exact pw_iret C hW hS dX6_gainByFile_50 hF
theorem mf_X6_gainByFile : ps_mf yX6_gainByFile cX6_gainByFile 4 ((some .int)) 2 := ⟨tq_850, tq_68, by decide +kernel, by decide +kernel, by decide +kernel⟩
theorem c_X6_gainByFile {l : Launch} {D : va_G} {Y : ps_A} {B : Nat} {M : ps_M} {a0 : Nat} {a1 : Nat} {a2 : Nat} {r : Int32} {M' : ps_M} (hF : f_X6_gainByFile M a0 a1 a2 = some (r, M')) : Met l yX6_gainByFile (Cond.code yX6_gainByFile cX6_gainByFile 4 ((some .int)) :: tb_G) rm_X6_gainByFile (ps_PB D Y B M [.ref (B + a0), .ref (B + a1), .ref (B + a2)]) (va_Qi (fun x (_ : Unit) => x = r) (fun _ t => ps_St D Y B M' t) (fun q => B ≤ q)) 0 0 (fun q => B ≤ q) :=
  pm_of (by decide +kernel) (Nat.le_of_ble_eq_true rfl) (fun p e s m args below meth c C hW hS ls hl => kb_X6_gainByFile C hF hW hS hl)

abbrev rm_X6_firstWrong : Room := { frames := 3, cells := 0, slots := 0, locals := 71 }
def f_X6_firstWrong_b37 (M : ps_M) (x3 : Int32) : Option (Int32 × ps_M) := some (x3, M)
def f_X6_firstWrong_w2 (k2 : ps_M → Nat → Nat → Nat → Int32 → Option (Int32 × ps_M)) (M : ps_M) (a0 : Nat) (a1 : Nat) (a2 : Nat) (x3 : Int32) : Option (Int32 × ps_M) := ps_gI M a2 4 1 (fun xv1 => if xv1 ≤ x3 then (some ((-1 : Int32), M)) else (ps_gR M a0 5 8 (fun av3 => ps_ck M av3 6 (ps_b2 (f_X7_isThrough M av3 a1) (fun xv4 M => if xv4 = 0 then (ps_gR M a0 5 8 (fun av6 => ps_ck M av6 6 (ps_b2 (f_X7_pullOnce M av6 a1) (fun xv7 M => ps_ck M a2 4 (ps_b2 (f_X5_mark M a2 x3) (fun xv8 M => if xv7 = xv8 then (ps_v (x3 + 1) (fun xv10 => k2 M a0 a1 a2 xv10)) else (f_X6_firstWrong_b37 M x3))))))) else (f_X6_firstWrong_b37 M x3))))))
def f_X6_firstWrong_l2 : Nat → ps_M → Nat → Nat → Nat → Int32 → Option (Int32 × ps_M)
  | 0, _, _, _, _, _ => none
  | n + 1, M, a0, a1, a2, x3 => f_X6_firstWrong_w2 (f_X6_firstWrong_l2 n) M a0 a1 a2 x3
def f_X6_firstWrong (M : ps_M) (a0 : Nat) (a1 : Nat) (a2 : Nat) : Option (Int32 × ps_M) := f_X6_firstWrong_l2 ps_fu M a0 a1 a2 (0 : Int32)
set_option maxRecDepth 100000 in
set_option maxHeartbeats 4000000 in
theorem kb_X6_firstWrong_b37 (C : ps_C p s m args meth c cX6_firstWrong 4 RX6 ((some .int)) "firstWrong" D Y B) {q : Int32 × ps_M}  {M : ps_M} {x3 : Int32} (hF : f_X6_firstWrong_b37 M x3 = some q) (hW : ps_W D Y B M H) (hS : va_S (fun q => B ≤ q) s.heap H locs) (hl : lv_has ls 4 [(3, .int x3)]) : W p l e rm_X6_firstWrong s m args below meth c H locs 0 0 (ps_Qi D Y B below args s 0 0 q) (F0 m 37 ls []) := by
  have hx := C.1
  have hb := C.2.1
  have hml := C.2.2.1
  have hown := C.2.2.2.1
  have hts := C.2.2.2.2.1
  unfold f_X6_firstWrong_b37 at hF
  refine lv_iload_n hx hb dX6_firstWrong_37 rfl (lv_at hl 0 rfl) ?_
  exact pw_iret C hW hS dX6_firstWrong_38 hF
set_option maxRecDepth 100000 in
set_option maxHeartbeats 4000000 in
theorem kb_X6_firstWrong_w2 (C : ps_C p s m args meth c cX6_firstWrong 4 RX6 ((some .int)) "firstWrong" D Y B) {q : Int32 × ps_M} (k2 : ps_M → Nat → Nat → Nat → Int32 → Option (Int32 × ps_M)) (hk2 : ∀ (M : ps_M) (H : Heap) (locs : List Loc) (ls : Array Slot) (a0 : Nat) (a1 : Nat) (a2 : Nat) (x3 : Int32), k2 M a0 a1 a2 x3 = some q → ps_W D Y B M H → va_S (fun q => B ≤ q) s.heap H locs → lv_has ls 4 [(0, .ref (B + a0)), (1, .ref (B + a1)), (2, .ref (B + a2)), (3, .int x3)] → W p l e rm_X6_firstWrong s m args below meth c H locs 0 0 (ps_Qi D Y B below args s 0 0 q) (F0 m 2 ls [])) {M : ps_M} {a0 : Nat} {a1 : Nat} {a2 : Nat} {x3 : Int32} (hF : f_X6_firstWrong_w2 k2 M a0 a1 a2 x3 = some q) (hW : ps_W D Y B M H) (hS : va_S (fun q => B ≤ q) s.heap H locs) (hl : lv_has ls 4 [(0, .ref (B + a0)), (1, .ref (B + a1)), (2, .ref (B + a2)), (3, .int x3)]) : W p l e rm_X6_firstWrong s m args below meth c H locs 0 0 (ps_Qi D Y B below args s 0 0 q) (F0 m 2 ls []) := by
  have hx := C.1
  have hb := C.2.1
  have hml := C.2.2.1
  have hown := C.2.2.2.1
  have hts := C.2.2.2.2.1
  unfold f_X6_firstWrong_w2 at hF
  refine lv_iload_n hx hb dX6_firstWrong_2 rfl (lv_at hl 3 rfl) ?_
  refine lv_aload_n hx hb dX6_firstWrong_3 rfl (lv_at hl 2 rfl) ?_
  refine pw_gI C hW pc_4 (k := 1) (by decide) rfl tq_180 dX6_firstWrong_4 hF (fun xv1 hF => ?_)
  refine lv_icmp_ge (tgt := 45) hx hb dX6_firstWrong_7 (by decide) (fun hv2 => ?_) (fun hv2 => ?_)
  · replace hF := (if_pos hv2).symm.trans hF
    refine lv_iconst (v := -1) hx hb dX6_firstWrong_45 (by decide) ?_
    exact pw_iret C hW hS dX6_firstWrong_46 hF
  · replace hF := (if_neg hv2).symm.trans hF
    refine lv_aload_n hx hb dX6_firstWrong_10 rfl (lv_at hl 0 rfl) ?_
    refine pw_gR C hW pc_5 (k := 8) (by decide) rfl tq_322 dX6_firstWrong_11 hF (fun av3 hF => ?_)
    refine lv_aload_n hx hb dX6_firstWrong_14 rfl (lv_at hl 1 rfl) ?_
    obtain ⟨hK, hF⟩ := ps_ck_some hF
    obtain ⟨xv4, M9, hc, hF⟩ := ps_b2_some hF
    refine ps_backI (x0 := xv4) (M' := M9) hS (ps_callV C hW pc_6 mf_X7_isThrough tq_536 tq_537 tq_712 ⟨Nat.le_of_ble_eq_true rfl, Nat.le_of_ble_eq_true rfl⟩ rfl rfl (As := [.ref (B + a1)]) (rest := []) (c_X7_isThrough hc) hK rfl hl.1 rfl (Nat.le_of_ble_eq_true rfl) dX6_firstWrong_15 ⟨Nat.le_of_ble_eq_true rfl, Nat.le_of_ble_eq_true rfl⟩) (fun H locs hW hS => ?_)
    clear hc
    generalize M9 = M at hW hF
    refine lv_if_ne (tgt := 37) hx hb dX6_firstWrong_18 (by decide) (fun hv5 => ?_) (fun hv5 => ?_)
    · replace hF := (if_neg hv5).symm.trans hF
      exact kb_X6_firstWrong_b37 C hF hW hS (lv_sub hl [3] rfl)
    · replace hF := (if_pos hv5).symm.trans hF
      refine lv_aload_n hx hb dX6_firstWrong_21 rfl (lv_at hl 0 rfl) ?_
      refine pw_gR C hW pc_5 (k := 8) (by decide) rfl tq_322 dX6_firstWrong_22 hF (fun av6 hF => ?_)
      refine lv_aload_n hx hb dX6_firstWrong_25 rfl (lv_at hl 1 rfl) ?_
      obtain ⟨hK, hF⟩ := ps_ck_some hF
      obtain ⟨xv7, M9, hc, hF⟩ := ps_b2_some hF
      refine ps_backI (x0 := xv7) (M' := M9) hS (ps_callV C hW pc_6 mf_X7_pullOnce tq_605 tq_606 tq_713 ⟨Nat.le_of_ble_eq_true rfl, Nat.le_of_ble_eq_true rfl⟩ rfl rfl (As := [.ref (B + a1)]) (rest := []) (c_X7_pullOnce hc) hK rfl hl.1 rfl (Nat.le_of_ble_eq_true rfl) dX6_firstWrong_26 ⟨Nat.le_of_ble_eq_true rfl, Nat.le_of_ble_eq_true rfl⟩) (fun H locs hW hS => ?_)
      clear hc
      generalize M9 = M at hW hF
      refine lv_aload_n hx hb dX6_firstWrong_29 rfl (lv_at hl 2 rfl) ?_
      refine lv_iload_n hx hb dX6_firstWrong_30 rfl (lv_at hl 3 rfl) ?_
      obtain ⟨hK, hF⟩ := ps_ck_some hF
      obtain ⟨xv8, M9, hc, hF⟩ := ps_b2_some hF
      refine ps_backI (x0 := xv8) (M' := M9) hS (ps_callV C hW pc_4 mf_X5_mark tq_460 tq_461 tq_870 ⟨Nat.le_of_ble_eq_true rfl, Nat.le_of_ble_eq_true rfl⟩ rfl rfl (As := [.int x3]) (rest := [.int xv7]) (c_X5_mark hc) hK rfl hl.1 rfl (Nat.le_of_ble_eq_true rfl) dX6_firstWrong_31 ⟨Nat.le_of_ble_eq_true rfl, Nat.le_of_ble_eq_true rfl⟩) (fun H locs hW hS => ?_)
      clear hc
      generalize M9 = M at hW hF
      refine lv_icmp_eq (tgt := 39) hx hb dX6_firstWrong_34 (by decide) (fun hv9 => ?_) (fun hv9 => ?_)
      · replace hF := (if_pos hv9).symm.trans hF
        obtain ⟨xv10, exv10, hF⟩ := ps_ve hF
        refine lv_iinc (v := xv10) (lv' := [(3, .int xv10), (0, .ref (B + a0)), (1, .ref (B + a1)), (2, .ref (B + a2))]) hx hb dX6_firstWrong_39 hl (k := 3) rfl (by rw [exv10]; rfl) (by decide) rfl (fun ls hl => ?_)
        clear exv10
        refine lv_goto (tgt := 2) hx hb dX6_firstWrong_42 (by decide) ?_
        exact hk2 M _ _ _ a0 a1 a2 xv10 hF hW hS (lv_sub hl [1, 2, 3, 0] rfl)
      · replace hF := (if_neg hv9).symm.trans hF
        exact kb_X6_firstWrong_b37 C hF hW hS (lv_sub hl [3] rfl)
theorem kb_X6_firstWrong_l2 (C : ps_C p s m args meth c cX6_firstWrong 4 RX6 ((some .int)) "firstWrong" D Y B) {q : Int32 × ps_M}  : ∀ (n : Nat) (M : ps_M) (H : Heap) (locs : List Loc) (ls : Array Slot) (a0 : Nat) (a1 : Nat) (a2 : Nat) (x3 : Int32), f_X6_firstWrong_l2 n M a0 a1 a2 x3 = some q → ps_W D Y B M H → va_S (fun q => B ≤ q) s.heap H locs → lv_has ls 4 [(0, .ref (B + a0)), (1, .ref (B + a1)), (2, .ref (B + a2)), (3, .int x3)] → W p l e rm_X6_firstWrong s m args below meth c H locs 0 0 (ps_Qi D Y B below args s 0 0 q) (F0 m 2 ls []) := by
  intro n
  induction n with
  | zero => intro M H locs ls a0 a1 a2 x3 hF; cases hF
  | succ n ih => intro M H locs ls a0 a1 a2 x3 hF hW hS hl; exact kb_X6_firstWrong_w2 C  (f_X6_firstWrong_l2 n) ih hF hW hS hl
set_option maxRecDepth 100000 in
set_option maxHeartbeats 4000000 in
theorem kb_X6_firstWrong (C : ps_C p s m args meth c cX6_firstWrong 4 RX6 ((some .int)) "firstWrong" D Y B) {q : Int32 × ps_M}  {M : ps_M} {a0 : Nat} {a1 : Nat} {a2 : Nat} (hF : f_X6_firstWrong M a0 a1 a2 = some q) (hW : ps_W D Y B M H) (hS : va_S (fun q => B ≤ q) s.heap H locs) (hl : lv_has ls 4 [(0, .ref (B + a0)), (1, .ref (B + a1)), (2, .ref (B + a2))]) : W p l e rm_X6_firstWrong s m args below meth c H locs 0 0 (ps_Qi D Y B below args s 0 0 q) (F0 m 0 ls []) := by
  have hx := C.1
  have hb := C.2.1
  have hml := C.2.2.1
  have hown := C.2.2.2.1
  have hts := C.2.2.2.2.1
  unfold f_X6_firstWrong at hF
  refine lv_iconst (v := 0) hx hb dX6_firstWrong_0 (by decide) ?_
  refine lv_istore_n (lv' := [(3, .int (0 : Int32)), (0, .ref (B + a0)), (1, .ref (B + a1)), (2, .ref (B + a2))]) hx hb dX6_firstWrong_1 rfl hl (by decide) rfl (fun ls hl => ?_)
  exact kb_X6_firstWrong_l2 C ps_fu M _ _ _ a0 a1 a2 (0 : Int32) hF hW hS (lv_sub hl [1, 2, 3, 0] rfl)
theorem mf_X6_firstWrong : ps_mf yX6_firstWrong cX6_firstWrong 4 ((some .int)) 2 := ⟨tq_869, tq_68, by decide +kernel, by decide +kernel, by decide +kernel⟩
theorem c_X6_firstWrong {l : Launch} {D : va_G} {Y : ps_A} {B : Nat} {M : ps_M} {a0 : Nat} {a1 : Nat} {a2 : Nat} {r : Int32} {M' : ps_M} (hF : f_X6_firstWrong M a0 a1 a2 = some (r, M')) : Met l yX6_firstWrong (Cond.code yX6_firstWrong cX6_firstWrong 4 ((some .int)) :: tb_G) rm_X6_firstWrong (ps_PB D Y B M [.ref (B + a0), .ref (B + a1), .ref (B + a2)]) (va_Qi (fun x (_ : Unit) => x = r) (fun _ t => ps_St D Y B M' t) (fun q => B ≤ q)) 0 0 (fun q => B ≤ q) :=
  pm_of (by decide +kernel) (Nat.le_of_ble_eq_true rfl) (fun p e s m args below meth c C hW hS ls hl => kb_X6_firstWrong C hF hW hS hl)

abbrev rm_X6_habitsThatFit : Room := { frames := 4, cells := 0, slots := 0, locals := 94 }
def f_X6_habitsThatFit_b56 (k6 : ps_M → Nat → Nat → Nat → Int32 → Int32 → Nat → Int32 → Int32 → Option (Int32 × ps_M)) (M : ps_M) (a0 : Nat) (a1 : Nat) (a2 : Nat) (x3 : Int32) (x4 : Int32) (a5 : Nat) (x6 : Int32) (x7 : Int32) : Option (Int32 × ps_M) := ps_v (x7 + 1) (fun xv1 => k6 M a0 a1 a2 x3 x4 a5 x6 xv1)
def f_X6_habitsThatFit_w6 (k6 : ps_M → Nat → Nat → Nat → Int32 → Int32 → Nat → Int32 → Int32 → Option (Int32 × ps_M)) (M : ps_M) (a0 : Nat) (a1 : Nat) (a2 : Nat) (x3 : Int32) (x4 : Int32) (a5 : Nat) (x6 : Int32) (x7 : Int32) : Option (Int32 × ps_M) := if (9 : Int32) < x7 then (some (x6, M)) else (ps_ck M a0 5 (ps_b1 (f_X6_begin M a0 a1 a2 x3 x4) (fun M => ps_gR M a0 5 8 (fun av3 => ps_gR M av3 6 10 (fun av4 => ps_b1 (f_X4_put M av4 x4 x7) (fun M => ps_ck M a0 5 (ps_b2 (f_X6_firstWrong M a0 a1 a5) (fun xv5 M => if xv5 = (-1 : Int32) then (ps_v ((x6 ||| ((1 : Int32) <<< (x7 &&& 31)))) (fun xv7 => f_X6_habitsThatFit_b56 k6 M a0 a1 a2 x3 x4 a5 xv7 x7)) else (f_X6_habitsThatFit_b56 k6 M a0 a1 a2 x3 x4 a5 x6 x7)))))))))
def f_X6_habitsThatFit_l6 : Nat → ps_M → Nat → Nat → Nat → Int32 → Int32 → Nat → Int32 → Int32 → Option (Int32 × ps_M)
  | 0, _, _, _, _, _, _, _, _, _ => none
  | n + 1, M, a0, a1, a2, x3, x4, a5, x6, x7 => f_X6_habitsThatFit_w6 (f_X6_habitsThatFit_l6 n) M a0 a1 a2 x3 x4 a5 x6 x7
def f_X6_habitsThatFit (M : ps_M) (a0 : Nat) (a1 : Nat) (a2 : Nat) (x3 : Int32) (x4 : Int32) (a5 : Nat) : Option (Int32 × ps_M) := f_X6_habitsThatFit_l6 ps_fu M a0 a1 a2 x3 x4 a5 (0 : Int32) (0 : Int32)
set_option maxRecDepth 100000 in
set_option maxHeartbeats 4000000 in
theorem kb_X6_habitsThatFit_b56 (C : ps_C p s m args meth c cX6_habitsThatFit 8 RX6 ((some .int)) "habitsThatFit" D Y B) {q : Int32 × ps_M} (k6 : ps_M → Nat → Nat → Nat → Int32 → Int32 → Nat → Int32 → Int32 → Option (Int32 × ps_M)) (hk6 : ∀ (M : ps_M) (H : Heap) (locs : List Loc) (ls : Array Slot) (a0 : Nat) (a1 : Nat) (a2 : Nat) (x3 : Int32) (x4 : Int32) (a5 : Nat) (x6 : Int32) (x7 : Int32), k6 M a0 a1 a2 x3 x4 a5 x6 x7 = some q → ps_W D Y B M H → va_S (fun q => B ≤ q) s.heap H locs → lv_has ls 8 [(0, .ref (B + a0)), (1, .ref (B + a1)), (2, .ref (B + a2)), (3, .int x3), (4, .int x4), (5, .ref (B + a5)), (6, .int x6), (7, .int x7)] → W p l e rm_X6_habitsThatFit s m args below meth c H locs 0 0 (ps_Qi D Y B below args s 0 0 q) (F0 m 6 ls [])) {M : ps_M} {a0 : Nat} {a1 : Nat} {a2 : Nat} {x3 : Int32} {x4 : Int32} {a5 : Nat} {x6 : Int32} {x7 : Int32} (hF : f_X6_habitsThatFit_b56 k6 M a0 a1 a2 x3 x4 a5 x6 x7 = some q) (hW : ps_W D Y B M H) (hS : va_S (fun q => B ≤ q) s.heap H locs) (hl : lv_has ls 8 [(0, .ref (B + a0)), (1, .ref (B + a1)), (2, .ref (B + a2)), (3, .int x3), (4, .int x4), (5, .ref (B + a5)), (6, .int x6), (7, .int x7)]) : W p l e rm_X6_habitsThatFit s m args below meth c H locs 0 0 (ps_Qi D Y B below args s 0 0 q) (F0 m 56 ls []) := by
  have hx := C.1
  have hb := C.2.1
  have hml := C.2.2.1
  have hown := C.2.2.2.1
  have hts := C.2.2.2.2.1
  unfold f_X6_habitsThatFit_b56 at hF
  obtain ⟨xv1, exv1, hF⟩ := ps_ve hF
  refine lv_iinc (v := xv1) (lv' := [(7, .int xv1), (0, .ref (B + a0)), (1, .ref (B + a1)), (2, .ref (B + a2)), (3, .int x3), (4, .int x4), (5, .ref (B + a5)), (6, .int x6)]) hx hb dX6_habitsThatFit_56 hl (k := 7) rfl (by rw [exv1]; rfl) (by decide) rfl (fun ls hl => ?_)
  clear exv1
  refine lv_goto (tgt := 6) hx hb dX6_habitsThatFit_59 (by decide) ?_
  exact hk6 M _ _ _ a0 a1 a2 x3 x4 a5 x6 xv1 hF hW hS (lv_sub hl [1, 2, 3, 4, 5, 6, 7, 0] rfl)
set_option maxRecDepth 100000 in
set_option maxHeartbeats 4000000 in
theorem kb_X6_habitsThatFit_w6 (C : ps_C p s m args meth c cX6_habitsThatFit 8 RX6 ((some .int)) "habitsThatFit" D Y B) {q : Int32 × ps_M} (k6 : ps_M → Nat → Nat → Nat → Int32 → Int32 → Nat → Int32 → Int32 → Option (Int32 × ps_M)) (hk6 : ∀ (M : ps_M) (H : Heap) (locs : List Loc) (ls : Array Slot) (a0 : Nat) (a1 : Nat) (a2 : Nat) (x3 : Int32) (x4 : Int32) (a5 : Nat) (x6 : Int32) (x7 : Int32), k6 M a0 a1 a2 x3 x4 a5 x6 x7 = some q → ps_W D Y B M H → va_S (fun q => B ≤ q) s.heap H locs → lv_has ls 8 [(0, .ref (B + a0)), (1, .ref (B + a1)), (2, .ref (B + a2)), (3, .int x3), (4, .int x4), (5, .ref (B + a5)), (6, .int x6), (7, .int x7)] → W p l e rm_X6_habitsThatFit s m args below meth c H locs 0 0 (ps_Qi D Y B below args s 0 0 q) (F0 m 6 ls [])) {M : ps_M} {a0 : Nat} {a1 : Nat} {a2 : Nat} {x3 : Int32} {x4 : Int32} {a5 : Nat} {x6 : Int32} {x7 : Int32} (hF : f_X6_habitsThatFit_w6 k6 M a0 a1 a2 x3 x4 a5 x6 x7 = some q) (hW : ps_W D Y B M H) (hS : va_S (fun q => B ≤ q) s.heap H locs) (hl : lv_has ls 8 [(0, .ref (B + a0)), (1, .ref (B + a1)), (2, .ref (B + a2)), (3, .int x3), (4, .int x4), (5, .ref (B + a5)), (6, .int x6), (7, .int x7)]) : W p l e rm_X6_habitsThatFit s m args below meth c H locs 0 0 (ps_Qi D Y B below args s 0 0 q) (F0 m 6 ls []) := by
  have hx := C.1
  have hb := C.2.1
  have hml := C.2.2.1
  have hown := C.2.2.2.1
  have hts := C.2.2.2.2.1
  unfold f_X6_habitsThatFit_w6 at hF
  refine lv_iload hx hb dX6_habitsThatFit_6 (lv_at hl 7 rfl) ?_
  refine lv_bipush (v := 9) hx hb dX6_habitsThatFit_8 (by decide) ?_
  refine lv_icmp_gt (tgt := 62) hx hb dX6_habitsThatFit_10 (by decide) (fun hv2 => ?_) (fun hv2 => ?_)
  · replace hF := (if_pos hv2).symm.trans hF
    refine lv_iload hx hb dX6_habitsThatFit_62 (lv_at hl 6 rfl) ?_
    exact pw_iret C hW hS dX6_habitsThatFit_64 hF
  · replace hF := (if_neg hv2).symm.trans hF
    refine lv_aload_n hx hb dX6_habitsThatFit_13 rfl (lv_at hl 0 rfl) ?_
    refine lv_aload_n hx hb dX6_habitsThatFit_14 rfl (lv_at hl 1 rfl) ?_
    refine lv_aload_n hx hb dX6_habitsThatFit_15 rfl (lv_at hl 2 rfl) ?_
    refine lv_iload_n hx hb dX6_habitsThatFit_16 rfl (lv_at hl 3 rfl) ?_
    refine lv_iload hx hb dX6_habitsThatFit_17 (lv_at hl 4 rfl) ?_
    obtain ⟨hK, hF⟩ := ps_ck_some hF
    obtain ⟨M9, hc, hF⟩ := ps_b1_some hF
    refine ps_backV (M' := M9) hS (ps_callV C hW pc_5 mf_X6_begin tq_736 tq_22 tq_734 ⟨Nat.le_of_ble_eq_true rfl, Nat.le_of_ble_eq_true rfl⟩ rfl rfl (As := [.ref (B + a1), .ref (B + a2), .int x3, .int x4]) (rest := []) (c_X6_begin hc) hK rfl hl.1 rfl (Nat.le_of_ble_eq_true rfl) dX6_habitsThatFit_19 ⟨Nat.le_of_ble_eq_true rfl, Nat.le_of_ble_eq_true rfl⟩) (fun H locs hW hS => ?_)
    clear hc
    generalize M9 = M at hW hF
    refine lv_aload_n hx hb dX6_habitsThatFit_22 rfl (lv_at hl 0 rfl) ?_
    refine pw_gR C hW pc_5 (k := 8) (by decide) rfl tq_322 dX6_habitsThatFit_23 hF (fun av3 hF => ?_)
    refine pw_gR C hW pc_6 (k := 10) (by decide) rfl tq_248 dX6_habitsThatFit_26 hF (fun av4 hF => ?_)
    refine lv_iload hx hb dX6_habitsThatFit_29 (lv_at hl 4 rfl) ?_
    refine lv_iload hx hb dX6_habitsThatFit_31 (lv_at hl 7 rfl) ?_
    obtain ⟨M9, hc, hF⟩ := ps_b1_some hF
    refine ps_backV (M' := M9) hS (ps_callS C hW mf_X4_put tq_440 tq_749 ⟨Nat.le_of_ble_eq_true rfl, Nat.le_of_ble_eq_true rfl⟩ rfl rfl (As := [.ref (B + av4), .int x4, .int x7]) (rest := []) (c_X4_put hc) rfl hl.1 rfl (Nat.le_of_ble_eq_true rfl) dX6_habitsThatFit_33 ⟨Nat.le_of_ble_eq_true rfl, Nat.le_of_ble_eq_true rfl⟩) (fun H locs hW hS => ?_)
    clear hc
    generalize M9 = M at hW hF
    refine lv_aload_n hx hb dX6_habitsThatFit_36 rfl (lv_at hl 0 rfl) ?_
    refine lv_aload_n hx hb dX6_habitsThatFit_37 rfl (lv_at hl 1 rfl) ?_
    refine lv_aload hx hb dX6_habitsThatFit_38 (lv_at hl 5 rfl) ?_
    obtain ⟨hK, hF⟩ := ps_ck_some hF
    obtain ⟨xv5, M9, hc, hF⟩ := ps_b2_some hF
    refine ps_backI (x0 := xv5) (M' := M9) hS (ps_callV C hW pc_5 mf_X6_firstWrong tq_868 tq_29 tq_866 ⟨Nat.le_of_ble_eq_true rfl, Nat.le_of_ble_eq_true rfl⟩ rfl rfl (As := [.ref (B + a1), .ref (B + a5)]) (rest := []) (c_X6_firstWrong hc) hK rfl hl.1 rfl (Nat.le_of_ble_eq_true rfl) dX6_habitsThatFit_40 ⟨Nat.le_of_ble_eq_true rfl, Nat.le_of_ble_eq_true rfl⟩) (fun H locs hW hS => ?_)
    clear hc
    generalize M9 = M at hW hF
    refine lv_iconst (v := -1) hx hb dX6_habitsThatFit_43 (by decide) ?_
    refine lv_icmp_ne (tgt := 56) hx hb dX6_habitsThatFit_44 (by decide) (fun hv6 => ?_) (fun hv6 => ?_)
    · replace hF := (if_neg hv6).symm.trans hF
      exact kb_X6_habitsThatFit_b56 C k6 hk6 hF hW hS (lv_sub hl [0, 1, 2, 3, 4, 5, 6, 7] rfl)
    · replace hF := (if_pos hv6).symm.trans hF
      refine lv_iload hx hb dX6_habitsThatFit_47 (lv_at hl 6 rfl) ?_
      refine lv_iconst (v := 1) hx hb dX6_habitsThatFit_49 (by decide) ?_
      refine lv_iload hx hb dX6_habitsThatFit_50 (lv_at hl 7 rfl) ?_
      refine lv_ishl hx hb dX6_habitsThatFit_52 ?_
      refine lv_ior hx hb dX6_habitsThatFit_53 ?_
      refine pw_v hF (fun xv7 hF => ?_)
      refine lv_istore (lv' := [(6, .int xv7), (0, .ref (B + a0)), (1, .ref (B + a1)), (2, .ref (B + a2)), (3, .int x3), (4, .int x4), (5, .ref (B + a5)), (7, .int x7)]) hx hb dX6_habitsThatFit_54 hl (by decide) rfl (fun ls hl => ?_)
      exact kb_X6_habitsThatFit_b56 C k6 hk6 hF hW hS (lv_sub hl [1, 2, 3, 4, 5, 6, 0, 7] rfl)
theorem kb_X6_habitsThatFit_l6 (C : ps_C p s m args meth c cX6_habitsThatFit 8 RX6 ((some .int)) "habitsThatFit" D Y B) {q : Int32 × ps_M}  : ∀ (n : Nat) (M : ps_M) (H : Heap) (locs : List Loc) (ls : Array Slot) (a0 : Nat) (a1 : Nat) (a2 : Nat) (x3 : Int32) (x4 : Int32) (a5 : Nat) (x6 : Int32) (x7 : Int32), f_X6_habitsThatFit_l6 n M a0 a1 a2 x3 x4 a5 x6 x7 = some q → ps_W D Y B M H → va_S (fun q => B ≤ q) s.heap H locs → lv_has ls 8 [(0, .ref (B + a0)), (1, .ref (B + a1)), (2, .ref (B + a2)), (3, .int x3), (4, .int x4), (5, .ref (B + a5)), (6, .int x6), (7, .int x7)] → W p l e rm_X6_habitsThatFit s m args below meth c H locs 0 0 (ps_Qi D Y B below args s 0 0 q) (F0 m 6 ls []) := by
  intro n
  induction n with
  | zero => intro M H locs ls a0 a1 a2 x3 x4 a5 x6 x7 hF; cases hF
  | succ n ih => intro M H locs ls a0 a1 a2 x3 x4 a5 x6 x7 hF hW hS hl; exact kb_X6_habitsThatFit_w6 C  (f_X6_habitsThatFit_l6 n) ih hF hW hS hl
set_option maxRecDepth 100000 in
set_option maxHeartbeats 4000000 in
theorem kb_X6_habitsThatFit (C : ps_C p s m args meth c cX6_habitsThatFit 8 RX6 ((some .int)) "habitsThatFit" D Y B) {q : Int32 × ps_M}  {M : ps_M} {a0 : Nat} {a1 : Nat} {a2 : Nat} {x3 : Int32} {x4 : Int32} {a5 : Nat} (hF : f_X6_habitsThatFit M a0 a1 a2 x3 x4 a5 = some q) (hW : ps_W D Y B M H) (hS : va_S (fun q => B ≤ q) s.heap H locs) (hl : lv_has ls 8 [(0, .ref (B + a0)), (1, .ref (B + a1)), (2, .ref (B + a2)), (3, .int x3), (4, .int x4), (5, .ref (B + a5))]) : W p l e rm_X6_habitsThatFit s m args below meth c H locs 0 0 (ps_Qi D Y B below args s 0 0 q) (F0 m 0 ls []) := by
  have hx := C.1
  have hb := C.2.1
  have hml := C.2.2.1
  have hown := C.2.2.2.1
  have hts := C.2.2.2.2.1
  unfold f_X6_habitsThatFit at hF
  refine lv_iconst (v := 0) hx hb dX6_habitsThatFit_0 (by decide) ?_
  refine lv_istore (lv' := [(6, .int (0 : Int32)), (0, .ref (B + a0)), (1, .ref (B + a1)), (2, .ref (B + a2)), (3, .int x3), (4, .int x4), (5, .ref (B + a5))]) hx hb dX6_habitsThatFit_1 hl (by decide) rfl (fun ls hl => ?_)
  refine lv_iconst (v := 0) hx hb dX6_habitsThatFit_3 (by decide) ?_
  refine lv_istore (lv' := [(7, .int (0 : Int32)), (6, .int (0 : Int32)), (0, .ref (B + a0)), (1, .ref (B + a1)), (2, .ref (B + a2)), (3, .int x3), (4, .int x4), (5, .ref (B + a5))]) hx hb dX6_habitsThatFit_4 hl (by decide) rfl (fun ls hl => ?_)
  exact kb_X6_habitsThatFit_l6 C ps_fu M _ _ _ a0 a1 a2 x3 x4 a5 (0 : Int32) (0 : Int32) hF hW hS (lv_sub hl [2, 3, 4, 5, 6, 7, 1, 0] rfl)
theorem mf_X6_habitsThatFit : ps_mf yX6_habitsThatFit cX6_habitsThatFit 8 ((some .int)) 5 := ⟨tq_865, tq_68, by decide +kernel, by decide +kernel, by decide +kernel⟩
theorem c_X6_habitsThatFit {l : Launch} {D : va_G} {Y : ps_A} {B : Nat} {M : ps_M} {a0 : Nat} {a1 : Nat} {a2 : Nat} {x3 : Int32} {x4 : Int32} {a5 : Nat} {r : Int32} {M' : ps_M} (hF : f_X6_habitsThatFit M a0 a1 a2 x3 x4 a5 = some (r, M')) : Met l yX6_habitsThatFit (Cond.code yX6_habitsThatFit cX6_habitsThatFit 8 ((some .int)) :: tb_G) rm_X6_habitsThatFit (ps_PB D Y B M [.ref (B + a0), .ref (B + a1), .ref (B + a2), .int x3, .int x4, .ref (B + a5)]) (va_Qi (fun x (_ : Unit) => x = r) (fun _ t => ps_St D Y B M' t) (fun q => B ≤ q)) 0 0 (fun q => B ≤ q) :=
  pm_of (by decide +kernel) (Nat.le_of_ble_eq_true rfl) (fun p e s m args below meth c C hW hS ls hl => kb_X6_habitsThatFit C hF hW hS hl)

abbrev rm_X6_fits : Room := { frames := 4, cells := 0, slots := 0, locals := 94 }
def f_X6_fits_b25 (M : ps_M) (t0 : Int32) : Option (Int32 × ps_M) := ps_z t0 M
def f_X6_fits (M : ps_M) (a0 : Nat) (a1 : Nat) (a2 : Nat) (x3 : Int32) (x4 : Int32) (a5 : Nat) : Option (Int32 × ps_M) := ps_ck M a0 5 (ps_b1 (f_X6_begin M a0 a1 a2 x3 x4) (fun M => ps_ck M a0 5 (ps_b2 (f_X6_firstWrong M a0 a1 a5) (fun xv1 M => if xv1 = (-1 : Int32) then (f_X6_fits_b25 M (1 : Int32)) else (f_X6_fits_b25 M (0 : Int32))))))
set_option maxRecDepth 100000 in
set_option maxHeartbeats 4000000 in
theorem kb_X6_fits_b25 (C : ps_C p s m args meth c cX6_fits 6 RX6 ((some .boolean)) "fits" D Y B) {q : Int32 × ps_M}  {M : ps_M} {t0 : Int32} (hF : f_X6_fits_b25 M t0 = some q) (hW : ps_W D Y B M H) (hS : va_S (fun q => B ≤ q) s.heap H locs) (hl : lv_has ls 6 []) : W p l e rm_X6_fits s m args below meth c H locs 0 0 (ps_Qi D Y B below args s 0 0 q) (F0 m 25 ls [.int t0]) := by
  have hx := C.1
  have hb := C.2.1
  have hml := C.2.2.1
  have hown := C.2.2.2.1
  have hts := C.2.2.2.2.1
  unfold f_X6_fits_b25 at hF
  exact pw_zret C hW hS dX6_fits_25 hF
set_option maxRecDepth 100000 in
set_option maxHeartbeats 4000000 in
theorem kb_X6_fits (C : ps_C p s m args meth c cX6_fits 6 RX6 ((some .boolean)) "fits" D Y B) {q : Int32 × ps_M}  {M : ps_M} {a0 : Nat} {a1 : Nat} {a2 : Nat} {x3 : Int32} {x4 : Int32} {a5 : Nat} (hF : f_X6_fits M a0 a1 a2 x3 x4 a5 = some q) (hW : ps_W D Y B M H) (hS : va_S (fun q => B ≤ q) s.heap H locs) (hl : lv_has ls 6 [(0, .ref (B + a0)), (1, .ref (B + a1)), (2, .ref (B + a2)), (3, .int x3), (4, .int x4), (5, .ref (B + a5))]) : W p l e rm_X6_fits s m args below meth c H locs 0 0 (ps_Qi D Y B below args s 0 0 q) (F0 m 0 ls []) := by
  have hx := C.1
  have hb := C.2.1
  have hml := C.2.2.1
  have hown := C.2.2.2.1
  have hts := C.2.2.2.2.1
  unfold f_X6_fits at hF
  refine lv_aload_n hx hb dX6_fits_0 rfl (lv_at hl 0 rfl) ?_
  refine lv_aload_n hx hb dX6_fits_1 rfl (lv_at hl 1 rfl) ?_
  refine lv_aload_n hx hb dX6_fits_2 rfl (lv_at hl 2 rfl) ?_
  refine lv_iload_n hx hb dX6_fits_3 rfl (lv_at hl 3 rfl) ?_
  refine lv_iload hx hb dX6_fits_4 (lv_at hl 4 rfl) ?_
  obtain ⟨hK, hF⟩ := ps_ck_some hF
  obtain ⟨M9, hc, hF⟩ := ps_b1_some hF
  refine ps_backV (M' := M9) hS (ps_callV C hW pc_5 mf_X6_begin tq_736 tq_22 tq_734 ⟨Nat.le_of_ble_eq_true rfl, Nat.le_of_ble_eq_true rfl⟩ rfl rfl (As := [.ref (B + a1), .ref (B + a2), .int x3, .int x4]) (rest := []) (c_X6_begin hc) hK rfl hl.1 rfl (Nat.le_of_ble_eq_true rfl) dX6_fits_6 ⟨Nat.le_of_ble_eq_true rfl, Nat.le_of_ble_eq_true rfl⟩) (fun H locs hW hS => ?_)
  clear hc
  generalize M9 = M at hW hF
  refine lv_aload_n hx hb dX6_fits_9 rfl (lv_at hl 0 rfl) ?_
  refine lv_aload_n hx hb dX6_fits_10 rfl (lv_at hl 1 rfl) ?_
  refine lv_aload hx hb dX6_fits_11 (lv_at hl 5 rfl) ?_
  obtain ⟨hK, hF⟩ := ps_ck_some hF
  obtain ⟨xv1, M9, hc, hF⟩ := ps_b2_some hF
  refine ps_backI (x0 := xv1) (M' := M9) hS (ps_callV C hW pc_5 mf_X6_firstWrong tq_868 tq_29 tq_866 ⟨Nat.le_of_ble_eq_true rfl, Nat.le_of_ble_eq_true rfl⟩ rfl rfl (As := [.ref (B + a1), .ref (B + a5)]) (rest := []) (c_X6_firstWrong hc) hK rfl hl.1 rfl (Nat.le_of_ble_eq_true rfl) dX6_fits_13 ⟨Nat.le_of_ble_eq_true rfl, Nat.le_of_ble_eq_true rfl⟩) (fun H locs hW hS => ?_)
  clear hc
  generalize M9 = M at hW hF
  refine lv_iconst (v := -1) hx hb dX6_fits_16 (by decide) ?_
  refine lv_icmp_ne (tgt := 24) hx hb dX6_fits_17 (by decide) (fun hv2 => ?_) (fun hv2 => ?_)
  · replace hF := (if_neg hv2).symm.trans hF
    refine lv_iconst (v := 0) hx hb dX6_fits_24 (by decide) ?_
    exact kb_X6_fits_b25 C hF hW hS (lv_sub hl [] rfl)
  · replace hF := (if_pos hv2).symm.trans hF
    refine lv_iconst (v := 1) hx hb dX6_fits_20 (by decide) ?_
    refine lv_goto (tgt := 25) hx hb dX6_fits_21 (by decide) ?_
    exact kb_X6_fits_b25 C hF hW hS (lv_sub hl [] rfl)
theorem mf_X6_fits : ps_mf yX6_fits cX6_fits 6 ((some .boolean)) 5 := ⟨tq_882, tq_68, by decide +kernel, by decide +kernel, by decide +kernel⟩
theorem c_X6_fits {l : Launch} {D : va_G} {Y : ps_A} {B : Nat} {M : ps_M} {a0 : Nat} {a1 : Nat} {a2 : Nat} {x3 : Int32} {x4 : Int32} {a5 : Nat} {r : Int32} {M' : ps_M} (hF : f_X6_fits M a0 a1 a2 x3 x4 a5 = some (r, M')) : Met l yX6_fits (Cond.code yX6_fits cX6_fits 6 ((some .boolean)) :: tb_G) rm_X6_fits (ps_PB D Y B M [.ref (B + a0), .ref (B + a1), .ref (B + a2), .int x3, .int x4, .ref (B + a5)]) (va_Qi (fun x (_ : Unit) => x = r) (fun _ t => ps_St D Y B M' t) (fun q => B ≤ q)) 0 0 (fun q => B ≤ q) :=
  pm_of (by decide +kernel) (Nat.le_of_ble_eq_true rfl) (fun p e s m args below meth c C hW hS ls hl => kb_X6_fits C hF hW hS hl)

abbrev rm_X6_pairThatFits : Room := { frames := 5, cells := 0, slots := 0, locals := 119 }
def f_X6_pairThatFits_b67 (k6 : ps_M → Nat → Nat → Nat → Nat → Int32 → Int32 → Int32 → Option (Int32 × ps_M)) (k18 : ps_M → Nat → Nat → Nat → Nat → Int32 → Int32 → Int32 → Int32 → Option (Int32 × ps_M)) (M : ps_M) (a0 : Nat) (a1 : Nat) (a2 : Nat) (a3 : Nat) (x4 : Int32) (x5 : Int32) (x6 : Int32) (x7 : Int32) : Option (Int32 × ps_M) := ps_v (x7 + 1) (fun xv1 => k18 M a0 a1 a2 a3 x4 x5 x6 xv1)
def f_X6_pairThatFits_w18 (k6 : ps_M → Nat → Nat → Nat → Nat → Int32 → Int32 → Int32 → Option (Int32 × ps_M)) (k18 : ps_M → Nat → Nat → Nat → Nat → Int32 → Int32 → Int32 → Int32 → Option (Int32 × ps_M)) (M : ps_M) (a0 : Nat) (a1 : Nat) (a2 : Nat) (a3 : Nat) (x4 : Int32) (x5 : Int32) (x6 : Int32) (x7 : Int32) : Option (Int32 × ps_M) := ps_gI M a1 7 1 (fun xv2 => if xv2 ≤ x7 then (ps_v (x6 + 1) (fun xv4 => k6 M a0 a1 a2 a3 x4 x5 xv4)) else (if x6 = x7 then (f_X6_pairThatFits_b67 k6 k18 M a0 a1 a2 a3 x4 x5 x6 x7) else (ps_ck M a0 5 (ps_b2 (f_X6_fits M a0 a1 a2 x6 x7 a3) (fun xv6 M => if xv6 = 0 then (f_X6_pairThatFits_b67 k6 k18 M a0 a1 a2 a3 x4 x5 x6 x7) else (if x5 = x4 then (some ((((10 : Int32) * x6) + x7), M)) else (ps_v (x5 + 1) (fun xv9 => f_X6_pairThatFits_b67 k6 k18 M a0 a1 a2 a3 x4 xv9 x6 x7))))))))
def f_X6_pairThatFits_l18 (k6 : ps_M → Nat → Nat → Nat → Nat → Int32 → Int32 → Int32 → Option (Int32 × ps_M)) : Nat → ps_M → Nat → Nat → Nat → Nat → Int32 → Int32 → Int32 → Int32 → Option (Int32 × ps_M)
  | 0, _, _, _, _, _, _, _, _, _ => none
  | n + 1, M, a0, a1, a2, a3, x4, x5, x6, x7 => f_X6_pairThatFits_w18 k6 (f_X6_pairThatFits_l18 k6 n) M a0 a1 a2 a3 x4 x5 x6 x7
def f_X6_pairThatFits_b91 (M : ps_M) (t0 : Int32) : Option (Int32 × ps_M) := some (t0, M)
def f_X6_pairThatFits_w6 (k6 : ps_M → Nat → Nat → Nat → Nat → Int32 → Int32 → Int32 → Option (Int32 × ps_M)) (M : ps_M) (a0 : Nat) (a1 : Nat) (a2 : Nat) (a3 : Nat) (x4 : Int32) (x5 : Int32) (x6 : Int32) : Option (Int32 × ps_M) := ps_gI M a1 7 1 (fun xv10 => if xv10 ≤ x6 then (if x4 = (-1 : Int32) then (f_X6_pairThatFits_b91 M x5) else (f_X6_pairThatFits_b91 M (-1 : Int32))) else (f_X6_pairThatFits_l18 k6 ps_fu M a0 a1 a2 a3 x4 x5 x6 (0 : Int32)))
def f_X6_pairThatFits_l6 : Nat → ps_M → Nat → Nat → Nat → Nat → Int32 → Int32 → Int32 → Option (Int32 × ps_M)
  | 0, _, _, _, _, _, _, _, _ => none
  | n + 1, M, a0, a1, a2, a3, x4, x5, x6 => f_X6_pairThatFits_w6 (f_X6_pairThatFits_l6 n) M a0 a1 a2 a3 x4 x5 x6
def f_X6_pairThatFits (M : ps_M) (a0 : Nat) (a1 : Nat) (a2 : Nat) (a3 : Nat) (x4 : Int32) : Option (Int32 × ps_M) := f_X6_pairThatFits_l6 ps_fu M a0 a1 a2 a3 x4 (0 : Int32) (0 : Int32)
set_option maxRecDepth 100000 in
set_option maxHeartbeats 4000000 in
theorem kb_X6_pairThatFits_b67 (C : ps_C p s m args meth c cX6_pairThatFits 8 RX6 ((some .int)) "pairThatFits" D Y B) {q : Int32 × ps_M} (k6 : ps_M → Nat → Nat → Nat → Nat → Int32 → Int32 → Int32 → Option (Int32 × ps_M)) (hk6 : ∀ (M : ps_M) (H : Heap) (locs : List Loc) (ls : Array Slot) (a0 : Nat) (a1 : Nat) (a2 : Nat) (a3 : Nat) (x4 : Int32) (x5 : Int32) (x6 : Int32), k6 M a0 a1 a2 a3 x4 x5 x6 = some q → ps_W D Y B M H → va_S (fun q => B ≤ q) s.heap H locs → lv_has ls 8 [(0, .ref (B + a0)), (1, .ref (B + a1)), (2, .ref (B + a2)), (3, .ref (B + a3)), (4, .int x4), (5, .int x5), (6, .int x6)] → W p l e rm_X6_pairThatFits s m args below meth c H locs 0 0 (ps_Qi D Y B below args s 0 0 q) (F0 m 6 ls [])) (k18 : ps_M → Nat → Nat → Nat → Nat → Int32 → Int32 → Int32 → Int32 → Option (Int32 × ps_M)) (hk18 : ∀ (M : ps_M) (H : Heap) (locs : List Loc) (ls : Array Slot) (a0 : Nat) (a1 : Nat) (a2 : Nat) (a3 : Nat) (x4 : Int32) (x5 : Int32) (x6 : Int32) (x7 : Int32), k18 M a0 a1 a2 a3 x4 x5 x6 x7 = some q → ps_W D Y B M H → va_S (fun q => B ≤ q) s.heap H locs → lv_has ls 8 [(0, .ref (B + a0)), (1, .ref (B + a1)), (2, .ref (B + a2)), (3, .ref (B + a3)), (4, .int x4), (5, .int x5), (6, .int x6), (7, .int x7)] → W p l e rm_X6_pairThatFits s m args below meth c H locs 0 0 (ps_Qi D Y B below args s 0 0 q) (F0 m 18 ls [])) {M : ps_M} {a0 : Nat} {a1 : Nat} {a2 : Nat} {a3 : Nat} {x4 : Int32} {x5 : Int32} {x6 : Int32} {x7 : Int32} (hF : f_X6_pairThatFits_b67 k6 k18 M a0 a1 a2 a3 x4 x5 x6 x7 = some q) (hW : ps_W D Y B M H) (hS : va_S (fun q => B ≤ q) s.heap H locs) (hl : lv_has ls 8 [(0, .ref (B + a0)), (1, .ref (B + a1)), (2, .ref (B + a2)), (3, .ref (B + a3)), (4, .int x4), (5, .int x5), (6, .int x6), (7, .int x7)]) : W p l e rm_X6_pairThatFits s m args below meth c H locs 0 0 (ps_Qi D Y B below args s 0 0 q) (F0 m 67 ls []) := by
  have hx := C.1
  have hb := C.2.1
  have hml := C.2.2.1
  have hown := C.2.2.2.1
  have hts := C.2.2.2.2.1
  unfold f_X6_pairThatFits_b67 at hF
  obtain ⟨xv1, exv1, hF⟩ := ps_ve hF
  refine lv_iinc (v := xv1) (lv' := [(7, .int xv1), (0, .ref (B + a0)), (1, .ref (B + a1)), (2, .ref (B + a2)), (3, .ref (B + a3)), (4, .int x4), (5, .int x5), (6, .int x6)]) hx hb dX6_pairThatFits_67 hl (k := 7) rfl (by rw [exv1]; rfl) (by decide) rfl (fun ls hl => ?_)
  clear exv1
  refine lv_goto (tgt := 18) hx hb dX6_pairThatFits_70 (by decide) ?_
  exact hk18 M _ _ _ a0 a1 a2 a3 x4 x5 x6 xv1 hF hW hS (lv_sub hl [1, 2, 3, 4, 5, 6, 7, 0] rfl)
set_option maxRecDepth 100000 in
set_option maxHeartbeats 4000000 in
theorem kb_X6_pairThatFits_w18 (C : ps_C p s m args meth c cX6_pairThatFits 8 RX6 ((some .int)) "pairThatFits" D Y B) {q : Int32 × ps_M} (k6 : ps_M → Nat → Nat → Nat → Nat → Int32 → Int32 → Int32 → Option (Int32 × ps_M)) (hk6 : ∀ (M : ps_M) (H : Heap) (locs : List Loc) (ls : Array Slot) (a0 : Nat) (a1 : Nat) (a2 : Nat) (a3 : Nat) (x4 : Int32) (x5 : Int32) (x6 : Int32), k6 M a0 a1 a2 a3 x4 x5 x6 = some q → ps_W D Y B M H → va_S (fun q => B ≤ q) s.heap H locs → lv_has ls 8 [(0, .ref (B + a0)), (1, .ref (B + a1)), (2, .ref (B + a2)), (3, .ref (B + a3)), (4, .int x4), (5, .int x5), (6, .int x6)] → W p l e rm_X6_pairThatFits s m args below meth c H locs 0 0 (ps_Qi D Y B below args s 0 0 q) (F0 m 6 ls [])) (k18 : ps_M → Nat → Nat → Nat → Nat → Int32 → Int32 → Int32 → Int32 → Option (Int32 × ps_M)) (hk18 : ∀ (M : ps_M) (H : Heap) (locs : List Loc) (ls : Array Slot) (a0 : Nat) (a1 : Nat) (a2 : Nat) (a3 : Nat) (x4 : Int32) (x5 : Int32) (x6 : Int32) (x7 : Int32), k18 M a0 a1 a2 a3 x4 x5 x6 x7 = some q → ps_W D Y B M H → va_S (fun q => B ≤ q) s.heap H locs → lv_has ls 8 [(0, .ref (B + a0)), (1, .ref (B + a1)), (2, .ref (B + a2)), (3, .ref (B + a3)), (4, .int x4), (5, .int x5), (6, .int x6), (7, .int x7)] → W p l e rm_X6_pairThatFits s m args below meth c H locs 0 0 (ps_Qi D Y B below args s 0 0 q) (F0 m 18 ls [])) {M : ps_M} {a0 : Nat} {a1 : Nat} {a2 : Nat} {a3 : Nat} {x4 : Int32} {x5 : Int32} {x6 : Int32} {x7 : Int32} (hF : f_X6_pairThatFits_w18 k6 k18 M a0 a1 a2 a3 x4 x5 x6 x7 = some q) (hW : ps_W D Y B M H) (hS : va_S (fun q => B ≤ q) s.heap H locs) (hl : lv_has ls 8 [(0, .ref (B + a0)), (1, .ref (B + a1)), (2, .ref (B + a2)), (3, .ref (B + a3)), (4, .int x4), (5, .int x5), (6, .int x6), (7, .int x7)]) : W p l e rm_X6_pairThatFits s m args below meth c H locs 0 0 (ps_Qi D Y B below args s 0 0 q) (F0 m 18 ls []) := by
  have hx := C.1
  have hb := C.2.1
  have hml := C.2.2.1
  have hown := C.2.2.2.1
  have hts := C.2.2.2.2.1
  unfold f_X6_pairThatFits_w18 at hF
  refine lv_iload hx hb dX6_pairThatFits_18 (lv_at hl 7 rfl) ?_
  refine lv_aload_n hx hb dX6_pairThatFits_20 rfl (lv_at hl 1 rfl) ?_
  refine pw_gI C hW pc_7 (k := 1) (by decide) rfl tq_95 dX6_pairThatFits_21 hF (fun xv2 hF => ?_)
  refine lv_icmp_ge (tgt := 73) hx hb dX6_pairThatFits_24 (by decide) (fun hv3 => ?_) (fun hv3 => ?_)
  · replace hF := (if_pos hv3).symm.trans hF
    obtain ⟨xv4, exv4, hF⟩ := ps_ve hF
    refine lv_iinc (v := xv4) (lv' := [(6, .int xv4), (0, .ref (B + a0)), (1, .ref (B + a1)), (2, .ref (B + a2)), (3, .ref (B + a3)), (4, .int x4), (5, .int x5), (7, .int x7)]) hx hb dX6_pairThatFits_73 hl (k := 6) rfl (by rw [exv4]; rfl) (by decide) rfl (fun ls hl => ?_)
    clear exv4
    refine lv_goto (tgt := 6) hx hb dX6_pairThatFits_76 (by decide) ?_
    exact hk6 M _ _ _ a0 a1 a2 a3 x4 x5 xv4 hF hW hS (lv_sub hl [1, 2, 3, 4, 5, 6, 0] rfl)
  · replace hF := (if_neg hv3).symm.trans hF
    refine lv_iload hx hb dX6_pairThatFits_27 (lv_at hl 6 rfl) ?_
    refine lv_iload hx hb dX6_pairThatFits_29 (lv_at hl 7 rfl) ?_
    refine lv_icmp_eq (tgt := 67) hx hb dX6_pairThatFits_31 (by decide) (fun hv5 => ?_) (fun hv5 => ?_)
    · replace hF := (if_pos hv5).symm.trans hF
      exact kb_X6_pairThatFits_b67 C k6 hk6 k18 hk18 hF hW hS (lv_sub hl [0, 1, 2, 3, 4, 5, 6, 7] rfl)
    · replace hF := (if_neg hv5).symm.trans hF
      refine lv_aload_n hx hb dX6_pairThatFits_34 rfl (lv_at hl 0 rfl) ?_
      refine lv_aload_n hx hb dX6_pairThatFits_35 rfl (lv_at hl 1 rfl) ?_
      refine lv_aload_n hx hb dX6_pairThatFits_36 rfl (lv_at hl 2 rfl) ?_
      refine lv_iload hx hb dX6_pairThatFits_37 (lv_at hl 6 rfl) ?_
      refine lv_iload hx hb dX6_pairThatFits_39 (lv_at hl 7 rfl) ?_
      refine lv_aload_n hx hb dX6_pairThatFits_41 rfl (lv_at hl 3 rfl) ?_
      obtain ⟨hK, hF⟩ := ps_ck_some hF
      obtain ⟨xv6, M9, hc, hF⟩ := ps_b2_some hF
      refine ps_backI (x0 := xv6) (M' := M9) hS (ps_callV C hW pc_5 mf_X6_fits tq_881 tq_30 tq_879 ⟨Nat.le_of_ble_eq_true rfl, Nat.le_of_ble_eq_true rfl⟩ rfl rfl (As := [.ref (B + a1), .ref (B + a2), .int x6, .int x7, .ref (B + a3)]) (rest := []) (c_X6_fits hc) hK rfl hl.1 rfl (Nat.le_of_ble_eq_true rfl) dX6_pairThatFits_42 ⟨Nat.le_of_ble_eq_true rfl, Nat.le_of_ble_eq_true rfl⟩) (fun H locs hW hS => ?_)
      clear hc
      generalize M9 = M at hW hF
      refine lv_if_eq (tgt := 67) hx hb dX6_pairThatFits_45 (by decide) (fun hv7 => ?_) (fun hv7 => ?_)
      · replace hF := (if_pos hv7).symm.trans hF
        exact kb_X6_pairThatFits_b67 C k6 hk6 k18 hk18 hF hW hS (lv_sub hl [0, 1, 2, 3, 4, 5, 6, 7] rfl)
      · replace hF := (if_neg hv7).symm.trans hF
        refine lv_iload hx hb dX6_pairThatFits_48 (lv_at hl 5 rfl) ?_
        refine lv_iload hx hb dX6_pairThatFits_50 (lv_at hl 4 rfl) ?_
        refine lv_icmp_ne (tgt := 64) hx hb dX6_pairThatFits_52 (by decide) (fun hv8 => ?_) (fun hv8 => ?_)
        · replace hF := (if_neg hv8).symm.trans hF
          obtain ⟨xv9, exv9, hF⟩ := ps_ve hF
          refine lv_iinc (v := xv9) (lv' := [(5, .int xv9), (0, .ref (B + a0)), (1, .ref (B + a1)), (2, .ref (B + a2)), (3, .ref (B + a3)), (4, .int x4), (6, .int x6), (7, .int x7)]) hx hb dX6_pairThatFits_64 hl (k := 5) rfl (by rw [exv9]; rfl) (by decide) rfl (fun ls hl => ?_)
          clear exv9
          exact kb_X6_pairThatFits_b67 C k6 hk6 k18 hk18 hF hW hS (lv_sub hl [1, 2, 3, 4, 5, 0, 6, 7] rfl)
        · replace hF := (if_pos hv8).symm.trans hF
          refine lv_bipush (v := 10) hx hb dX6_pairThatFits_55 (by decide) ?_
          refine lv_iload hx hb dX6_pairThatFits_57 (lv_at hl 6 rfl) ?_
          refine lv_imul hx hb dX6_pairThatFits_59 ?_
          refine lv_iload hx hb dX6_pairThatFits_60 (lv_at hl 7 rfl) ?_
          refine lv_iadd hx hb dX6_pairThatFits_62 ?_
          exact pw_iret C hW hS dX6_pairThatFits_63 hF
theorem kb_X6_pairThatFits_l18 (C : ps_C p s m args meth c cX6_pairThatFits 8 RX6 ((some .int)) "pairThatFits" D Y B) {q : Int32 × ps_M} (k6 : ps_M → Nat → Nat → Nat → Nat → Int32 → Int32 → Int32 → Option (Int32 × ps_M)) (hk6 : ∀ (M : ps_M) (H : Heap) (locs : List Loc) (ls : Array Slot) (a0 : Nat) (a1 : Nat) (a2 : Nat) (a3 : Nat) (x4 : Int32) (x5 : Int32) (x6 : Int32), k6 M a0 a1 a2 a3 x4 x5 x6 = some q → ps_W D Y B M H → va_S (fun q => B ≤ q) s.heap H locs → lv_has ls 8 [(0, .ref (B + a0)), (1, .ref (B + a1)), (2, .ref (B + a2)), (3, .ref (B + a3)), (4, .int x4), (5, .int x5), (6, .int x6)] → W p l e rm_X6_pairThatFits s m args below meth c H locs 0 0 (ps_Qi D Y B below args s 0 0 q) (F0 m 6 ls [])) : ∀ (n : Nat) (M : ps_M) (H : Heap) (locs : List Loc) (ls : Array Slot) (a0 : Nat) (a1 : Nat) (a2 : Nat) (a3 : Nat) (x4 : Int32) (x5 : Int32) (x6 : Int32) (x7 : Int32), f_X6_pairThatFits_l18 k6 n M a0 a1 a2 a3 x4 x5 x6 x7 = some q → ps_W D Y B M H → va_S (fun q => B ≤ q) s.heap H locs → lv_has ls 8 [(0, .ref (B + a0)), (1, .ref (B + a1)), (2, .ref (B + a2)), (3, .ref (B + a3)), (4, .int x4), (5, .int x5), (6, .int x6), (7, .int x7)] → W p l e rm_X6_pairThatFits s m args below meth c H locs 0 0 (ps_Qi D Y B below args s 0 0 q) (F0 m 18 ls []) := by
  intro n
  induction n with
  | zero => intro M H locs ls a0 a1 a2 a3 x4 x5 x6 x7 hF; cases hF
  | succ n ih => intro M H locs ls a0 a1 a2 a3 x4 x5 x6 x7 hF hW hS hl; exact kb_X6_pairThatFits_w18 C k6 hk6 (f_X6_pairThatFits_l18 k6 n) ih hF hW hS hl
set_option maxRecDepth 100000 in
set_option maxHeartbeats 4000000 in
theorem kb_X6_pairThatFits_b91 (C : ps_C p s m args meth c cX6_pairThatFits 8 RX6 ((some .int)) "pairThatFits" D Y B) {q : Int32 × ps_M}  {M : ps_M} {t0 : Int32} (hF : f_X6_pairThatFits_b91 M t0 = some q) (hW : ps_W D Y B M H) (hS : va_S (fun q => B ≤ q) s.heap H locs) (hl : lv_has ls 8 []) : W p l e rm_X6_pairThatFits s m args below meth c H locs 0 0 (ps_Qi D Y B below args s 0 0 q) (F0 m 91 ls [.int t0]) := by
  have hx := C.1
  have hb := C.2.1
  have hml := C.2.2.1
  have hown := C.2.2.2.1
  have hts := C.2.2.2.2.1
  unfold f_X6_pairThatFits_b91 at hF
  exact pw_iret C hW hS dX6_pairThatFits_91 hF
set_option maxRecDepth 100000 in
set_option maxHeartbeats 4000000 in
theorem kb_X6_pairThatFits_w6 (C : ps_C p s m args meth c cX6_pairThatFits 8 RX6 ((some .int)) "pairThatFits" D Y B) {q : Int32 × ps_M} (k6 : ps_M → Nat → Nat → Nat → Nat → Int32 → Int32 → Int32 → Option (Int32 × ps_M)) (hk6 : ∀ (M : ps_M) (H : Heap) (locs : List Loc) (ls : Array Slot) (a0 : Nat) (a1 : Nat) (a2 : Nat) (a3 : Nat) (x4 : Int32) (x5 : Int32) (x6 : Int32), k6 M a0 a1 a2 a3 x4 x5 x6 = some q → ps_W D Y B M H → va_S (fun q => B ≤ q) s.heap H locs → lv_has ls 8 [(0, .ref (B + a0)), (1, .ref (B + a1)), (2, .ref (B + a2)), (3, .ref (B + a3)), (4, .int x4), (5, .int x5), (6, .int x6)] → W p l e rm_X6_pairThatFits s m args below meth c H locs 0 0 (ps_Qi D Y B below args s 0 0 q) (F0 m 6 ls [])) {M : ps_M} {a0 : Nat} {a1 : Nat} {a2 : Nat} {a3 : Nat} {x4 : Int32} {x5 : Int32} {x6 : Int32} (hF : f_X6_pairThatFits_w6 k6 M a0 a1 a2 a3 x4 x5 x6 = some q) (hW : ps_W D Y B M H) (hS : va_S (fun q => B ≤ q) s.heap H locs) (hl : lv_has ls 8 [(0, .ref (B + a0)), (1, .ref (B + a1)), (2, .ref (B + a2)), (3, .ref (B + a3)), (4, .int x4), (5, .int x5), (6, .int x6)]) : W p l e rm_X6_pairThatFits s m args below meth c H locs 0 0 (ps_Qi D Y B below args s 0 0 q) (F0 m 6 ls []) := by
  have hx := C.1
  have hb := C.2.1
  have hml := C.2.2.1
  have hown := C.2.2.2.1
  have hts := C.2.2.2.2.1
  unfold f_X6_pairThatFits_w6 at hF
  refine lv_iload hx hb dX6_pairThatFits_6 (lv_at hl 6 rfl) ?_
  refine lv_aload_n hx hb dX6_pairThatFits_8 rfl (lv_at hl 1 rfl) ?_
  refine pw_gI C hW pc_7 (k := 1) (by decide) rfl tq_95 dX6_pairThatFits_9 hF (fun xv10 hF => ?_)
  refine lv_icmp_ge (tgt := 79) hx hb dX6_pairThatFits_12 (by decide) (fun hv11 => ?_) (fun hv11 => ?_)
  · replace hF := (if_pos hv11).symm.trans hF
    refine lv_iload hx hb dX6_pairThatFits_79 (lv_at hl 4 rfl) ?_
    refine lv_iconst (v := -1) hx hb dX6_pairThatFits_81 (by decide) ?_
    refine lv_icmp_ne (tgt := 90) hx hb dX6_pairThatFits_82 (by decide) (fun hv12 => ?_) (fun hv12 => ?_)
    · replace hF := (if_neg hv12).symm.trans hF
      refine lv_iconst (v := -1) hx hb dX6_pairThatFits_90 (by decide) ?_
      exact kb_X6_pairThatFits_b91 C hF hW hS (lv_sub hl [] rfl)
    · replace hF := (if_pos hv12).symm.trans hF
      refine lv_iload hx hb dX6_pairThatFits_85 (lv_at hl 5 rfl) ?_
      refine lv_goto (tgt := 91) hx hb dX6_pairThatFits_87 (by decide) ?_
      exact kb_X6_pairThatFits_b91 C hF hW hS (lv_sub hl [] rfl)
  · replace hF := (if_neg hv11).symm.trans hF
    refine lv_iconst (v := 0) hx hb dX6_pairThatFits_15 (by decide) ?_
    refine lv_istore (lv' := [(7, .int (0 : Int32)), (0, .ref (B + a0)), (1, .ref (B + a1)), (2, .ref (B + a2)), (3, .ref (B + a3)), (4, .int x4), (5, .int x5), (6, .int x6)]) hx hb dX6_pairThatFits_16 hl (by decide) rfl (fun ls hl => ?_)
    exact kb_X6_pairThatFits_l18 C k6 hk6 ps_fu M _ _ _ a0 a1 a2 a3 x4 x5 x6 (0 : Int32) hF hW hS (lv_sub hl [1, 2, 3, 4, 5, 6, 7, 0] rfl)
theorem kb_X6_pairThatFits_l6 (C : ps_C p s m args meth c cX6_pairThatFits 8 RX6 ((some .int)) "pairThatFits" D Y B) {q : Int32 × ps_M}  : ∀ (n : Nat) (M : ps_M) (H : Heap) (locs : List Loc) (ls : Array Slot) (a0 : Nat) (a1 : Nat) (a2 : Nat) (a3 : Nat) (x4 : Int32) (x5 : Int32) (x6 : Int32), f_X6_pairThatFits_l6 n M a0 a1 a2 a3 x4 x5 x6 = some q → ps_W D Y B M H → va_S (fun q => B ≤ q) s.heap H locs → lv_has ls 8 [(0, .ref (B + a0)), (1, .ref (B + a1)), (2, .ref (B + a2)), (3, .ref (B + a3)), (4, .int x4), (5, .int x5), (6, .int x6)] → W p l e rm_X6_pairThatFits s m args below meth c H locs 0 0 (ps_Qi D Y B below args s 0 0 q) (F0 m 6 ls []) := by
  intro n
  induction n with
  | zero => intro M H locs ls a0 a1 a2 a3 x4 x5 x6 hF; cases hF
  | succ n ih => intro M H locs ls a0 a1 a2 a3 x4 x5 x6 hF hW hS hl; exact kb_X6_pairThatFits_w6 C  (f_X6_pairThatFits_l6 n) ih hF hW hS hl
set_option maxRecDepth 100000 in
set_option maxHeartbeats 4000000 in
theorem kb_X6_pairThatFits (C : ps_C p s m args meth c cX6_pairThatFits 8 RX6 ((some .int)) "pairThatFits" D Y B) {q : Int32 × ps_M}  {M : ps_M} {a0 : Nat} {a1 : Nat} {a2 : Nat} {a3 : Nat} {x4 : Int32} (hF : f_X6_pairThatFits M a0 a1 a2 a3 x4 = some q) (hW : ps_W D Y B M H) (hS : va_S (fun q => B ≤ q) s.heap H locs) (hl : lv_has ls 8 [(0, .ref (B + a0)), (1, .ref (B + a1)), (2, .ref (B + a2)), (3, .ref (B + a3)), (4, .int x4)]) : W p l e rm_X6_pairThatFits s m args below meth c H locs 0 0 (ps_Qi D Y B below args s 0 0 q) (F0 m 0 ls []) := by
  have hx := C.1
  have hb := C.2.1
  have hml := C.2.2.1
  have hown := C.2.2.2.1
  have hts := C.2.2.2.2.1
  unfold f_X6_pairThatFits at hF
  refine lv_iconst (v := 0) hx hb dX6_pairThatFits_0 (by decide) ?_
  refine lv_istore (lv' := [(5, .int (0 : Int32)), (0, .ref (B + a0)), (1, .ref (B + a1)), (2, .ref (B + a2)), (3, .ref (B + a3)), (4, .int x4)]) hx hb dX6_pairThatFits_1 hl (by decide) rfl (fun ls hl => ?_)
  refine lv_iconst (v := 0) hx hb dX6_pairThatFits_3 (by decide) ?_
  refine lv_istore (lv' := [(6, .int (0 : Int32)), (5, .int (0 : Int32)), (0, .ref (B + a0)), (1, .ref (B + a1)), (2, .ref (B + a2)), (3, .ref (B + a3)), (4, .int x4)]) hx hb dX6_pairThatFits_4 hl (by decide) rfl (fun ls hl => ?_)
  exact kb_X6_pairThatFits_l6 C ps_fu M _ _ _ a0 a1 a2 a3 x4 (0 : Int32) (0 : Int32) hF hW hS (lv_sub hl [2, 3, 4, 5, 6, 1, 0] rfl)
theorem mf_X6_pairThatFits : ps_mf yX6_pairThatFits cX6_pairThatFits 8 ((some .int)) 4 := ⟨tq_878, tq_68, by decide +kernel, by decide +kernel, by decide +kernel⟩
theorem c_X6_pairThatFits {l : Launch} {D : va_G} {Y : ps_A} {B : Nat} {M : ps_M} {a0 : Nat} {a1 : Nat} {a2 : Nat} {a3 : Nat} {x4 : Int32} {r : Int32} {M' : ps_M} (hF : f_X6_pairThatFits M a0 a1 a2 a3 x4 = some (r, M')) : Met l yX6_pairThatFits (Cond.code yX6_pairThatFits cX6_pairThatFits 8 ((some .int)) :: tb_G) rm_X6_pairThatFits (ps_PB D Y B M [.ref (B + a0), .ref (B + a1), .ref (B + a2), .ref (B + a3), .int x4]) (va_Qi (fun x (_ : Unit) => x = r) (fun _ t => ps_St D Y B M' t) (fun q => B ≤ q)) 0 0 (fun q => B ≤ q) :=
  pm_of (by decide +kernel) (Nat.le_of_ble_eq_true rfl) (fun p e s m args below meth c C hW hS ls hl => kb_X6_pairThatFits C hF hW hS hl)

abbrev rm_X6_wrongLine : Room := { frames := 4, cells := 0, slots := 0, locals := 94 }
def f_X6_wrongLine (M : ps_M) (a0 : Nat) (a1 : Nat) (a2 : Nat) (a3 : Nat) : Option (Int32 × ps_M) := ps_gR M a0 5 8 (fun av1 => ps_ck M av1 6 (ps_b1 (f_X7_become M av1 a2) (fun M => ps_ck M a0 5 (ps_b2 (f_X6_firstWrong M a0 a1 a3) (fun xv2 M => some (xv2, M))))))
set_option maxRecDepth 100000 in
set_option maxHeartbeats 4000000 in
theorem kb_X6_wrongLine (C : ps_C p s m args meth c cX6_wrongLine 4 RX6 ((some .int)) "wrongLine" D Y B) {q : Int32 × ps_M}  {M : ps_M} {a0 : Nat} {a1 : Nat} {a2 : Nat} {a3 : Nat} (hF : f_X6_wrongLine M a0 a1 a2 a3 = some q) (hW : ps_W D Y B M H) (hS : va_S (fun q => B ≤ q) s.heap H locs) (hl : lv_has ls 4 [(0, .ref (B + a0)), (1, .ref (B + a1)), (2, .ref (B + a2)), (3, .ref (B + a3))]) : W p l e rm_X6_wrongLine s m args below meth c H locs 0 0 (ps_Qi D Y B below args s 0 0 q) (F0 m 0 ls []) := by
  have hx := C.1
  have hb := C.2.1
  have hml := C.2.2.1
  have hown := C.2.2.2.1
  have hts := C.2.2.2.2.1
  unfold f_X6_wrongLine at hF
  refine lv_aload_n hx hb dX6_wrongLine_0 rfl (lv_at hl 0 rfl) ?_
  refine pw_gR C hW pc_5 (k := 8) (by decide) rfl tq_322 dX6_wrongLine_1 hF (fun av1 hF => ?_)
  refine lv_aload_n hx hb dX6_wrongLine_4 rfl (lv_at hl 2 rfl) ?_
  obtain ⟨hK, hF⟩ := ps_ck_some hF
  obtain ⟨M9, hc, hF⟩ := ps_b1_some hF
  refine ps_backV (M' := M9) hS (ps_callV C hW pc_6 mf_X7_become tq_598 tq_599 tq_707 ⟨Nat.le_of_ble_eq_true rfl, Nat.le_of_ble_eq_true rfl⟩ rfl rfl (As := [.ref (B + a2)]) (rest := []) (c_X7_become hc) hK rfl hl.1 rfl (Nat.le_of_ble_eq_true rfl) dX6_wrongLine_5 ⟨Nat.le_of_ble_eq_true rfl, Nat.le_of_ble_eq_true rfl⟩) (fun H locs hW hS => ?_)
  clear hc
  generalize M9 = M at hW hF
  refine lv_aload_n hx hb dX6_wrongLine_8 rfl (lv_at hl 0 rfl) ?_
  refine lv_aload_n hx hb dX6_wrongLine_9 rfl (lv_at hl 1 rfl) ?_
  refine lv_aload_n hx hb dX6_wrongLine_10 rfl (lv_at hl 3 rfl) ?_
  obtain ⟨hK, hF⟩ := ps_ck_some hF
  obtain ⟨xv2, M9, hc, hF⟩ := ps_b2_some hF
  refine ps_backI (x0 := xv2) (M' := M9) hS (ps_callV C hW pc_5 mf_X6_firstWrong tq_868 tq_29 tq_866 ⟨Nat.le_of_ble_eq_true rfl, Nat.le_of_ble_eq_true rfl⟩ rfl rfl (As := [.ref (B + a1), .ref (B + a3)]) (rest := []) (c_X6_firstWrong hc) hK rfl hl.1 rfl (Nat.le_of_ble_eq_true rfl) dX6_wrongLine_11 ⟨Nat.le_of_ble_eq_true rfl, Nat.le_of_ble_eq_true rfl⟩) (fun H locs hW hS => ?_)
  clear hc
  generalize M9 = M at hW hF
  exact pw_iret C hW hS dX6_wrongLine_14 hF
theorem mf_X6_wrongLine : ps_mf yX6_wrongLine cX6_wrongLine 4 ((some .int)) 3 := ⟨tq_894, tq_68, by decide +kernel, by decide +kernel, by decide +kernel⟩
theorem c_X6_wrongLine {l : Launch} {D : va_G} {Y : ps_A} {B : Nat} {M : ps_M} {a0 : Nat} {a1 : Nat} {a2 : Nat} {a3 : Nat} {r : Int32} {M' : ps_M} (hF : f_X6_wrongLine M a0 a1 a2 a3 = some (r, M')) : Met l yX6_wrongLine (Cond.code yX6_wrongLine cX6_wrongLine 4 ((some .int)) :: tb_G) rm_X6_wrongLine (ps_PB D Y B M [.ref (B + a0), .ref (B + a1), .ref (B + a2), .ref (B + a3)]) (va_Qi (fun x (_ : Unit) => x = r) (fun _ t => ps_St D Y B M' t) (fun q => B ≤ q)) 0 0 (fun q => B ≤ q) :=
  pm_of (by decide +kernel) (Nat.le_of_ble_eq_true rfl) (fun p e s m args below meth c C hW hS ls hl => kb_X6_wrongLine C hF hW hS hl)

abbrev rm_X7_startYard : Room := { frames := 2, cells := 0, slots := 0, locals := 44 }
def f_X7_startYard (M : ps_M) (a0 : Nat) (a1 : Nat) : Option (ps_M) := ps_ck M a0 6 (ps_b1 (f_X7_startLog M a0 (-1 : Int32) (-1 : Int32)) (fun M => ps_gI M a1 7 2 (fun xv1 => ps_pI M a0 6 7 xv1 (fun M => ps_gR M a1 7 7 (fun av2 => ps_gR M a0 6 9 (fun av3 => ps_b1 (f_X4_copy M av2 av3) (fun M => ps_gR M a1 7 10 (fun av4 => ps_gR M a0 6 10 (fun av5 => ps_b1 (f_X4_copy M av4 av5) (fun M => some M))))))))))
set_option maxRecDepth 100000 in
set_option maxHeartbeats 4000000 in
theorem kb_X7_startYard (C : ps_C p s m args meth c cX7_startYard 2 RX7 none "startYard" D Y B) {q : ps_M}  {M : ps_M} {a0 : Nat} {a1 : Nat} (hF : f_X7_startYard M a0 a1 = some q) (hW : ps_W D Y B M H) (hS : va_S (fun q => B ≤ q) s.heap H locs) (hl : lv_has ls 2 [(0, .ref (B + a0)), (1, .ref (B + a1))]) : W p l e rm_X7_startYard s m args below meth c H locs 0 0 (ps_Qv D Y B below args s 0 0 q) (F0 m 0 ls []) := by
  have hx := C.1
  have hb := C.2.1
  have hml := C.2.2.1
  have hown := C.2.2.2.1
  have hts := C.2.2.2.2.1
  unfold f_X7_startYard at hF
  refine lv_aload_n hx hb dX7_startYard_0 rfl (lv_at hl 0 rfl) ?_
  refine lv_iconst (v := -1) hx hb dX7_startYard_1 (by decide) ?_
  refine lv_iconst (v := -1) hx hb dX7_startYard_2 (by decide) ?_
  obtain ⟨hK, hF⟩ := ps_ck_some hF
  obtain ⟨M9, hc, hF⟩ := ps_b1_some hF
  refine ps_backV (M' := M9) hS (ps_callV C hW pc_6 mf_X7_startLog tq_515 tq_516 tq_514 ⟨Nat.le_of_ble_eq_true rfl, Nat.le_of_ble_eq_true rfl⟩ rfl rfl (As := [.int (-1 : Int32), .int (-1 : Int32)]) (rest := []) (c_X7_startLog hc) hK rfl hl.1 rfl (Nat.le_of_ble_eq_true rfl) dX7_startYard_3 ⟨Nat.le_of_ble_eq_true rfl, Nat.le_of_ble_eq_true rfl⟩) (fun H locs hW hS => ?_)
  clear hc
  generalize M9 = M at hW hF
  refine lv_aload_n hx hb dX7_startYard_6 rfl (lv_at hl 0 rfl) ?_
  refine lv_aload_n hx hb dX7_startYard_7 rfl (lv_at hl 1 rfl) ?_
  refine pw_gI C hW pc_7 (k := 2) (by decide) rfl tq_97 dX7_startYard_8 hF (fun xv1 hF => ?_)
  refine pw_pI C hW hS pc_6 (k := 7) (by decide) rfl rfl tq_237 rfl dX7_startYard_11 hF (fun M H locs hW hS hF => ?_)
  refine lv_aload_n hx hb dX7_startYard_14 rfl (lv_at hl 1 rfl) ?_
  refine pw_gR C hW pc_7 (k := 7) (by decide) rfl tq_116 dX7_startYard_15 hF (fun av2 hF => ?_)
  refine lv_aload_n hx hb dX7_startYard_18 rfl (lv_at hl 0 rfl) ?_
  refine pw_gR C hW pc_6 (k := 9) (by decide) rfl tq_243 dX7_startYard_19 hF (fun av3 hF => ?_)
  obtain ⟨M9, hc, hF⟩ := ps_b1_some hF
  refine ps_backV (M' := M9) hS (ps_callS C hW mf_X4_copy tq_508 tq_521 ⟨Nat.le_of_ble_eq_true rfl, Nat.le_of_ble_eq_true rfl⟩ rfl rfl (As := [.ref (B + av2), .ref (B + av3)]) (rest := []) (c_X4_copy hc) rfl hl.1 rfl (Nat.le_of_ble_eq_true rfl) dX7_startYard_22 ⟨Nat.le_of_ble_eq_true rfl, Nat.le_of_ble_eq_true rfl⟩) (fun H locs hW hS => ?_)
  clear hc
  generalize M9 = M at hW hF
  refine lv_aload_n hx hb dX7_startYard_25 rfl (lv_at hl 1 rfl) ?_
  refine pw_gR C hW pc_7 (k := 10) (by decide) rfl tq_129 dX7_startYard_26 hF (fun av4 hF => ?_)
  refine lv_aload_n hx hb dX7_startYard_29 rfl (lv_at hl 0 rfl) ?_
  refine pw_gR C hW pc_6 (k := 10) (by decide) rfl tq_246 dX7_startYard_30 hF (fun av5 hF => ?_)
  obtain ⟨M9, hc, hF⟩ := ps_b1_some hF
  refine ps_backV (M' := M9) hS (ps_callS C hW mf_X4_copy tq_508 tq_521 ⟨Nat.le_of_ble_eq_true rfl, Nat.le_of_ble_eq_true rfl⟩ rfl rfl (As := [.ref (B + av4), .ref (B + av5)]) (rest := []) (c_X4_copy hc) rfl hl.1 rfl (Nat.le_of_ble_eq_true rfl) dX7_startYard_33 ⟨Nat.le_of_ble_eq_true rfl, Nat.le_of_ble_eq_true rfl⟩) (fun H locs hW hS => ?_)
  clear hc
  generalize M9 = M at hW hF
  exact pw_vret C hW hS dX7_startYard_36 hF
theorem mf_X7_startYard : ps_mf yX7_startYard cX7_startYard 2 none 1 := ⟨tq_513, tq_66, by decide +kernel, by decide +kernel, by decide +kernel⟩
theorem c_X7_startYard {l : Launch} {D : va_G} {Y : ps_A} {B : Nat} {M : ps_M} {a0 : Nat} {a1 : Nat} {M' : ps_M} (hF : f_X7_startYard M a0 a1 = some M') : Met l yX7_startYard (Cond.code yX7_startYard cX7_startYard 2 none :: tb_G) rm_X7_startYard (ps_PB D Y B M [.ref (B + a0), .ref (B + a1)]) (va_Qv (fun (_ : Unit) => True) (fun _ t => ps_St D Y B M' t) (fun q => B ≤ q)) 0 0 (fun q => B ≤ q) :=
  pm_of (by decide +kernel) (Nat.le_of_ble_eq_true rfl) (fun p e s m args below meth c C hW hS ls hl => kb_X7_startYard C hF hW hS hl)

abbrev rm_X7_hasPair : Room := { frames := 0, cells := 0, slots := 0, locals := 0 }
def f_X7_hasPair_b13 (M : ps_M) (t0 : Int32) : Option (Int32 × ps_M) := ps_z t0 M
def f_X7_hasPair (M : ps_M) (a0 : Nat) : Option (Int32 × ps_M) := ps_gI M a0 6 0 (fun xv1 => if xv1 = (-1 : Int32) then (f_X7_hasPair_b13 M (0 : Int32)) else (f_X7_hasPair_b13 M (1 : Int32)))
set_option maxRecDepth 100000 in
set_option maxHeartbeats 4000000 in
theorem kb_X7_hasPair_b13 (C : ps_C p s m args meth c cX7_hasPair 1 RX7 ((some .boolean)) "hasPair" D Y B) {q : Int32 × ps_M}  {M : ps_M} {t0 : Int32} (hF : f_X7_hasPair_b13 M t0 = some q) (hW : ps_W D Y B M H) (hS : va_S (fun q => B ≤ q) s.heap H locs) (hl : lv_has ls 1 []) : W p l e rm_X7_hasPair s m args below meth c H locs 0 0 (ps_Qi D Y B below args s 0 0 q) (F0 m 13 ls [.int t0]) := by
  have hx := C.1
  have hb := C.2.1
  have hml := C.2.2.1
  have hown := C.2.2.2.1
  have hts := C.2.2.2.2.1
  unfold f_X7_hasPair_b13 at hF
  exact pw_zret C hW hS dX7_hasPair_13 hF
set_option maxRecDepth 100000 in
set_option maxHeartbeats 4000000 in
theorem kb_X7_hasPair (C : ps_C p s m args meth c cX7_hasPair 1 RX7 ((some .boolean)) "hasPair" D Y B) {q : Int32 × ps_M}  {M : ps_M} {a0 : Nat} (hF : f_X7_hasPair M a0 = some q) (hW : ps_W D Y B M H) (hS : va_S (fun q => B ≤ q) s.heap H locs) (hl : lv_has ls 1 [(0, .ref (B + a0))]) : W p l e rm_X7_hasPair s m args below meth c H locs 0 0 (ps_Qi D Y B below args s 0 0 q) (F0 m 0 ls []) := by
  have hx := C.1
  have hb := C.2.1
  have hml := C.2.2.1
  have hown := C.2.2.2.1
  have hts := C.2.2.2.2.1
  unfold f_X7_hasPair at hF
  refine lv_aload_n hx hb dX7_hasPair_0 rfl (lv_at hl 0 rfl) ?_
  refine pw_gI C hW pc_6 (k := 0) (by decide) rfl tq_220 dX7_hasPair_1 hF (fun xv1 hF => ?_)
  refine lv_iconst (v := -1) hx hb dX7_hasPair_4 (by decide) ?_
  refine lv_icmp_eq (tgt := 12) hx hb dX7_hasPair_5 (by decide) (fun hv2 => ?_) (fun hv2 => ?_)
  · replace hF := (if_pos hv2).symm.trans hF
    refine lv_iconst (v := 0) hx hb dX7_hasPair_12 (by decide) ?_
    exact kb_X7_hasPair_b13 C hF hW hS (lv_sub hl [] rfl)
  · replace hF := (if_neg hv2).symm.trans hF
    refine lv_iconst (v := 1) hx hb dX7_hasPair_8 (by decide) ?_
    refine lv_goto (tgt := 13) hx hb dX7_hasPair_9 (by decide) ?_
    exact kb_X7_hasPair_b13 C hF hW hS (lv_sub hl [] rfl)
theorem mf_X7_hasPair : ps_mf yX7_hasPair cX7_hasPair 1 ((some .boolean)) 0 := ⟨tq_588, tq_66, by decide +kernel, by decide +kernel, by decide +kernel⟩
theorem c_X7_hasPair {l : Launch} {D : va_G} {Y : ps_A} {B : Nat} {M : ps_M} {a0 : Nat} {r : Int32} {M' : ps_M} (hF : f_X7_hasPair M a0 = some (r, M')) : Met l yX7_hasPair (Cond.code yX7_hasPair cX7_hasPair 1 ((some .boolean)) :: tb_G) rm_X7_hasPair (ps_PB D Y B M [.ref (B + a0)]) (va_Qi (fun x (_ : Unit) => x = r) (fun _ t => ps_St D Y B M' t) (fun q => B ≤ q)) 0 0 (fun q => B ≤ q) :=
  pm_of (by decide +kernel) (Nat.le_of_ble_eq_true rfl) (fun p e s m args below meth c C hW hS ls hl => kb_X7_hasPair C hF hW hS hl)

abbrev rm_X7_changeSides : Room := { frames := 0, cells := 0, slots := 0, locals := 0 }
def f_X7_changeSides (M : ps_M) (a0 : Nat) : Option (ps_M) := ps_gI M a0 6 0 (fun xv1 => ps_gI M a0 6 1 (fun xv2 => ps_pI M a0 6 0 xv2 (fun M => ps_pI M a0 6 1 xv1 (fun M => some M))))
set_option maxRecDepth 100000 in
set_option maxHeartbeats 4000000 in
theorem kb_X7_changeSides (C : ps_C p s m args meth c cX7_changeSides 2 RX7 none "changeSides" D Y B) {q : ps_M}  {M : ps_M} {a0 : Nat} (hF : f_X7_changeSides M a0 = some q) (hW : ps_W D Y B M H) (hS : va_S (fun q => B ≤ q) s.heap H locs) (hl : lv_has ls 2 [(0, .ref (B + a0))]) : W p l e rm_X7_changeSides s m args below meth c H locs 0 0 (ps_Qv D Y B below args s 0 0 q) (F0 m 0 ls []) := by
  have hx := C.1
  have hb := C.2.1
  have hml := C.2.2.1
  have hown := C.2.2.2.1
  have hts := C.2.2.2.2.1
  unfold f_X7_changeSides at hF
  refine lv_aload_n hx hb dX7_changeSides_0 rfl (lv_at hl 0 rfl) ?_
  refine pw_gI C hW pc_6 (k := 0) (by decide) rfl tq_220 dX7_changeSides_1 hF (fun xv1 hF => ?_)
  refine lv_istore_n (lv' := [(1, .int xv1), (0, .ref (B + a0))]) hx hb dX7_changeSides_4 rfl hl (by decide) rfl (fun ls hl => ?_)
  refine lv_aload_n hx hb dX7_changeSides_5 rfl (lv_at hl 1 rfl) ?_
  refine lv_aload_n hx hb dX7_changeSides_6 rfl (lv_at hl 1 rfl) ?_
  refine pw_gI C hW pc_6 (k := 1) (by decide) rfl tq_223 dX7_changeSides_7 hF (fun xv2 hF => ?_)
  refine pw_pI C hW hS pc_6 (k := 0) (by decide) rfl rfl tq_220 rfl dX7_changeSides_10 hF (fun M H locs hW hS hF => ?_)
  refine lv_aload_n hx hb dX7_changeSides_13 rfl (lv_at hl 1 rfl) ?_
  refine lv_iload_n hx hb dX7_changeSides_14 rfl (lv_at hl 0 rfl) ?_
  refine pw_pI C hW hS pc_6 (k := 1) (by decide) rfl rfl tq_223 rfl dX7_changeSides_15 hF (fun M H locs hW hS hF => ?_)
  exact pw_vret C hW hS dX7_changeSides_18 hF
theorem mf_X7_changeSides : ps_mf yX7_changeSides cX7_changeSides 2 none 0 := ⟨tq_650, tq_66, by decide +kernel, by decide +kernel, by decide +kernel⟩
theorem c_X7_changeSides {l : Launch} {D : va_G} {Y : ps_A} {B : Nat} {M : ps_M} {a0 : Nat} {M' : ps_M} (hF : f_X7_changeSides M a0 = some M') : Met l yX7_changeSides (Cond.code yX7_changeSides cX7_changeSides 2 none :: tb_G) rm_X7_changeSides (ps_PB D Y B M [.ref (B + a0)]) (va_Qv (fun (_ : Unit) => True) (fun _ t => ps_St D Y B M' t) (fun q => B ≤ q)) 0 0 (fun q => B ≤ q) :=
  pm_of (by decide +kernel) (Nat.le_of_ble_eq_true rfl) (fun p e s m args below meth c C hW hS ls hl => kb_X7_changeSides C hF hW hS hl)

abbrev rm_X8_become : Room := { frames := 1, cells := 0, slots := 0, locals := 22 }
def f_X8_become (M : ps_M) (a0 : Nat) (a1 : Nat) : Option (ps_M) := ps_gI M a1 7 0 (fun xv1 => ps_pI M a0 7 0 xv1 (fun M => ps_gI M a1 7 1 (fun xv2 => ps_pI M a0 7 1 xv2 (fun M => ps_gI M a1 7 2 (fun xv3 => ps_pI M a0 7 2 xv3 (fun M => ps_gI M a1 7 3 (fun xv4 => ps_pI M a0 7 3 xv4 (fun M => ps_gI M a1 7 4 (fun xv5 => ps_pI M a0 7 4 xv5 (fun M => ps_gI M a1 7 5 (fun xv6 => ps_pI M a0 7 5 xv6 (fun M => ps_gR M a1 7 6 (fun av7 => ps_gR M a0 7 6 (fun av8 => ps_b1 (f_X4_copy M av7 av8) (fun M => ps_gR M a1 7 7 (fun av9 => ps_gR M a0 7 7 (fun av10 => ps_b1 (f_X4_copy M av9 av10) (fun M => ps_gR M a1 7 8 (fun av11 => ps_gR M a0 7 8 (fun av12 => ps_b1 (f_X4_copy M av11 av12) (fun M => ps_gR M a1 7 9 (fun av13 => ps_gR M a0 7 9 (fun av14 => ps_b1 (f_X4_copy M av13 av14) (fun M => ps_gR M a1 7 10 (fun av15 => ps_gR M a0 7 10 (fun av16 => ps_b1 (f_X4_copy M av15 av16) (fun M => ps_gR M a1 7 11 (fun av17 => ps_gR M a0 7 11 (fun av18 => ps_b1 (f_X4_copy M av17 av18) (fun M => some M))))))))))))))))))))))))))))))
set_option maxRecDepth 100000 in
set_option maxHeartbeats 4000000 in
theorem kb_X8_become (C : ps_C p s m args meth c cX8_become 2 RX8 none "become" D Y B) {q : ps_M}  {M : ps_M} {a0 : Nat} {a1 : Nat} (hF : f_X8_become M a0 a1 = some q) (hW : ps_W D Y B M H) (hS : va_S (fun q => B ≤ q) s.heap H locs) (hl : lv_has ls 2 [(0, .ref (B + a0)), (1, .ref (B + a1))]) : W p l e rm_X8_become s m args below meth c H locs 0 0 (ps_Qv D Y B below args s 0 0 q) (F0 m 0 ls []) := by
  have hx := C.1
  have hb := C.2.1
  have hml := C.2.2.1
  have hown := C.2.2.2.1
  have hts := C.2.2.2.2.1
  unfold f_X8_become at hF
  refine lv_aload_n hx hb dX8_become_0 rfl (lv_at hl 0 rfl) ?_
  refine lv_aload_n hx hb dX8_become_1 rfl (lv_at hl 1 rfl) ?_
  refine pw_gI C hW pc_7 (k := 0) (by decide) rfl tq_88 dX8_become_2 hF (fun xv1 hF => ?_)
  refine pw_pI C hW hS pc_7 (k := 0) (by decide) rfl rfl tq_88 rfl dX8_become_5 hF (fun M H locs hW hS hF => ?_)
  refine lv_aload_n hx hb dX8_become_8 rfl (lv_at hl 0 rfl) ?_
  refine lv_aload_n hx hb dX8_become_9 rfl (lv_at hl 1 rfl) ?_
  refine pw_gI C hW pc_7 (k := 1) (by decide) rfl tq_92 dX8_become_10 hF (fun xv2 hF => ?_)
  refine pw_pI C hW hS pc_7 (k := 1) (by decide) rfl rfl tq_92 rfl dX8_become_13 hF (fun M H locs hW hS hF => ?_)
  refine lv_aload_n hx hb dX8_become_16 rfl (lv_at hl 0 rfl) ?_
  refine lv_aload_n hx hb dX8_become_17 rfl (lv_at hl 1 rfl) ?_
  refine pw_gI C hW pc_7 (k := 2) (by decide) rfl tq_96 dX8_become_18 hF (fun xv3 hF => ?_)
  refine pw_pI C hW hS pc_7 (k := 2) (by decide) rfl rfl tq_96 rfl dX8_become_21 hF (fun M H locs hW hS hF => ?_)
  refine lv_aload_n hx hb dX8_become_24 rfl (lv_at hl 0 rfl) ?_
  refine lv_aload_n hx hb dX8_become_25 rfl (lv_at hl 1 rfl) ?_
  refine pw_gI C hW pc_7 (k := 3) (by decide) rfl tq_99 dX8_become_26 hF (fun xv4 hF => ?_)
  refine pw_pI C hW hS pc_7 (k := 3) (by decide) rfl rfl tq_99 rfl dX8_become_29 hF (fun M H locs hW hS hF => ?_)
  refine lv_aload_n hx hb dX8_become_32 rfl (lv_at hl 0 rfl) ?_
  refine lv_aload_n hx hb dX8_become_33 rfl (lv_at hl 1 rfl) ?_
  refine pw_gI C hW pc_7 (k := 4) (by decide) rfl tq_103 dX8_become_34 hF (fun xv5 hF => ?_)
  refine pw_pI C hW hS pc_7 (k := 4) (by decide) rfl rfl tq_103 rfl dX8_become_37 hF (fun M H locs hW hS hF => ?_)
  refine lv_aload_n hx hb dX8_become_40 rfl (lv_at hl 0 rfl) ?_
  refine lv_aload_n hx hb dX8_become_41 rfl (lv_at hl 1 rfl) ?_
  refine pw_gI C hW pc_7 (k := 5) (by decide) rfl tq_107 dX8_become_42 hF (fun xv6 hF => ?_)
  refine pw_pI C hW hS pc_7 (k := 5) (by decide) rfl rfl tq_107 rfl dX8_become_45 hF (fun M H locs hW hS hF => ?_)
  refine lv_aload_n hx hb dX8_become_48 rfl (lv_at hl 1 rfl) ?_
  refine pw_gR C hW pc_7 (k := 6) (by decide) rfl tq_111 dX8_become_49 hF (fun av7 hF => ?_)
  refine lv_aload_n hx hb dX8_become_52 rfl (lv_at hl 0 rfl) ?_
  refine pw_gR C hW pc_7 (k := 6) (by decide) rfl tq_111 dX8_become_53 hF (fun av8 hF => ?_)
  obtain ⟨M9, hc, hF⟩ := ps_b1_some hF
  refine ps_backV (M' := M9) hS (ps_callS C hW mf_X4_copy tq_508 tq_507 ⟨Nat.le_of_ble_eq_true rfl, Nat.le_of_ble_eq_true rfl⟩ rfl rfl (As := [.ref (B + av7), .ref (B + av8)]) (rest := []) (c_X4_copy hc) rfl hl.1 rfl (Nat.le_of_ble_eq_true rfl) dX8_become_56 ⟨Nat.le_of_ble_eq_true rfl, Nat.le_of_ble_eq_true rfl⟩) (fun H locs hW hS => ?_)
  clear hc
  generalize M9 = M at hW hF
  refine lv_aload_n hx hb dX8_become_59 rfl (lv_at hl 1 rfl) ?_
  refine pw_gR C hW pc_7 (k := 7) (by decide) rfl tq_115 dX8_become_60 hF (fun av9 hF => ?_)
  refine lv_aload_n hx hb dX8_become_63 rfl (lv_at hl 0 rfl) ?_
  refine pw_gR C hW pc_7 (k := 7) (by decide) rfl tq_115 dX8_become_64 hF (fun av10 hF => ?_)
  obtain ⟨M9, hc, hF⟩ := ps_b1_some hF
  refine ps_backV (M' := M9) hS (ps_callS C hW mf_X4_copy tq_508 tq_507 ⟨Nat.le_of_ble_eq_true rfl, Nat.le_of_ble_eq_true rfl⟩ rfl rfl (As := [.ref (B + av9), .ref (B + av10)]) (rest := []) (c_X4_copy hc) rfl hl.1 rfl (Nat.le_of_ble_eq_true rfl) dX8_become_67 ⟨Nat.le_of_ble_eq_true rfl, Nat.le_of_ble_eq_true rfl⟩) (fun H locs hW hS => ?_)
  clear hc
  generalize M9 = M at hW hF
  refine lv_aload_n hx hb dX8_become_70 rfl (lv_at hl 1 rfl) ?_
  refine pw_gR C hW pc_7 (k := 8) (by decide) rfl tq_120 dX8_become_71 hF (fun av11 hF => ?_)
  refine lv_aload_n hx hb dX8_become_74 rfl (lv_at hl 0 rfl) ?_
  refine pw_gR C hW pc_7 (k := 8) (by decide) rfl tq_120 dX8_become_75 hF (fun av12 hF => ?_)
  obtain ⟨M9, hc, hF⟩ := ps_b1_some hF
  refine ps_backV (M' := M9) hS (ps_callS C hW mf_X4_copy tq_508 tq_507 ⟨Nat.le_of_ble_eq_true rfl, Nat.le_of_ble_eq_true rfl⟩ rfl rfl (As := [.ref (B + av11), .ref (B + av12)]) (rest := []) (c_X4_copy hc) rfl hl.1 rfl (Nat.le_of_ble_eq_true rfl) dX8_become_78 ⟨Nat.le_of_ble_eq_true rfl, Nat.le_of_ble_eq_true rfl⟩) (fun H locs hW hS => ?_)
  clear hc
  generalize M9 = M at hW hF
  refine lv_aload_n hx hb dX8_become_81 rfl (lv_at hl 1 rfl) ?_
  refine pw_gR C hW pc_7 (k := 9) (by decide) rfl tq_124 dX8_become_82 hF (fun av13 hF => ?_)
  refine lv_aload_n hx hb dX8_become_85 rfl (lv_at hl 0 rfl) ?_
  refine pw_gR C hW pc_7 (k := 9) (by decide) rfl tq_124 dX8_become_86 hF (fun av14 hF => ?_)
  obtain ⟨M9, hc, hF⟩ := ps_b1_some hF
  refine ps_backV (M' := M9) hS (ps_callS C hW mf_X4_copy tq_508 tq_507 ⟨Nat.le_of_ble_eq_true rfl, Nat.le_of_ble_eq_true rfl⟩ rfl rfl (As := [.ref (B + av13), .ref (B + av14)]) (rest := []) (c_X4_copy hc) rfl hl.1 rfl (Nat.le_of_ble_eq_true rfl) dX8_become_89 ⟨Nat.le_of_ble_eq_true rfl, Nat.le_of_ble_eq_true rfl⟩) (fun H locs hW hS => ?_)
  clear hc
  generalize M9 = M at hW hF
  refine lv_aload_n hx hb dX8_become_92 rfl (lv_at hl 1 rfl) ?_
  refine pw_gR C hW pc_7 (k := 10) (by decide) rfl tq_128 dX8_become_93 hF (fun av15 hF => ?_)
  refine lv_aload_n hx hb dX8_become_96 rfl (lv_at hl 0 rfl) ?_
  refine pw_gR C hW pc_7 (k := 10) (by decide) rfl tq_128 dX8_become_97 hF (fun av16 hF => ?_)
  obtain ⟨M9, hc, hF⟩ := ps_b1_some hF
  refine ps_backV (M' := M9) hS (ps_callS C hW mf_X4_copy tq_508 tq_507 ⟨Nat.le_of_ble_eq_true rfl, Nat.le_of_ble_eq_true rfl⟩ rfl rfl (As := [.ref (B + av15), .ref (B + av16)]) (rest := []) (c_X4_copy hc) rfl hl.1 rfl (Nat.le_of_ble_eq_true rfl) dX8_become_100 ⟨Nat.le_of_ble_eq_true rfl, Nat.le_of_ble_eq_true rfl⟩) (fun H locs hW hS => ?_)
  clear hc
  generalize M9 = M at hW hF
  refine lv_aload_n hx hb dX8_become_103 rfl (lv_at hl 1 rfl) ?_
  refine pw_gR C hW pc_7 (k := 11) (by decide) rfl tq_131 dX8_become_104 hF (fun av17 hF => ?_)
  refine lv_aload_n hx hb dX8_become_107 rfl (lv_at hl 0 rfl) ?_
  refine pw_gR C hW pc_7 (k := 11) (by decide) rfl tq_131 dX8_become_108 hF (fun av18 hF => ?_)
  obtain ⟨M9, hc, hF⟩ := ps_b1_some hF
  refine ps_backV (M' := M9) hS (ps_callS C hW mf_X4_copy tq_508 tq_507 ⟨Nat.le_of_ble_eq_true rfl, Nat.le_of_ble_eq_true rfl⟩ rfl rfl (As := [.ref (B + av17), .ref (B + av18)]) (rest := []) (c_X4_copy hc) rfl hl.1 rfl (Nat.le_of_ble_eq_true rfl) dX8_become_111 ⟨Nat.le_of_ble_eq_true rfl, Nat.le_of_ble_eq_true rfl⟩) (fun H locs hW hS => ?_)
  clear hc
  generalize M9 = M at hW hF
  exact pw_vret C hW hS dX8_become_114 hF
theorem mf_X8_become : ps_mf yX8_become cX8_become 2 none 1 := ⟨tq_506, tq_62, by decide +kernel, by decide +kernel, by decide +kernel⟩
theorem c_X8_become {l : Launch} {D : va_G} {Y : ps_A} {B : Nat} {M : ps_M} {a0 : Nat} {a1 : Nat} {M' : ps_M} (hF : f_X8_become M a0 a1 = some M') : Met l yX8_become (Cond.code yX8_become cX8_become 2 none :: tb_G) rm_X8_become (ps_PB D Y B M [.ref (B + a0), .ref (B + a1)]) (va_Qv (fun (_ : Unit) => True) (fun _ t => ps_St D Y B M' t) (fun q => B ≤ q)) 0 0 (fun q => B ≤ q) :=
  pm_of (by decide +kernel) (Nat.le_of_ble_eq_true rfl) (fun p e s m args below meth c C hW hS ls hl => kb_X8_become C hF hW hS hl)

abbrev rm_X8_hasPerson : Room := { frames := 0, cells := 0, slots := 0, locals := 0 }
def f_X8_hasPerson_b17 (M : ps_M) (t0 : Int32) : Option (Int32 × ps_M) := ps_z t0 M
def f_X8_hasPerson_b16 (M : ps_M)  : Option (Int32 × ps_M) := f_X8_hasPerson_b17 M (0 : Int32)
def f_X8_hasPerson (M : ps_M) (a0 : Nat) (x1 : Int32) : Option (Int32 × ps_M) := if x1 < 0 then (f_X8_hasPerson_b16 M ) else (ps_gI M a0 7 1 (fun xv2 => if xv2 ≤ x1 then (f_X8_hasPerson_b16 M ) else (f_X8_hasPerson_b17 M (1 : Int32))))
set_option maxRecDepth 100000 in
set_option maxHeartbeats 4000000 in
theorem kb_X8_hasPerson_b17 (C : ps_C p s m args meth c cX8_hasPerson 2 RX8 ((some .boolean)) "hasPerson" D Y B) {q : Int32 × ps_M}  {M : ps_M} {t0 : Int32} (hF : f_X8_hasPerson_b17 M t0 = some q) (hW : ps_W D Y B M H) (hS : va_S (fun q => B ≤ q) s.heap H locs) (hl : lv_has ls 2 []) : W p l e rm_X8_hasPerson s m args below meth c H locs 0 0 (ps_Qi D Y B below args s 0 0 q) (F0 m 17 ls [.int t0]) := by
  have hx := C.1
  have hb := C.2.1
  have hml := C.2.2.1
  have hown := C.2.2.2.1
  have hts := C.2.2.2.2.1
  unfold f_X8_hasPerson_b17 at hF
  exact pw_zret C hW hS dX8_hasPerson_17 hF
set_option maxRecDepth 100000 in
set_option maxHeartbeats 4000000 in
theorem kb_X8_hasPerson_b16 (C : ps_C p s m args meth c cX8_hasPerson 2 RX8 ((some .boolean)) "hasPerson" D Y B) {q : Int32 × ps_M}  {M : ps_M}  (hF : f_X8_hasPerson_b16 M  = some q) (hW : ps_W D Y B M H) (hS : va_S (fun q => B ≤ q) s.heap H locs) (hl : lv_has ls 2 []) : W p l e rm_X8_hasPerson s m args below meth c H locs 0 0 (ps_Qi D Y B below args s 0 0 q) (F0 m 16 ls []) := by
  have hx := C.1
  have hb := C.2.1
  have hml := C.2.2.1
  have hown := C.2.2.2.1
  have hts := C.2.2.2.2.1
  unfold f_X8_hasPerson_b16 at hF
  refine lv_iconst (v := 0) hx hb dX8_hasPerson_16 (by decide) ?_
  exact kb_X8_hasPerson_b17 C hF hW hS (lv_sub hl [] rfl)
set_option maxRecDepth 100000 in
set_option maxHeartbeats 4000000 in
theorem kb_X8_hasPerson (C : ps_C p s m args meth c cX8_hasPerson 2 RX8 ((some .boolean)) "hasPerson" D Y B) {q : Int32 × ps_M}  {M : ps_M} {a0 : Nat} {x1 : Int32} (hF : f_X8_hasPerson M a0 x1 = some q) (hW : ps_W D Y B M H) (hS : va_S (fun q => B ≤ q) s.heap H locs) (hl : lv_has ls 2 [(0, .ref (B + a0)), (1, .int x1)]) : W p l e rm_X8_hasPerson s m args below meth c H locs 0 0 (ps_Qi D Y B below args s 0 0 q) (F0 m 0 ls []) := by
  have hx := C.1
  have hb := C.2.1
  have hml := C.2.2.1
  have hown := C.2.2.2.1
  have hts := C.2.2.2.2.1
  unfold f_X8_hasPerson at hF
  refine lv_iload_n hx hb dX8_hasPerson_0 rfl (lv_at hl 1 rfl) ?_
  refine lv_if_lt (tgt := 16) hx hb dX8_hasPerson_1 (by decide) (fun hv1 => ?_) (fun hv1 => ?_)
  · replace hF := (if_pos hv1).symm.trans hF
    exact kb_X8_hasPerson_b16 C hF hW hS (lv_sub hl [] rfl)
  · replace hF := (if_neg hv1).symm.trans hF
    refine lv_iload_n hx hb dX8_hasPerson_4 rfl (lv_at hl 1 rfl) ?_
    refine lv_aload_n hx hb dX8_hasPerson_5 rfl (lv_at hl 0 rfl) ?_
    refine pw_gI C hW pc_7 (k := 1) (by decide) rfl tq_92 dX8_hasPerson_6 hF (fun xv2 hF => ?_)
    refine lv_icmp_ge (tgt := 16) hx hb dX8_hasPerson_9 (by decide) (fun hv3 => ?_) (fun hv3 => ?_)
    · replace hF := (if_pos hv3).symm.trans hF
      exact kb_X8_hasPerson_b16 C hF hW hS (lv_sub hl [] rfl)
    · replace hF := (if_neg hv3).symm.trans hF
      refine lv_iconst (v := 1) hx hb dX8_hasPerson_12 (by decide) ?_
      refine lv_goto (tgt := 17) hx hb dX8_hasPerson_13 (by decide) ?_
      exact kb_X8_hasPerson_b17 C hF hW hS (lv_sub hl [] rfl)
theorem mf_X8_hasPerson : ps_mf yX8_hasPerson cX8_hasPerson 2 ((some .boolean)) 1 := ⟨tq_558, tq_62, by decide +kernel, by decide +kernel, by decide +kernel⟩
theorem c_X8_hasPerson {l : Launch} {D : va_G} {Y : ps_A} {B : Nat} {M : ps_M} {a0 : Nat} {x1 : Int32} {r : Int32} {M' : ps_M} (hF : f_X8_hasPerson M a0 x1 = some (r, M')) : Met l yX8_hasPerson (Cond.code yX8_hasPerson cX8_hasPerson 2 ((some .boolean)) :: tb_G) rm_X8_hasPerson (ps_PB D Y B M [.ref (B + a0), .int x1]) (va_Qi (fun x (_ : Unit) => x = r) (fun _ t => ps_St D Y B M' t) (fun q => B ≤ q)) 0 0 (fun q => B ≤ q) :=
  pm_of (by decide +kernel) (Nat.le_of_ble_eq_true rfl) (fun p e s m args below meth c C hW hS ls hl => kb_X8_hasPerson C hF hW hS hl)

abbrev rm_X8_hasTwo : Room := { frames := 1, cells := 0, slots := 0, locals := 21 }
def f_X8_hasTwo_b26 (M : ps_M) (t0 : Int32) : Option (Int32 × ps_M) := ps_z t0 M
def f_X8_hasTwo_b25 (M : ps_M)  : Option (Int32 × ps_M) := f_X8_hasTwo_b26 M (0 : Int32)
def f_X8_hasTwo (M : ps_M) (a0 : Nat) (x1 : Int32) (x2 : Int32) : Option (Int32 × ps_M) := ps_ck M a0 7 (ps_b2 (f_X8_hasPerson M a0 x1) (fun xv1 M => if xv1 = 0 then (f_X8_hasTwo_b25 M ) else (ps_ck M a0 7 (ps_b2 (f_X8_hasPerson M a0 x2) (fun xv3 M => if xv3 = 0 then (f_X8_hasTwo_b25 M ) else (if x1 = x2 then (f_X8_hasTwo_b25 M ) else (f_X8_hasTwo_b26 M (1 : Int32))))))))
set_option maxRecDepth 100000 in
set_option maxHeartbeats 4000000 in
theorem kb_X8_hasTwo_b26 (C : ps_C p s m args meth c cX8_hasTwo 3 RX8 ((some .boolean)) "hasTwo" D Y B) {q : Int32 × ps_M}  {M : ps_M} {t0 : Int32} (hF : f_X8_hasTwo_b26 M t0 = some q) (hW : ps_W D Y B M H) (hS : va_S (fun q => B ≤ q) s.heap H locs) (hl : lv_has ls 3 []) : W p l e rm_X8_hasTwo s m args below meth c H locs 0 0 (ps_Qi D Y B below args s 0 0 q) (F0 m 26 ls [.int t0]) := by
  have hx := C.1
  have hb := C.2.1
  have hml := C.2.2.1
  have hown := C.2.2.2.1
  have hts := C.2.2.2.2.1
  unfold f_X8_hasTwo_b26 at hF
  exact pw_zret C hW hS dX8_hasTwo_26 hF
set_option maxRecDepth 100000 in
set_option maxHeartbeats 4000000 in
theorem kb_X8_hasTwo_b25 (C : ps_C p s m args meth c cX8_hasTwo 3 RX8 ((some .boolean)) "hasTwo" D Y B) {q : Int32 × ps_M}  {M : ps_M}  (hF : f_X8_hasTwo_b25 M  = some q) (hW : ps_W D Y B M H) (hS : va_S (fun q => B ≤ q) s.heap H locs) (hl : lv_has ls 3 []) : W p l e rm_X8_hasTwo s m args below meth c H locs 0 0 (ps_Qi D Y B below args s 0 0 q) (F0 m 25 ls []) := by
  have hx := C.1
  have hb := C.2.1
  have hml := C.2.2.1
  have hown := C.2.2.2.1
  have hts := C.2.2.2.2.1
  unfold f_X8_hasTwo_b25 at hF
  refine lv_iconst (v := 0) hx hb dX8_hasTwo_25 (by decide) ?_
  exact kb_X8_hasTwo_b26 C hF hW hS (lv_sub hl [] rfl)
set_option maxRecDepth 100000 in
set_option maxHeartbeats 4000000 in
theorem kb_X8_hasTwo (C : ps_C p s m args meth c cX8_hasTwo 3 RX8 ((some .boolean)) "hasTwo" D Y B) {q : Int32 × ps_M}  {M : ps_M} {a0 : Nat} {x1 : Int32} {x2 : Int32} (hF : f_X8_hasTwo M a0 x1 x2 = some q) (hW : ps_W D Y B M H) (hS : va_S (fun q => B ≤ q) s.heap H locs) (hl : lv_has ls 3 [(0, .ref (B + a0)), (1, .int x1), (2, .int x2)]) : W p l e rm_X8_hasTwo s m args below meth c H locs 0 0 (ps_Qi D Y B below args s 0 0 q) (F0 m 0 ls []) := by
  have hx := C.1
  have hb := C.2.1
  have hml := C.2.2.1
  have hown := C.2.2.2.1
  have hts := C.2.2.2.2.1
  unfold f_X8_hasTwo at hF
  refine lv_aload_n hx hb dX8_hasTwo_0 rfl (lv_at hl 0 rfl) ?_
  refine lv_iload_n hx hb dX8_hasTwo_1 rfl (lv_at hl 1 rfl) ?_
  obtain ⟨hK, hF⟩ := ps_ck_some hF
  obtain ⟨xv1, M9, hc, hF⟩ := ps_b2_some hF
  refine ps_backI (x0 := xv1) (M' := M9) hS (ps_callV C hW pc_7 mf_X8_hasPerson tq_556 tq_557 tq_571 ⟨Nat.le_of_ble_eq_true rfl, Nat.le_of_ble_eq_true rfl⟩ rfl rfl (As := [.int x1]) (rest := []) (c_X8_hasPerson hc) hK rfl hl.1 rfl (Nat.le_of_ble_eq_true rfl) dX8_hasTwo_2 ⟨Nat.le_of_ble_eq_true rfl, Nat.le_of_ble_eq_true rfl⟩) (fun H locs hW hS => ?_)
  clear hc
  generalize M9 = M at hW hF
  refine lv_if_eq (tgt := 25) hx hb dX8_hasTwo_5 (by decide) (fun hv2 => ?_) (fun hv2 => ?_)
  · replace hF := (if_pos hv2).symm.trans hF
    exact kb_X8_hasTwo_b25 C hF hW hS (lv_sub hl [] rfl)
  · replace hF := (if_neg hv2).symm.trans hF
    refine lv_aload_n hx hb dX8_hasTwo_8 rfl (lv_at hl 0 rfl) ?_
    refine lv_iload_n hx hb dX8_hasTwo_9 rfl (lv_at hl 2 rfl) ?_
    obtain ⟨hK, hF⟩ := ps_ck_some hF
    obtain ⟨xv3, M9, hc, hF⟩ := ps_b2_some hF
    refine ps_backI (x0 := xv3) (M' := M9) hS (ps_callV C hW pc_7 mf_X8_hasPerson tq_556 tq_557 tq_571 ⟨Nat.le_of_ble_eq_true rfl, Nat.le_of_ble_eq_true rfl⟩ rfl rfl (As := [.int x2]) (rest := []) (c_X8_hasPerson hc) hK rfl hl.1 rfl (Nat.le_of_ble_eq_true rfl) dX8_hasTwo_10 ⟨Nat.le_of_ble_eq_true rfl, Nat.le_of_ble_eq_true rfl⟩) (fun H locs hW hS => ?_)
    clear hc
    generalize M9 = M at hW hF
    refine lv_if_eq (tgt := 25) hx hb dX8_hasTwo_13 (by decide) (fun hv4 => ?_) (fun hv4 => ?_)
    · replace hF := (if_pos hv4).symm.trans hF
      exact kb_X8_hasTwo_b25 C hF hW hS (lv_sub hl [] rfl)
    · replace hF := (if_neg hv4).symm.trans hF
      refine lv_iload_n hx hb dX8_hasTwo_16 rfl (lv_at hl 1 rfl) ?_
      refine lv_iload_n hx hb dX8_hasTwo_17 rfl (lv_at hl 2 rfl) ?_
      refine lv_icmp_eq (tgt := 25) hx hb dX8_hasTwo_18 (by decide) (fun hv5 => ?_) (fun hv5 => ?_)
      · replace hF := (if_pos hv5).symm.trans hF
        exact kb_X8_hasTwo_b25 C hF hW hS (lv_sub hl [] rfl)
      · replace hF := (if_neg hv5).symm.trans hF
        refine lv_iconst (v := 1) hx hb dX8_hasTwo_21 (by decide) ?_
        refine lv_goto (tgt := 26) hx hb dX8_hasTwo_22 (by decide) ?_
        exact kb_X8_hasTwo_b26 C hF hW hS (lv_sub hl [] rfl)
theorem mf_X8_hasTwo : ps_mf yX8_hasTwo cX8_hasTwo 3 ((some .boolean)) 2 := ⟨tq_570, tq_62, by decide +kernel, by decide +kernel, by decide +kernel⟩
theorem c_X8_hasTwo {l : Launch} {D : va_G} {Y : ps_A} {B : Nat} {M : ps_M} {a0 : Nat} {x1 : Int32} {x2 : Int32} {r : Int32} {M' : ps_M} (hF : f_X8_hasTwo M a0 x1 x2 = some (r, M')) : Met l yX8_hasTwo (Cond.code yX8_hasTwo cX8_hasTwo 3 ((some .boolean)) :: tb_G) rm_X8_hasTwo (ps_PB D Y B M [.ref (B + a0), .int x1, .int x2]) (va_Qi (fun x (_ : Unit) => x = r) (fun _ t => ps_St D Y B M' t) (fun q => B ≤ q)) 0 0 (fun q => B ≤ q) :=
  pm_of (by decide +kernel) (Nat.le_of_ble_eq_true rfl) (fun p e s m args below meth c C hW hS ls hl => kb_X8_hasTwo C hF hW hS hl)

abbrev rm_X9_feed : Room := { frames := 2, cells := 0, slots := 0, locals := 43 }
def f_X9_feed_b11 (M : ps_M)  : Option (Int32 × ps_M) := some ((-1000000002 : Int32), M)
def f_X9_feed_b43 (M : ps_M) (t0 : Int32) : Option (Int32 × ps_M) := some (t0, M)
def f_X9_feed (M : ps_M) (a0 : Nat) (x1 : Int32) : Option (Int32 × ps_M) := if x1 < 0 then (f_X9_feed_b11 M ) else (if x1 ≤ (255 : Int32) then (ps_gR M a0 8 1 (fun av3 => ps_gR M av3 3 0 (fun av4 => ps_ck M av4 4 (ps_b2 (f_X5_add M av4 x1) (fun xv5 M => if xv5 = 0 then (f_X9_feed_b43 M (-1000000004 : Int32)) else (ps_gR M a0 8 1 (fun av7 => ps_gR M av7 3 0 (fun av8 => ps_gI M av8 4 1 (fun xv9 => f_X9_feed_b43 M xv9))))))))) else (f_X9_feed_b11 M ))
set_option maxRecDepth 100000 in
set_option maxHeartbeats 4000000 in
theorem kb_X9_feed_b11 (C : ps_C p s m args meth c cX9_feed 2 RX9 ((some .int)) "feed" D Y B) {q : Int32 × ps_M}  {M : ps_M}  (hF : f_X9_feed_b11 M  = some q) (hW : ps_W D Y B M H) (hS : va_S (fun q => B ≤ q) s.heap H locs) (hl : lv_has ls 2 []) : W p l e rm_X9_feed s m args below meth c H locs 0 0 (ps_Qi D Y B below args s 0 0 q) (F0 m 11 ls []) := by
  have hx := C.1
  have hb := C.2.1
  have hml := C.2.2.1
  have hown := C.2.2.2.1
  have hts := C.2.2.2.2.1
  unfold f_X9_feed_b11 at hF
  refine lv_ldc (v := -1000000002) hx hb hown (hts _ tq_434) dX9_feed_11 ?_
  exact pw_iret C hW hS dX9_feed_13 hF
set_option maxRecDepth 100000 in
set_option maxHeartbeats 4000000 in
theorem kb_X9_feed_b43 (C : ps_C p s m args meth c cX9_feed 2 RX9 ((some .int)) "feed" D Y B) {q : Int32 × ps_M}  {M : ps_M} {t0 : Int32} (hF : f_X9_feed_b43 M t0 = some q) (hW : ps_W D Y B M H) (hS : va_S (fun q => B ≤ q) s.heap H locs) (hl : lv_has ls 2 []) : W p l e rm_X9_feed s m args below meth c H locs 0 0 (ps_Qi D Y B below args s 0 0 q) (F0 m 43 ls [.int t0]) := by
  have hx := C.1
  have hb := C.2.1
  have hml := C.2.2.1
  have hown := C.2.2.2.1
  have hts := C.2.2.2.2.1
  unfold f_X9_feed_b43 at hF
  exact pw_iret C hW hS dX9_feed_43 hF
set_option maxRecDepth 100000 in
set_option maxHeartbeats 4000000 in
theorem kb_X9_feed (C : ps_C p s m args meth c cX9_feed 2 RX9 ((some .int)) "feed" D Y B) {q : Int32 × ps_M}  {M : ps_M} {a0 : Nat} {x1 : Int32} (hF : f_X9_feed M a0 x1 = some q) (hW : ps_W D Y B M H) (hS : va_S (fun q => B ≤ q) s.heap H locs) (hl : lv_has ls 2 [(0, .ref (B + a0)), (1, .int x1)]) : W p l e rm_X9_feed s m args below meth c H locs 0 0 (ps_Qi D Y B below args s 0 0 q) (F0 m 0 ls []) := by
  have hx := C.1
  have hb := C.2.1
  have hml := C.2.2.1
  have hown := C.2.2.2.1
  have hts := C.2.2.2.2.1
  unfold f_X9_feed at hF
  refine lv_iload_n hx hb dX9_feed_0 rfl (lv_at hl 1 rfl) ?_
  refine lv_if_lt (tgt := 11) hx hb dX9_feed_1 (by decide) (fun hv1 => ?_) (fun hv1 => ?_)
  · replace hF := (if_pos hv1).symm.trans hF
    exact kb_X9_feed_b11 C hF hW hS (lv_sub hl [] rfl)
  · replace hF := (if_neg hv1).symm.trans hF
    refine lv_iload_n hx hb dX9_feed_4 rfl (lv_at hl 1 rfl) ?_
    refine lv_sipush (v := 255) hx hb dX9_feed_5 (by decide) ?_
    refine lv_icmp_le (tgt := 14) hx hb dX9_feed_8 (by decide) (fun hv2 => ?_) (fun hv2 => ?_)
    · replace hF := (if_pos hv2).symm.trans hF
      refine lv_aload_n hx hb dX9_feed_14 rfl (lv_at hl 0 rfl) ?_
      refine pw_gR C hW pc_8 (k := 1) (by decide) rfl tq_397 dX9_feed_15 hF (fun av3 hF => ?_)
      refine pw_gR C hW pc_3 (k := 0) (by decide) rfl tq_189 dX9_feed_18 hF (fun av4 hF => ?_)
      refine lv_iload_n hx hb dX9_feed_21 rfl (lv_at hl 1 rfl) ?_
      obtain ⟨hK, hF⟩ := ps_ck_some hF
      obtain ⟨xv5, M9, hc, hF⟩ := ps_b2_some hF
      refine ps_backI (x0 := xv5) (M' := M9) hS (ps_callV C hW pc_4 mf_X5_add tq_436 tq_437 tq_435 ⟨Nat.le_of_ble_eq_true rfl, Nat.le_of_ble_eq_true rfl⟩ rfl rfl (As := [.int x1]) (rest := []) (c_X5_add hc) hK rfl hl.1 rfl (Nat.le_of_ble_eq_true rfl) dX9_feed_22 ⟨Nat.le_of_ble_eq_true rfl, Nat.le_of_ble_eq_true rfl⟩) (fun H locs hW hS => ?_)
      clear hc
      generalize M9 = M at hW hF
      refine lv_if_eq (tgt := 41) hx hb dX9_feed_25 (by decide) (fun hv6 => ?_) (fun hv6 => ?_)
      · replace hF := (if_pos hv6).symm.trans hF
        refine lv_ldc (v := -1000000004) hx hb hown (hts _ tq_442) dX9_feed_41 ?_
        exact kb_X9_feed_b43 C hF hW hS (lv_sub hl [] rfl)
      · replace hF := (if_neg hv6).symm.trans hF
        refine lv_aload_n hx hb dX9_feed_28 rfl (lv_at hl 0 rfl) ?_
        refine pw_gR C hW pc_8 (k := 1) (by decide) rfl tq_397 dX9_feed_29 hF (fun av7 hF => ?_)
        refine pw_gR C hW pc_3 (k := 0) (by decide) rfl tq_189 dX9_feed_32 hF (fun av8 hF => ?_)
        refine pw_gI C hW pc_4 (k := 1) (by decide) rfl tq_178 dX9_feed_35 hF (fun xv9 hF => ?_)
        refine lv_goto (tgt := 43) hx hb dX9_feed_38 (by decide) ?_
        exact kb_X9_feed_b43 C hF hW hS (lv_sub hl [] rfl)
    · replace hF := (if_neg hv2).symm.trans hF
      exact kb_X9_feed_b11 C hF hW hS (lv_sub hl [] rfl)
theorem mf_X9_feed : ps_mf yX9_feed cX9_feed 2 ((some .int)) 1 := ⟨tq_433, tq_61, by decide +kernel, by decide +kernel, by decide +kernel⟩
theorem c_X9_feed {l : Launch} {D : va_G} {Y : ps_A} {B : Nat} {M : ps_M} {a0 : Nat} {x1 : Int32} {r : Int32} {M' : ps_M} (hF : f_X9_feed M a0 x1 = some (r, M')) : Met l yX9_feed (Cond.code yX9_feed cX9_feed 2 ((some .int)) :: tb_G) rm_X9_feed (ps_PB D Y B M [.ref (B + a0), .int x1]) (va_Qi (fun x (_ : Unit) => x = r) (fun _ t => ps_St D Y B M' t) (fun q => B ≤ q)) 0 0 (fun q => B ≤ q) :=
  pm_of (by decide +kernel) (Nat.le_of_ble_eq_true rfl) (fun p e s m args below meth c C hW hS ls hl => kb_X9_feed C hF hW hS hl)

abbrev rm_X9_yard : Room := { frames := 6, cells := 0, slots := 0, locals := 131 }
def f_X9_yard (M : ps_M) (a0 : Nat) : Option (Int32 × ps_M) := ps_gR M a0 8 1 (fun av1 => ps_ck M av1 3 (ps_b1 (f_X3_readText M av1 ) (fun M => ps_gR M a0 8 1 (fun av2 => ps_gI M av2 3 2 (fun xv3 => if xv3 = 0 then (ps_gR M a0 8 0 (fun av5 => ps_gR M a0 8 1 (fun av6 => ps_gR M av6 3 1 (fun av7 => ps_ck M av5 7 (ps_b1 (f_X8_become M av5 av7) (fun M => ps_gR M a0 8 2 (fun av8 => ps_gR M a0 8 0 (fun av9 => ps_ck M av8 6 (ps_b1 (f_X7_startYard M av8 av9) (fun M => ps_gR M a0 8 6 (fun av10 => ps_ck M av10 4 (ps_b1 (f_X5_clear M av10 ) (fun M => ps_gR M a0 8 7 (fun av11 => ps_ck M av11 4 (ps_b1 (f_X5_clear M av11 ) (fun M => ps_gR M a0 8 3 (fun av12 => ps_ck M av12 2 (ps_b1 (f_X2_clear M av12 ) (fun M => ps_gR M a0 8 8 (fun av13 => ps_pZ M av13 1 2 (0 : Int32) (fun M => ps_gR M a0 8 9 (fun av14 => ps_pZ M av14 1 2 (0 : Int32) (fun M => ps_gR M a0 8 0 (fun av15 => ps_gI M av15 7 0 (fun xv16 => some (xv16, M)))))))))))))))))))))))))) else (ps_gR M a0 8 1 (fun av17 => ps_gI M av17 3 2 (fun xv18 => some (((-10 : Int32) - xv18), M)))))))))
set_option maxRecDepth 100000 in
set_option maxHeartbeats 4000000 in
theorem kb_X9_yard (C : ps_C p s m args meth c cX9_yard 1 RX9 ((some .int)) "yard" D Y B) {q : Int32 × ps_M}  {M : ps_M} {a0 : Nat} (hF : f_X9_yard M a0 = some q) (hW : ps_W D Y B M H) (hS : va_S (fun q => B ≤ q) s.heap H locs) (hl : lv_has ls 1 [(0, .ref (B + a0))]) : W p l e rm_X9_yard s m args below meth c H locs 0 0 (ps_Qi D Y B below args s 0 0 q) (F0 m 0 ls []) := by
  have hx := C.1
  have hb := C.2.1
  have hml := C.2.2.1
  have hown := C.2.2.2.1
  have hts := C.2.2.2.2.1
  unfold f_X9_yard at hF
  refine lv_aload_n hx hb dX9_yard_0 rfl (lv_at hl 0 rfl) ?_
  refine pw_gR C hW pc_8 (k := 1) (by decide) rfl tq_397 dX9_yard_1 hF (fun av1 hF => ?_)
  obtain ⟨hK, hF⟩ := ps_ck_some hF
  obtain ⟨M9, hc, hF⟩ := ps_b1_some hF
  refine ps_backV (M' := M9) hS (ps_callV C hW pc_3 mf_X3_readText tq_448 tq_449 tq_447 ⟨Nat.le_of_ble_eq_true rfl, Nat.le_of_ble_eq_true rfl⟩ rfl rfl (As := []) (rest := []) (c_X3_readText hc) hK rfl hl.1 rfl (Nat.le_of_ble_eq_true rfl) dX9_yard_4 ⟨Nat.le_of_ble_eq_true rfl, Nat.le_of_ble_eq_true rfl⟩) (fun H locs hW hS => ?_)
  clear hc
  generalize M9 = M at hW hF
  refine lv_aload_n hx hb dX9_yard_7 rfl (lv_at hl 0 rfl) ?_
  refine pw_gR C hW pc_8 (k := 1) (by decide) rfl tq_397 dX9_yard_8 hF (fun av2 hF => ?_)
  refine pw_gI C hW pc_3 (k := 2) (by decide) rfl tq_193 dX9_yard_11 hF (fun xv3 hF => ?_)
  refine lv_if_eq (tgt := 28) hx hb dX9_yard_14 (by decide) (fun hv4 => ?_) (fun hv4 => ?_)
  · replace hF := (if_pos hv4).symm.trans hF
    refine lv_aload_n hx hb dX9_yard_28 rfl (lv_at hl 0 rfl) ?_
    refine pw_gR C hW pc_8 (k := 0) (by decide) rfl tq_396 dX9_yard_29 hF (fun av5 hF => ?_)
    refine lv_aload_n hx hb dX9_yard_32 rfl (lv_at hl 0 rfl) ?_
    refine pw_gR C hW pc_8 (k := 1) (by decide) rfl tq_397 dX9_yard_33 hF (fun av6 hF => ?_)
    refine pw_gR C hW pc_3 (k := 1) (by decide) rfl tq_191 dX9_yard_36 hF (fun av7 hF => ?_)
    obtain ⟨hK, hF⟩ := ps_ck_some hF
    obtain ⟨M9, hc, hF⟩ := ps_b1_some hF
    refine ps_backV (M' := M9) hS (ps_callV C hW pc_7 mf_X8_become tq_504 tq_505 tq_503 ⟨Nat.le_of_ble_eq_true rfl, Nat.le_of_ble_eq_true rfl⟩ rfl rfl (As := [.ref (B + av7)]) (rest := []) (c_X8_become hc) hK rfl hl.1 rfl (Nat.le_of_ble_eq_true rfl) dX9_yard_39 ⟨Nat.le_of_ble_eq_true rfl, Nat.le_of_ble_eq_true rfl⟩) (fun H locs hW hS => ?_)
    clear hc
    generalize M9 = M at hW hF
    refine lv_aload_n hx hb dX9_yard_42 rfl (lv_at hl 0 rfl) ?_
    refine pw_gR C hW pc_8 (k := 2) (by decide) rfl tq_398 dX9_yard_43 hF (fun av8 hF => ?_)
    refine lv_aload_n hx hb dX9_yard_46 rfl (lv_at hl 0 rfl) ?_
    refine pw_gR C hW pc_8 (k := 0) (by decide) rfl tq_396 dX9_yard_47 hF (fun av9 hF => ?_)
    obtain ⟨hK, hF⟩ := ps_ck_some hF
    obtain ⟨M9, hc, hF⟩ := ps_b1_some hF
    refine ps_backV (M' := M9) hS (ps_callV C hW pc_6 mf_X7_startYard tq_511 tq_512 tq_510 ⟨Nat.le_of_ble_eq_true rfl, Nat.le_of_ble_eq_true rfl⟩ rfl rfl (As := [.ref (B + av9)]) (rest := []) (c_X7_startYard hc) hK rfl hl.1 rfl (Nat.le_of_ble_eq_true rfl) dX9_yard_50 ⟨Nat.le_of_ble_eq_true rfl, Nat.le_of_ble_eq_true rfl⟩) (fun H locs hW hS => ?_)
    clear hc
    generalize M9 = M at hW hF
    refine lv_aload_n hx hb dX9_yard_53 rfl (lv_at hl 0 rfl) ?_
    refine pw_gR C hW pc_8 (k := 6) (by decide) rfl tq_402 dX9_yard_54 hF (fun av10 hF => ?_)
    obtain ⟨hK, hF⟩ := ps_ck_some hF
    obtain ⟨M9, hc, hF⟩ := ps_b1_some hF
    refine ps_backV (M' := M9) hS (ps_callV C hW pc_4 mf_X5_clear tq_500 tq_501 tq_522 ⟨Nat.le_of_ble_eq_true rfl, Nat.le_of_ble_eq_true rfl⟩ rfl rfl (As := []) (rest := []) (c_X5_clear hc) hK rfl hl.1 rfl (Nat.le_of_ble_eq_true rfl) dX9_yard_57 ⟨Nat.le_of_ble_eq_true rfl, Nat.le_of_ble_eq_true rfl⟩) (fun H locs hW hS => ?_)
    clear hc
    generalize M9 = M at hW hF
    refine lv_aload_n hx hb dX9_yard_60 rfl (lv_at hl 0 rfl) ?_
    refine pw_gR C hW pc_8 (k := 7) (by decide) rfl tq_403 dX9_yard_61 hF (fun av11 hF => ?_)
    obtain ⟨hK, hF⟩ := ps_ck_some hF
    obtain ⟨M9, hc, hF⟩ := ps_b1_some hF
    refine ps_backV (M' := M9) hS (ps_callV C hW pc_4 mf_X5_clear tq_500 tq_501 tq_522 ⟨Nat.le_of_ble_eq_true rfl, Nat.le_of_ble_eq_true rfl⟩ rfl rfl (As := []) (rest := []) (c_X5_clear hc) hK rfl hl.1 rfl (Nat.le_of_ble_eq_true rfl) dX9_yard_64 ⟨Nat.le_of_ble_eq_true rfl, Nat.le_of_ble_eq_true rfl⟩) (fun H locs hW hS => ?_)
    clear hc
    generalize M9 = M at hW hF
    refine lv_aload_n hx hb dX9_yard_67 rfl (lv_at hl 0 rfl) ?_
    refine pw_gR C hW pc_8 (k := 3) (by decide) rfl tq_399 dX9_yard_68 hF (fun av12 hF => ?_)
    obtain ⟨hK, hF⟩ := ps_ck_some hF
    obtain ⟨M9, hc, hF⟩ := ps_b1_some hF
    refine ps_backV (M' := M9) hS (ps_callV C hW pc_2 mf_X2_clear tq_524 tq_525 tq_523 ⟨Nat.le_of_ble_eq_true rfl, Nat.le_of_ble_eq_true rfl⟩ rfl rfl (As := []) (rest := []) (c_X2_clear hc) hK rfl hl.1 rfl (Nat.le_of_ble_eq_true rfl) dX9_yard_71 ⟨Nat.le_of_ble_eq_true rfl, Nat.le_of_ble_eq_true rfl⟩) (fun H locs hW hS => ?_)
    clear hc
    generalize M9 = M at hW hF
    refine lv_aload_n hx hb dX9_yard_74 rfl (lv_at hl 0 rfl) ?_
    refine pw_gR C hW pc_8 (k := 8) (by decide) rfl tq_404 dX9_yard_75 hF (fun av13 hF => ?_)
    refine lv_iconst (v := 0) hx hb dX9_yard_78 (by decide) ?_
    refine pw_pZ C hW hS pc_1 (k := 2) (by decide) rfl rfl tq_388 rfl dX9_yard_79 hF (fun M H locs hW hS hF => ?_)
    refine lv_aload_n hx hb dX9_yard_82 rfl (lv_at hl 0 rfl) ?_
    refine pw_gR C hW pc_8 (k := 9) (by decide) rfl tq_405 dX9_yard_83 hF (fun av14 hF => ?_)
    refine lv_iconst (v := 0) hx hb dX9_yard_86 (by decide) ?_
    refine pw_pZ C hW hS pc_1 (k := 2) (by decide) rfl rfl tq_388 rfl dX9_yard_87 hF (fun M H locs hW hS hF => ?_)
    refine lv_aload_n hx hb dX9_yard_90 rfl (lv_at hl 0 rfl) ?_
    refine pw_gR C hW pc_8 (k := 0) (by decide) rfl tq_396 dX9_yard_91 hF (fun av15 hF => ?_)
    refine pw_gI C hW pc_7 (k := 0) (by decide) rfl tq_89 dX9_yard_94 hF (fun xv16 hF => ?_)
    exact pw_iret C hW hS dX9_yard_97 hF
  · replace hF := (if_neg hv4).symm.trans hF
    refine lv_bipush (v := -10) hx hb dX9_yard_17 (by decide) ?_
    refine lv_aload_n hx hb dX9_yard_19 rfl (lv_at hl 0 rfl) ?_
    refine pw_gR C hW pc_8 (k := 1) (by decide) rfl tq_397 dX9_yard_20 hF (fun av17 hF => ?_)
    refine pw_gI C hW pc_3 (k := 2) (by decide) rfl tq_193 dX9_yard_23 hF (fun xv18 hF => ?_)
    refine lv_isub hx hb dX9_yard_26 ?_
    exact pw_iret C hW hS dX9_yard_27 hF
theorem mf_X9_yard : ps_mf yX9_yard cX9_yard 1 ((some .int)) 0 := ⟨tq_446, tq_61, by decide +kernel, by decide +kernel, by decide +kernel⟩
theorem c_X9_yard {l : Launch} {D : va_G} {Y : ps_A} {B : Nat} {M : ps_M} {a0 : Nat} {r : Int32} {M' : ps_M} (hF : f_X9_yard M a0 = some (r, M')) : Met l yX9_yard (Cond.code yX9_yard cX9_yard 1 ((some .int)) :: tb_G) rm_X9_yard (ps_PB D Y B M [.ref (B + a0)]) (va_Qi (fun x (_ : Unit) => x = r) (fun _ t => ps_St D Y B M' t) (fun q => B ≤ q)) 0 0 (fun q => B ≤ q) :=
  pm_of (by decide +kernel) (Nat.le_of_ble_eq_true rfl) (fun p e s m args below meth c C hW hS ls hl => kb_X9_yard C hF hW hS hl)

abbrev rm_X9_fault : Room := { frames := 0, cells := 0, slots := 0, locals := 0 }
def f_X9_fault (M : ps_M) (a0 : Nat) : Option (Int32 × ps_M) := ps_gR M a0 8 1 (fun av1 => ps_gI M av1 3 3 (fun xv2 => some (xv2, M)))
set_option maxRecDepth 100000 in
set_option maxHeartbeats 4000000 in
theorem kb_X9_fault (C : ps_C p s m args meth c cX9_fault 1 RX9 ((some .int)) "fault" D Y B) {q : Int32 × ps_M}  {M : ps_M} {a0 : Nat} (hF : f_X9_fault M a0 = some q) (hW : ps_W D Y B M H) (hS : va_S (fun q => B ≤ q) s.heap H locs) (hl : lv_has ls 1 [(0, .ref (B + a0))]) : W p l e rm_X9_fault s m args below meth c H locs 0 0 (ps_Qi D Y B below args s 0 0 q) (F0 m 0 ls []) := by
  have hx := C.1
  have hb := C.2.1
  have hml := C.2.2.1
  have hown := C.2.2.2.1
  have hts := C.2.2.2.2.1
  unfold f_X9_fault at hF
  refine lv_aload_n hx hb dX9_fault_0 rfl (lv_at hl 0 rfl) ?_
  refine pw_gR C hW pc_8 (k := 1) (by decide) rfl tq_397 dX9_fault_1 hF (fun av1 hF => ?_)
  refine pw_gI C hW pc_3 (k := 3) (by decide) rfl tq_195 dX9_fault_4 hF (fun xv2 hF => ?_)
  exact pw_iret C hW hS dX9_fault_7 hF
theorem mf_X9_fault : ps_mf yX9_fault cX9_fault 1 ((some .int)) 0 := ⟨tq_530, tq_61, by decide +kernel, by decide +kernel, by decide +kernel⟩
theorem c_X9_fault {l : Launch} {D : va_G} {Y : ps_A} {B : Nat} {M : ps_M} {a0 : Nat} {r : Int32} {M' : ps_M} (hF : f_X9_fault M a0 = some (r, M')) : Met l yX9_fault (Cond.code yX9_fault cX9_fault 1 ((some .int)) :: tb_G) rm_X9_fault (ps_PB D Y B M [.ref (B + a0)]) (va_Qi (fun x (_ : Unit) => x = r) (fun _ t => ps_St D Y B M' t) (fun q => B ≤ q)) 0 0 (fun q => B ≤ q) :=
  pm_of (by decide +kernel) (Nat.le_of_ble_eq_true rfl) (fun p e s m args below meth c C hW hS ls hl => kb_X9_fault C hF hW hS hl)

abbrev rm_X9_told : Room := { frames := 2, cells := 0, slots := 0, locals := 41 }
def f_X9_told_b190 (M : ps_M) (t0 : Int32) : Option (Int32 × ps_M) := some (t0, M)
def f_X9_told_b242 (M : ps_M) (t0 : Int32) : Option (Int32 × ps_M) := some (t0, M)
def f_X9_told (M : ps_M) (a0 : Nat) (x1 : Int32) : Option (Int32 × ps_M) := if x1 = 0 then (ps_gR M a0 8 0 (fun av20 => ps_gI M av20 7 0 (fun xv21 => some (xv21, M)))) else (if x1 = 1 then (ps_gR M a0 8 0 (fun av22 => ps_gI M av22 7 1 (fun xv23 => some (xv23, M)))) else (if x1 = 2 then (ps_gR M a0 8 1 (fun av24 => ps_gR M av24 3 0 (fun av25 => ps_gI M av25 4 1 (fun xv26 => some (xv26, M))))) else (if x1 = 3 then (ps_gR M a0 8 2 (fun av27 => ps_gI M av27 6 0 (fun xv28 => some (xv28, M)))) else (if x1 = 4 then (ps_gR M a0 8 2 (fun av29 => ps_gI M av29 6 1 (fun xv30 => some (xv30, M)))) else (if x1 = 5 then (ps_gR M a0 8 2 (fun av31 => ps_gI M av31 6 2 (fun xv32 => some (xv32, M)))) else (if x1 = 6 then (ps_gR M a0 8 2 (fun av33 => ps_gI M av33 6 3 (fun xv34 => some (xv34, M)))) else (if x1 = 7 then (ps_gR M a0 8 2 (fun av35 => ps_gI M av35 6 4 (fun xv36 => some (xv36, M)))) else (if x1 = 8 then (ps_gR M a0 8 2 (fun av37 => ps_gI M av37 6 5 (fun xv38 => some (xv38, M)))) else (if x1 = 9 then (ps_gR M a0 8 2 (fun av39 => ps_gI M av39 6 6 (fun xv40 => some (xv40, M)))) else (if x1 = 10 then (ps_gR M a0 8 2 (fun av41 => ps_gI M av41 6 8 (fun xv42 => if xv42 = 0 then (f_X9_told_b190 M (0 : Int32)) else (f_X9_told_b190 M (1 : Int32))))) else (if x1 = 11 then (ps_gR M a0 8 2 (fun av44 => ps_gI M av44 6 7 (fun xv45 => some (xv45, M)))) else (if x1 = 12 then (ps_gR M a0 8 0 (fun av46 => ps_gI M av46 7 3 (fun xv47 => some (xv47, M)))) else (if x1 = 13 then (ps_gR M a0 8 0 (fun av48 => ps_gI M av48 7 4 (fun xv49 => some (xv49, M)))) else (if x1 = 14 then (ps_gR M a0 8 0 (fun av50 => ps_gI M av50 7 5 (fun xv51 => some (xv51, M)))) else (if x1 = 15 then (ps_gR M a0 8 2 (fun av52 => ps_gR M a0 8 0 (fun av53 => ps_ck M av52 6 (ps_b2 (f_X7_isThrough M av52 av53) (fun xv54 M => if xv54 = 0 then (f_X9_told_b242 M (0 : Int32)) else (f_X9_told_b242 M (1 : Int32))))))) else (if x1 = 16 then (ps_gR M a0 8 6 (fun av56 => ps_gI M av56 4 1 (fun xv57 => some (xv57, M)))) else (if x1 = 17 then (ps_gR M a0 8 7 (fun av58 => ps_gI M av58 4 1 (fun xv59 => some (xv59, M)))) else (if x1 = 18 then (ps_gR M a0 8 3 (fun av60 => ps_gI M av60 2 0 (fun xv61 => some (xv61, M)))) else (some ((-1000000002 : Int32), M))))))))))))))))))))
set_option maxRecDepth 100000 in
set_option maxHeartbeats 4000000 in
theorem kb_X9_told_b190 (C : ps_C p s m args meth c cX9_told 2 RX9 ((some .int)) "told" D Y B) {q : Int32 × ps_M}  {M : ps_M} {t0 : Int32} (hF : f_X9_told_b190 M t0 = some q) (hW : ps_W D Y B M H) (hS : va_S (fun q => B ≤ q) s.heap H locs) (hl : lv_has ls 2 []) : W p l e rm_X9_told s m args below meth c H locs 0 0 (ps_Qi D Y B below args s 0 0 q) (F0 m 190 ls [.int t0]) := by
  have hx := C.1
  have hb := C.2.1
  have hml := C.2.2.1
  have hown := C.2.2.2.1
  have hts := C.2.2.2.2.1
  unfold f_X9_told_b190 at hF
  exact pw_iret C hW hS dX9_told_190 hF
set_option maxRecDepth 100000 in
set_option maxHeartbeats 4000000 in
theorem kb_X9_told_b242 (C : ps_C p s m args meth c cX9_told 2 RX9 ((some .int)) "told" D Y B) {q : Int32 × ps_M}  {M : ps_M} {t0 : Int32} (hF : f_X9_told_b242 M t0 = some q) (hW : ps_W D Y B M H) (hS : va_S (fun q => B ≤ q) s.heap H locs) (hl : lv_has ls 2 []) : W p l e rm_X9_told s m args below meth c H locs 0 0 (ps_Qi D Y B below args s 0 0 q) (F0 m 242 ls [.int t0]) := by
  have hx := C.1
  have hb := C.2.1
  have hml := C.2.2.1
  have hown := C.2.2.2.1
  have hts := C.2.2.2.2.1
  unfold f_X9_told_b242 at hF
  exact pw_iret C hW hS dX9_told_242 hF
set_option maxRecDepth 100000 in
set_option maxHeartbeats 4000000 in
theorem kb_X9_told (C : ps_C p s m args meth c cX9_told 2 RX9 ((some .int)) "told" D Y B) {q : Int32 × ps_M}  {M : ps_M} {a0 : Nat} {x1 : Int32} (hF : f_X9_told M a0 x1 = some q) (hW : ps_W D Y B M H) (hS : va_S (fun q => B ≤ q) s.heap H locs) (hl : lv_has ls 2 [(0, .ref (B + a0)), (1, .int x1)]) : W p l e rm_X9_told s m args below meth c H locs 0 0 (ps_Qi D Y B below args s 0 0 q) (F0 m 0 ls []) := by
  have hx := C.1
  have hb := C.2.1
  have hml := C.2.2.1
  have hown := C.2.2.2.1
  have hts := C.2.2.2.2.1
  unfold f_X9_told at hF
  refine lv_iload_n hx hb dX9_told_0 rfl (lv_at hl 1 rfl) ?_
  by_cases hv1 : x1 = 0
  · replace hF := (if_pos hv1).symm.trans hF
    refine lv_tableIn (tgt := 92) hx hb dX9_told_1 (by rw [hv1]; decide) (by rw [hv1]; decide) (by rw [hv1]; rfl) (by decide) ?_
    refine lv_aload_n hx hb dX9_told_92 rfl (lv_at hl 0 rfl) ?_
    refine pw_gR C hW pc_8 (k := 0) (by decide) rfl tq_396 dX9_told_93 hF (fun av20 hF => ?_)
    refine pw_gI C hW pc_7 (k := 0) (by decide) rfl tq_89 dX9_told_96 hF (fun xv21 hF => ?_)
    exact pw_iret C hW hS dX9_told_99 hF
  replace hF := (if_neg hv1).symm.trans hF
  by_cases hv2 : x1 = 1
  · replace hF := (if_pos hv2).symm.trans hF
    refine lv_tableIn (tgt := 100) hx hb dX9_told_1 (by rw [hv2]; decide) (by rw [hv2]; decide) (by rw [hv2]; rfl) (by decide) ?_
    refine lv_aload_n hx hb dX9_told_100 rfl (lv_at hl 0 rfl) ?_
    refine pw_gR C hW pc_8 (k := 0) (by decide) rfl tq_396 dX9_told_101 hF (fun av22 hF => ?_)
    refine pw_gI C hW pc_7 (k := 1) (by decide) rfl tq_94 dX9_told_104 hF (fun xv23 hF => ?_)
    exact pw_iret C hW hS dX9_told_107 hF
  replace hF := (if_neg hv2).symm.trans hF
  by_cases hv3 : x1 = 2
  · replace hF := (if_pos hv3).symm.trans hF
    refine lv_tableIn (tgt := 108) hx hb dX9_told_1 (by rw [hv3]; decide) (by rw [hv3]; decide) (by rw [hv3]; rfl) (by decide) ?_
    refine lv_aload_n hx hb dX9_told_108 rfl (lv_at hl 0 rfl) ?_
    refine pw_gR C hW pc_8 (k := 1) (by decide) rfl tq_397 dX9_told_109 hF (fun av24 hF => ?_)
    refine pw_gR C hW pc_3 (k := 0) (by decide) rfl tq_189 dX9_told_112 hF (fun av25 hF => ?_)
    refine pw_gI C hW pc_4 (k := 1) (by decide) rfl tq_178 dX9_told_115 hF (fun xv26 hF => ?_)
    exact pw_iret C hW hS dX9_told_118 hF
  replace hF := (if_neg hv3).symm.trans hF
  by_cases hv4 : x1 = 3
  · replace hF := (if_pos hv4).symm.trans hF
    refine lv_tableIn (tgt := 119) hx hb dX9_told_1 (by rw [hv4]; decide) (by rw [hv4]; decide) (by rw [hv4]; rfl) (by decide) ?_
    refine lv_aload_n hx hb dX9_told_119 rfl (lv_at hl 0 rfl) ?_
    refine pw_gR C hW pc_8 (k := 2) (by decide) rfl tq_398 dX9_told_120 hF (fun av27 hF => ?_)
    refine pw_gI C hW pc_6 (k := 0) (by decide) rfl tq_221 dX9_told_123 hF (fun xv28 hF => ?_)
    exact pw_iret C hW hS dX9_told_126 hF
  replace hF := (if_neg hv4).symm.trans hF
  by_cases hv5 : x1 = 4
  · replace hF := (if_pos hv5).symm.trans hF
    refine lv_tableIn (tgt := 127) hx hb dX9_told_1 (by rw [hv5]; decide) (by rw [hv5]; decide) (by rw [hv5]; rfl) (by decide) ?_
    refine lv_aload_n hx hb dX9_told_127 rfl (lv_at hl 0 rfl) ?_
    refine pw_gR C hW pc_8 (k := 2) (by decide) rfl tq_398 dX9_told_128 hF (fun av29 hF => ?_)
    refine pw_gI C hW pc_6 (k := 1) (by decide) rfl tq_224 dX9_told_131 hF (fun xv30 hF => ?_)
    exact pw_iret C hW hS dX9_told_134 hF
  replace hF := (if_neg hv5).symm.trans hF
  by_cases hv6 : x1 = 5
  · replace hF := (if_pos hv6).symm.trans hF
    refine lv_tableIn (tgt := 135) hx hb dX9_told_1 (by rw [hv6]; decide) (by rw [hv6]; decide) (by rw [hv6]; rfl) (by decide) ?_
    refine lv_aload_n hx hb dX9_told_135 rfl (lv_at hl 0 rfl) ?_
    refine pw_gR C hW pc_8 (k := 2) (by decide) rfl tq_398 dX9_told_136 hF (fun av31 hF => ?_)
    refine pw_gI C hW pc_6 (k := 2) (by decide) rfl tq_227 dX9_told_139 hF (fun xv32 hF => ?_)
    exact pw_iret C hW hS dX9_told_142 hF
  replace hF := (if_neg hv6).symm.trans hF
  by_cases hv7 : x1 = 6
  · replace hF := (if_pos hv7).symm.trans hF
    refine lv_tableIn (tgt := 143) hx hb dX9_told_1 (by rw [hv7]; decide) (by rw [hv7]; decide) (by rw [hv7]; rfl) (by decide) ?_
    refine lv_aload_n hx hb dX9_told_143 rfl (lv_at hl 0 rfl) ?_
    refine pw_gR C hW pc_8 (k := 2) (by decide) rfl tq_398 dX9_told_144 hF (fun av33 hF => ?_)
    refine pw_gI C hW pc_6 (k := 3) (by decide) rfl tq_229 dX9_told_147 hF (fun xv34 hF => ?_)
    exact pw_iret C hW hS dX9_told_150 hF
  replace hF := (if_neg hv7).symm.trans hF
  by_cases hv8 : x1 = 7
  · replace hF := (if_pos hv8).symm.trans hF
    refine lv_tableIn (tgt := 151) hx hb dX9_told_1 (by rw [hv8]; decide) (by rw [hv8]; decide) (by rw [hv8]; rfl) (by decide) ?_
    refine lv_aload_n hx hb dX9_told_151 rfl (lv_at hl 0 rfl) ?_
    refine pw_gR C hW pc_8 (k := 2) (by decide) rfl tq_398 dX9_told_152 hF (fun av35 hF => ?_)
    refine pw_gI C hW pc_6 (k := 4) (by decide) rfl tq_232 dX9_told_155 hF (fun xv36 hF => ?_)
    exact pw_iret C hW hS dX9_told_158 hF
  replace hF := (if_neg hv8).symm.trans hF
  by_cases hv9 : x1 = 8
  · replace hF := (if_pos hv9).symm.trans hF
    refine lv_tableIn (tgt := 159) hx hb dX9_told_1 (by rw [hv9]; decide) (by rw [hv9]; decide) (by rw [hv9]; rfl) (by decide) ?_
    refine lv_aload_n hx hb dX9_told_159 rfl (lv_at hl 0 rfl) ?_
    refine pw_gR C hW pc_8 (k := 2) (by decide) rfl tq_398 dX9_told_160 hF (fun av37 hF => ?_)
    refine pw_gI C hW pc_6 (k := 5) (by decide) rfl tq_234 dX9_told_163 hF (fun xv38 hF => ?_)
    exact pw_iret C hW hS dX9_told_166 hF
  replace hF := (if_neg hv9).symm.trans hF
  by_cases hv10 : x1 = 9
  · replace hF := (if_pos hv10).symm.trans hF
    refine lv_tableIn (tgt := 167) hx hb dX9_told_1 (by rw [hv10]; decide) (by rw [hv10]; decide) (by rw [hv10]; rfl) (by decide) ?_
    refine lv_aload_n hx hb dX9_told_167 rfl (lv_at hl 0 rfl) ?_
    refine pw_gR C hW pc_8 (k := 2) (by decide) rfl tq_398 dX9_told_168 hF (fun av39 hF => ?_)
    refine pw_gI C hW pc_6 (k := 6) (by decide) rfl tq_236 dX9_told_171 hF (fun xv40 hF => ?_)
    exact pw_iret C hW hS dX9_told_174 hF
  replace hF := (if_neg hv10).symm.trans hF
  by_cases hv11 : x1 = 10
  · replace hF := (if_pos hv11).symm.trans hF
    refine lv_tableIn (tgt := 175) hx hb dX9_told_1 (by rw [hv11]; decide) (by rw [hv11]; decide) (by rw [hv11]; rfl) (by decide) ?_
    refine lv_aload_n hx hb dX9_told_175 rfl (lv_at hl 0 rfl) ?_
    refine pw_gR C hW pc_8 (k := 2) (by decide) rfl tq_398 dX9_told_176 hF (fun av41 hF => ?_)
    refine pw_gI C hW pc_6 (k := 8) (by decide) rfl tq_241 dX9_told_179 hF (fun xv42 hF => ?_)
    refine lv_if_eq (tgt := 189) hx hb dX9_told_182 (by decide) (fun hv43 => ?_) (fun hv43 => ?_)
    · replace hF := (if_pos hv43).symm.trans hF
      refine lv_iconst (v := 0) hx hb dX9_told_189 (by decide) ?_
      exact kb_X9_told_b190 C hF hW hS (lv_sub hl [] rfl)
    · replace hF := (if_neg hv43).symm.trans hF
      refine lv_iconst (v := 1) hx hb dX9_told_185 (by decide) ?_
      refine lv_goto (tgt := 190) hx hb dX9_told_186 (by decide) ?_
      exact kb_X9_told_b190 C hF hW hS (lv_sub hl [] rfl)
  replace hF := (if_neg hv11).symm.trans hF
  by_cases hv12 : x1 = 11
  · replace hF := (if_pos hv12).symm.trans hF
    refine lv_tableIn (tgt := 191) hx hb dX9_told_1 (by rw [hv12]; decide) (by rw [hv12]; decide) (by rw [hv12]; rfl) (by decide) ?_
    refine lv_aload_n hx hb dX9_told_191 rfl (lv_at hl 0 rfl) ?_
    refine pw_gR C hW pc_8 (k := 2) (by decide) rfl tq_398 dX9_told_192 hF (fun av44 hF => ?_)
    refine pw_gI C hW pc_6 (k := 7) (by decide) rfl tq_238 dX9_told_195 hF (fun xv45 hF => ?_)
    exact pw_iret C hW hS dX9_told_198 hF
  replace hF := (if_neg hv12).symm.trans hF
  by_cases hv13 : x1 = 12
  · replace hF := (if_pos hv13).symm.trans hF
    refine lv_tableIn (tgt := 199) hx hb dX9_told_1 (by rw [hv13]; decide) (by rw [hv13]; decide) (by rw [hv13]; rfl) (by decide) ?_
    refine lv_aload_n hx hb dX9_told_199 rfl (lv_at hl 0 rfl) ?_
    refine pw_gR C hW pc_8 (k := 0) (by decide) rfl tq_396 dX9_told_200 hF (fun av46 hF => ?_)
    refine pw_gI C hW pc_7 (k := 3) (by decide) rfl tq_100 dX9_told_203 hF (fun xv47 hF => ?_)
    exact pw_iret C hW hS dX9_told_206 hF
  replace hF := (if_neg hv13).symm.trans hF
  by_cases hv14 : x1 = 13
  · replace hF := (if_pos hv14).symm.trans hF
    refine lv_tableIn (tgt := 207) hx hb dX9_told_1 (by rw [hv14]; decide) (by rw [hv14]; decide) (by rw [hv14]; rfl) (by decide) ?_
    refine lv_aload_n hx hb dX9_told_207 rfl (lv_at hl 0 rfl) ?_
    refine pw_gR C hW pc_8 (k := 0) (by decide) rfl tq_396 dX9_told_208 hF (fun av48 hF => ?_)
    refine pw_gI C hW pc_7 (k := 4) (by decide) rfl tq_104 dX9_told_211 hF (fun xv49 hF => ?_)
    exact pw_iret C hW hS dX9_told_214 hF
  replace hF := (if_neg hv14).symm.trans hF
  by_cases hv15 : x1 = 14
  · replace hF := (if_pos hv15).symm.trans hF
    refine lv_tableIn (tgt := 215) hx hb dX9_told_1 (by rw [hv15]; decide) (by rw [hv15]; decide) (by rw [hv15]; rfl) (by decide) ?_
    refine lv_aload_n hx hb dX9_told_215 rfl (lv_at hl 0 rfl) ?_
    refine pw_gR C hW pc_8 (k := 0) (by decide) rfl tq_396 dX9_told_216 hF (fun av50 hF => ?_)
    refine pw_gI C hW pc_7 (k := 5) (by decide) rfl tq_109 dX9_told_219 hF (fun xv51 hF => ?_)
    exact pw_iret C hW hS dX9_told_222 hF
  replace hF := (if_neg hv15).symm.trans hF
  by_cases hv16 : x1 = 15
  · replace hF := (if_pos hv16).symm.trans hF
    refine lv_tableIn (tgt := 223) hx hb dX9_told_1 (by rw [hv16]; decide) (by rw [hv16]; decide) (by rw [hv16]; rfl) (by decide) ?_
    refine lv_aload_n hx hb dX9_told_223 rfl (lv_at hl 0 rfl) ?_
    refine pw_gR C hW pc_8 (k := 2) (by decide) rfl tq_398 dX9_told_224 hF (fun av52 hF => ?_)
    refine lv_aload_n hx hb dX9_told_227 rfl (lv_at hl 0 rfl) ?_
    refine pw_gR C hW pc_8 (k := 0) (by decide) rfl tq_396 dX9_told_228 hF (fun av53 hF => ?_)
    obtain ⟨hK, hF⟩ := ps_ck_some hF
    obtain ⟨xv54, M9, hc, hF⟩ := ps_b2_some hF
    refine ps_backI (x0 := xv54) (M' := M9) hS (ps_callV C hW pc_6 mf_X7_isThrough tq_536 tq_537 tq_535 ⟨Nat.le_of_ble_eq_true rfl, Nat.le_of_ble_eq_true rfl⟩ rfl rfl (As := [.ref (B + av53)]) (rest := []) (c_X7_isThrough hc) hK rfl hl.1 rfl (Nat.le_of_ble_eq_true rfl) dX9_told_231 ⟨Nat.le_of_ble_eq_true rfl, Nat.le_of_ble_eq_true rfl⟩) (fun H locs hW hS => ?_)
    clear hc
    generalize M9 = M at hW hF
    refine lv_if_eq (tgt := 241) hx hb dX9_told_234 (by decide) (fun hv55 => ?_) (fun hv55 => ?_)
    · replace hF := (if_pos hv55).symm.trans hF
      refine lv_iconst (v := 0) hx hb dX9_told_241 (by decide) ?_
      exact kb_X9_told_b242 C hF hW hS (lv_sub hl [] rfl)
    · replace hF := (if_neg hv55).symm.trans hF
      refine lv_iconst (v := 1) hx hb dX9_told_237 (by decide) ?_
      refine lv_goto (tgt := 242) hx hb dX9_told_238 (by decide) ?_
      exact kb_X9_told_b242 C hF hW hS (lv_sub hl [] rfl)
  replace hF := (if_neg hv16).symm.trans hF
  by_cases hv17 : x1 = 16
  · replace hF := (if_pos hv17).symm.trans hF
    refine lv_tableIn (tgt := 243) hx hb dX9_told_1 (by rw [hv17]; decide) (by rw [hv17]; decide) (by rw [hv17]; rfl) (by decide) ?_
    refine lv_aload_n hx hb dX9_told_243 rfl (lv_at hl 0 rfl) ?_
    refine pw_gR C hW pc_8 (k := 6) (by decide) rfl tq_402 dX9_told_244 hF (fun av56 hF => ?_)
    refine pw_gI C hW pc_4 (k := 1) (by decide) rfl tq_178 dX9_told_247 hF (fun xv57 hF => ?_)
    exact pw_iret C hW hS dX9_told_250 hF
  replace hF := (if_neg hv17).symm.trans hF
  by_cases hv18 : x1 = 17
  · replace hF := (if_pos hv18).symm.trans hF
    refine lv_tableIn (tgt := 251) hx hb dX9_told_1 (by rw [hv18]; decide) (by rw [hv18]; decide) (by rw [hv18]; rfl) (by decide) ?_
    refine lv_aload_n hx hb dX9_told_251 rfl (lv_at hl 0 rfl) ?_
    refine pw_gR C hW pc_8 (k := 7) (by decide) rfl tq_403 dX9_told_252 hF (fun av58 hF => ?_)
    refine pw_gI C hW pc_4 (k := 1) (by decide) rfl tq_178 dX9_told_255 hF (fun xv59 hF => ?_)
    exact pw_iret C hW hS dX9_told_258 hF
  replace hF := (if_neg hv18).symm.trans hF
  by_cases hv19 : x1 = 18
  · replace hF := (if_pos hv19).symm.trans hF
    refine lv_tableIn (tgt := 259) hx hb dX9_told_1 (by rw [hv19]; decide) (by rw [hv19]; decide) (by rw [hv19]; rfl) (by decide) ?_
    refine lv_aload_n hx hb dX9_told_259 rfl (lv_at hl 0 rfl) ?_
    refine pw_gR C hW pc_8 (k := 3) (by decide) rfl tq_399 dX9_told_260 hF (fun av60 hF => ?_)
    refine pw_gI C hW pc_2 (k := 0) (by decide) rfl tq_292 dX9_told_263 hF (fun xv61 hF => ?_)
    exact pw_iret C hW hS dX9_told_266 hF
  replace hF := (if_neg hv19).symm.trans hF
  refine lv_tableOut (tgt := 267) hx hb dX9_told_1 (by have := ps_tn hv1 (z := 0) rfl; have := ps_tn hv2 (z := 1) rfl; have := ps_tn hv3 (z := 2) rfl; have := ps_tn hv4 (z := 3) rfl; have := ps_tn hv5 (z := 4) rfl; have := ps_tn hv6 (z := 5) rfl; have := ps_tn hv7 (z := 6) rfl; have := ps_tn hv8 (z := 7) rfl; have := ps_tn hv9 (z := 8) rfl; have := ps_tn hv10 (z := 9) rfl; have := ps_tn hv11 (z := 10) rfl; have := ps_tn hv12 (z := 11) rfl; have := ps_tn hv13 (z := 12) rfl; have := ps_tn hv14 (z := 13) rfl; have := ps_tn hv15 (z := 14) rfl; have := ps_tn hv16 (z := 15) rfl; have := ps_tn hv17 (z := 16) rfl; have := ps_tn hv18 (z := 17) rfl; have := ps_tn hv19 (z := 18) rfl; omega) (by decide) ?_
  refine lv_ldc (v := -1000000002) hx hb hown (hts _ tq_434) dX9_told_267 ?_
  exact pw_iret C hW hS dX9_told_269 hF
theorem mf_X9_told : ps_mf yX9_told cX9_told 2 ((some .int)) 1 := ⟨tq_534, tq_61, by decide +kernel, by decide +kernel, by decide +kernel⟩
theorem c_X9_told {l : Launch} {D : va_G} {Y : ps_A} {B : Nat} {M : ps_M} {a0 : Nat} {x1 : Int32} {r : Int32} {M' : ps_M} (hF : f_X9_told M a0 x1 = some (r, M')) : Met l yX9_told (Cond.code yX9_told cX9_told 2 ((some .int)) :: tb_G) rm_X9_told (ps_PB D Y B M [.ref (B + a0), .int x1]) (va_Qi (fun x (_ : Unit) => x = r) (fun _ t => ps_St D Y B M' t) (fun q => B ≤ q)) 0 0 (fun q => B ≤ q) :=
  pm_of (by decide +kernel) (Nat.le_of_ble_eq_true rfl) (fun p e s m args below meth c C hW hS ls hl => kb_X9_told C hF hW hS hl)

end
