section
variable {p : Program} {l : Launch} {e : Env} {s : State} {m : MethodId} {args : Array Value} {below : List Frame} {meth : Method} {c : Code} {H : Heap} {locs : List Loc} {ls : Array Slot} {D : va_G} {Y : ps_A} {B : Nat}
abbrev rm_X10_take : Room := { frames := 1, cells := 0, slots := 0, locals := 24 }
def f_X10_take_w71 (k71 : ps_M → Nat → Int32 → Option (ps_M)) (M : ps_M) (a0 : Nat) (x1 : Int32) : Option (ps_M) := if (4 : Int32) ≤ x1 then (ps_gR M a0 9 0 (fun av2 => ps_gI M a0 9 9 (fun xv3 => ps_xI M av2 (24 : Int32) xv3 (fun M => ps_ck M a0 9 (ps_b1 (f_X10_begin M a0 (0 : Int32) (-1 : Int32) (-1 : Int32)) (fun M => ps_pI M a0 9 32 (0 : Int32) (fun M => ps_pI M a0 9 34 (0 : Int32) (fun M => ps_pI M a0 9 26 (0 : Int32) (fun M => ps_gR M a0 9 1 (fun av4 => ps_xZ M av4 (0 : Int32) (0 : Int32) (fun M => ps_gR M a0 9 1 (fun av5 => ps_xZ M av5 (1 : Int32) (0 : Int32) (fun M => some M))))))))))))) else (ps_gR M a0 9 15 (fun av6 => ps_gR M a0 9 15 (fun av7 => ps_aI M av7 ((4 : Int32) + x1) (fun xv8 => ps_xI M av6 x1 xv8 (fun M => ps_gR M a0 9 16 (fun av9 => ps_gR M a0 9 16 (fun av10 => ps_aI M av10 ((4 : Int32) + x1) (fun xv11 => ps_xI M av9 x1 xv11 (fun M => ps_gR M a0 9 17 (fun av12 => ps_gR M a0 9 17 (fun av13 => ps_aI M av13 ((4 : Int32) + x1) (fun xv14 => ps_xI M av12 x1 xv14 (fun M => ps_gR M a0 9 18 (fun av15 => ps_gR M a0 9 18 (fun av16 => ps_aI M av16 ((4 : Int32) + x1) (fun xv17 => ps_xI M av15 x1 xv17 (fun M => ps_gR M a0 9 19 (fun av18 => ps_gR M a0 9 19 (fun av19 => ps_aI M av19 ((4 : Int32) + x1) (fun xv20 => ps_xI M av18 x1 xv20 (fun M => ps_gR M a0 9 0 (fun av21 => ps_gR M a0 9 15 (fun av22 => ps_aI M av22 x1 (fun xv23 => ps_xI M av21 x1 xv23 (fun M => ps_gR M a0 9 0 (fun av24 => ps_gR M a0 9 18 (fun av25 => ps_aI M av25 x1 (fun xv26 => ps_xI M av24 ((12 : Int32) + x1) xv26 (fun M => ps_v (x1 + 1) (fun xv27 => k71 M a0 xv27))))))))))))))))))))))))))))))
def f_X10_take_l71 : Nat → ps_M → Nat → Int32 → Option (ps_M)
  | 0, _, _, _ => none
  | n + 1, M, a0, x1 => f_X10_take_w71 (f_X10_take_l71 n) M a0 x1
def f_X10_take_w42 (k42 : ps_M → Nat → Int32 → Option (ps_M)) (M : ps_M) (a0 : Nat) (x1 : Int32) : Option (ps_M) := if (12 : Int32) ≤ x1 then (f_X10_take_l71 ps_fu M a0 (0 : Int32)) else (ps_gR M a0 9 14 (fun av29 => ps_gR M a0 9 14 (fun av30 => ps_aI M av30 ((12 : Int32) + x1) (fun xv31 => ps_xI M av29 x1 xv31 (fun M => ps_v (x1 + 1) (fun xv32 => k42 M a0 xv32))))))
def f_X10_take_l42 : Nat → ps_M → Nat → Int32 → Option (ps_M)
  | 0, _, _, _ => none
  | n + 1, M, a0, x1 => f_X10_take_w42 (f_X10_take_l42 n) M a0 x1
def f_X10_take (M : ps_M) (a0 : Nat) : Option (ps_M) := ps_gI M a0 9 7 (fun xv33 => ps_pI M a0 9 2 xv33 (fun M => ps_gI M a0 9 8 (fun xv34 => ps_pI M a0 9 3 xv34 (fun M => ps_gI M a0 9 10 (fun xv35 => ps_pI M a0 9 4 xv35 (fun M => ps_gI M a0 9 11 (fun xv36 => ps_pI M a0 9 5 xv36 (fun M => ps_gI M a0 9 12 (fun xv37 => ps_pI M a0 9 6 xv37 (fun M => f_X10_take_l42 ps_fu M a0 (0 : Int32)))))))))))
set_option maxRecDepth 100000 in
set_option maxHeartbeats 4000000 in
theorem kb_X10_take_w71 (C : ps_C p s m args meth c cX10_take 2 RX10 none "take" D Y B) {q : ps_M} (k71 : ps_M → Nat → Int32 → Option (ps_M)) (hk71 : ∀ (M : ps_M) (H : Heap) (locs : List Loc) (ls : Array Slot) (a0 : Nat) (x1 : Int32), k71 M a0 x1 = some q → ps_W D Y B M H → va_S (fun q => B ≤ q) s.heap H locs → lv_has ls 2 [(0, .ref (B + a0)), (1, .int x1)] → W p l e rm_X10_take s m args below meth c H locs 0 0 (ps_Qv D Y B below args s 0 0 q) (F0 m 71 ls [])) {M : ps_M} {a0 : Nat} {x1 : Int32} (hF : f_X10_take_w71 k71 M a0 x1 = some q) (hW : ps_W D Y B M H) (hS : va_S (fun q => B ≤ q) s.heap H locs) (hl : lv_has ls 2 [(0, .ref (B + a0)), (1, .int x1)]) : W p l e rm_X10_take s m args below meth c H locs 0 0 (ps_Qv D Y B below args s 0 0 q) (F0 m 71 ls []) := by
  have hx := C.1
  have hb := C.2.1
  have hml := C.2.2.1
  have hown := C.2.2.2.1
  have hts := C.2.2.2.2.1
  unfold f_X10_take_w71 at hF
  refine lv_iload_n hx hb dX10_take_71 rfl (lv_at hl 1 rfl) ?_
  refine lv_iconst (v := 4) hx hb dX10_take_72 (by decide) ?_
  refine lv_icmp_ge (tgt := 179) hx hb dX10_take_73 (by decide) (fun hv1 => ?_) (fun hv1 => ?_)
  · replace hF := (if_pos hv1).symm.trans hF
    refine lv_aload_n hx hb dX10_take_179 rfl (lv_at hl 0 rfl) ?_
    refine pw_gR C hW pc_9 (k := 0) (by decide) rfl tq_918 dX10_take_180 hF (fun av2 hF => ?_)
    refine lv_bipush (v := 24) hx hb dX10_take_183 (by decide) ?_
    refine lv_aload_n hx hb dX10_take_185 rfl (lv_at hl 0 rfl) ?_
    refine pw_gI C hW pc_9 (k := 9) (by decide) rfl tq_927 dX10_take_186 hF (fun xv3 hF => ?_)
    refine pw_xI C hW hS dX10_take_189 hF (fun M H locs hW hS hF => ?_)
    refine lv_aload_n hx hb dX10_take_190 rfl (lv_at hl 0 rfl) ?_
    refine lv_iconst (v := 0) hx hb dX10_take_191 (by decide) ?_
    refine lv_iconst (v := -1) hx hb dX10_take_192 (by decide) ?_
    refine lv_iconst (v := -1) hx hb dX10_take_193 (by decide) ?_
    obtain ⟨hK, hF⟩ := ps_ck_some hF
    obtain ⟨M9, hc, hF⟩ := ps_b1_some hF
    refine ps_backV (M' := M9) hS (ps_callV C hW pc_9 mf_X10_begin tq_1078 tq_38 tq_1076 ⟨Nat.le_of_ble_eq_true rfl, Nat.le_of_ble_eq_true rfl⟩ rfl rfl (As := [.int (0 : Int32), .int (-1 : Int32), .int (-1 : Int32)]) (rest := []) (c_X10_begin hc) hK rfl hl.1 rfl (Nat.le_of_ble_eq_true rfl) dX10_take_194 ⟨Nat.le_of_ble_eq_true rfl, Nat.le_of_ble_eq_true rfl⟩) (fun H locs hW hS => ?_)
    clear hc
    generalize M9 = M at hW hF
    refine lv_aload_n hx hb dX10_take_197 rfl (lv_at hl 0 rfl) ?_
    refine lv_iconst (v := 0) hx hb dX10_take_198 (by decide) ?_
    refine pw_pI C hW hS pc_9 (k := 32) (by decide) rfl rfl tq_950 rfl dX10_take_199 hF (fun M H locs hW hS hF => ?_)
    refine lv_aload_n hx hb dX10_take_202 rfl (lv_at hl 0 rfl) ?_
    refine lv_iconst (v := 0) hx hb dX10_take_203 (by decide) ?_
    refine pw_pI C hW hS pc_9 (k := 34) (by decide) rfl rfl tq_952 rfl dX10_take_204 hF (fun M H locs hW hS hF => ?_)
    refine lv_aload_n hx hb dX10_take_207 rfl (lv_at hl 0 rfl) ?_
    refine lv_iconst (v := 0) hx hb dX10_take_208 (by decide) ?_
    refine pw_pI C hW hS pc_9 (k := 26) (by decide) rfl rfl tq_944 rfl dX10_take_209 hF (fun M H locs hW hS hF => ?_)
    refine lv_aload_n hx hb dX10_take_212 rfl (lv_at hl 0 rfl) ?_
    refine pw_gR C hW pc_9 (k := 1) (by decide) rfl tq_919 dX10_take_213 hF (fun av4 hF => ?_)
    refine lv_iconst (v := 0) hx hb dX10_take_216 (by decide) ?_
    refine lv_iconst (v := 0) hx hb dX10_take_217 (by decide) ?_
    refine pw_xZ C hW hS dX10_take_218 hF (fun M H locs hW hS hF => ?_)
    refine lv_aload_n hx hb dX10_take_219 rfl (lv_at hl 0 rfl) ?_
    refine pw_gR C hW pc_9 (k := 1) (by decide) rfl tq_919 dX10_take_220 hF (fun av5 hF => ?_)
    refine lv_iconst (v := 1) hx hb dX10_take_223 (by decide) ?_
    refine lv_iconst (v := 0) hx hb dX10_take_224 (by decide) ?_
    refine pw_xZ C hW hS dX10_take_225 hF (fun M H locs hW hS hF => ?_)
    exact pw_vret C hW hS dX10_take_226 hF
  · replace hF := (if_neg hv1).symm.trans hF
    refine lv_aload_n hx hb dX10_take_76 rfl (lv_at hl 0 rfl) ?_
    refine pw_gR C hW pc_9 (k := 15) (by decide) rfl tq_933 dX10_take_77 hF (fun av6 hF => ?_)
    refine lv_iload_n hx hb dX10_take_80 rfl (lv_at hl 1 rfl) ?_
    refine lv_aload_n hx hb dX10_take_81 rfl (lv_at hl 0 rfl) ?_
    refine pw_gR C hW pc_9 (k := 15) (by decide) rfl tq_933 dX10_take_82 hF (fun av7 hF => ?_)
    refine lv_iconst (v := 4) hx hb dX10_take_85 (by decide) ?_
    refine lv_iload_n hx hb dX10_take_86 rfl (lv_at hl 1 rfl) ?_
    refine lv_iadd hx hb dX10_take_87 ?_
    refine pw_aI C hW dX10_take_88 hF (fun xv8 hF => ?_)
    refine pw_xI C hW hS dX10_take_89 hF (fun M H locs hW hS hF => ?_)
    refine lv_aload_n hx hb dX10_take_90 rfl (lv_at hl 0 rfl) ?_
    refine pw_gR C hW pc_9 (k := 16) (by decide) rfl tq_934 dX10_take_91 hF (fun av9 hF => ?_)
    refine lv_iload_n hx hb dX10_take_94 rfl (lv_at hl 1 rfl) ?_
    refine lv_aload_n hx hb dX10_take_95 rfl (lv_at hl 0 rfl) ?_
    refine pw_gR C hW pc_9 (k := 16) (by decide) rfl tq_934 dX10_take_96 hF (fun av10 hF => ?_)
    refine lv_iconst (v := 4) hx hb dX10_take_99 (by decide) ?_
    refine lv_iload_n hx hb dX10_take_100 rfl (lv_at hl 1 rfl) ?_
    refine lv_iadd hx hb dX10_take_101 ?_
    refine pw_aI C hW dX10_take_102 hF (fun xv11 hF => ?_)
    refine pw_xI C hW hS dX10_take_103 hF (fun M H locs hW hS hF => ?_)
    refine lv_aload_n hx hb dX10_take_104 rfl (lv_at hl 0 rfl) ?_
    refine pw_gR C hW pc_9 (k := 17) (by decide) rfl tq_935 dX10_take_105 hF (fun av12 hF => ?_)
    refine lv_iload_n hx hb dX10_take_108 rfl (lv_at hl 1 rfl) ?_
    refine lv_aload_n hx hb dX10_take_109 rfl (lv_at hl 0 rfl) ?_
    refine pw_gR C hW pc_9 (k := 17) (by decide) rfl tq_935 dX10_take_110 hF (fun av13 hF => ?_)
    refine lv_iconst (v := 4) hx hb dX10_take_113 (by decide) ?_
    refine lv_iload_n hx hb dX10_take_114 rfl (lv_at hl 1 rfl) ?_
    refine lv_iadd hx hb dX10_take_115 ?_
    refine pw_aI C hW dX10_take_116 hF (fun xv14 hF => ?_)
    refine pw_xI C hW hS dX10_take_117 hF (fun M H locs hW hS hF => ?_)
    refine lv_aload_n hx hb dX10_take_118 rfl (lv_at hl 0 rfl) ?_
    refine pw_gR C hW pc_9 (k := 18) (by decide) rfl tq_936 dX10_take_119 hF (fun av15 hF => ?_)
    refine lv_iload_n hx hb dX10_take_122 rfl (lv_at hl 1 rfl) ?_
    refine lv_aload_n hx hb dX10_take_123 rfl (lv_at hl 0 rfl) ?_
    refine pw_gR C hW pc_9 (k := 18) (by decide) rfl tq_936 dX10_take_124 hF (fun av16 hF => ?_)
    refine lv_iconst (v := 4) hx hb dX10_take_127 (by decide) ?_
    refine lv_iload_n hx hb dX10_take_128 rfl (lv_at hl 1 rfl) ?_
    refine lv_iadd hx hb dX10_take_129 ?_
    refine pw_aI C hW dX10_take_130 hF (fun xv17 hF => ?_)
    refine pw_xI C hW hS dX10_take_131 hF (fun M H locs hW hS hF => ?_)
    refine lv_aload_n hx hb dX10_take_132 rfl (lv_at hl 0 rfl) ?_
    refine pw_gR C hW pc_9 (k := 19) (by decide) rfl tq_937 dX10_take_133 hF (fun av18 hF => ?_)
    refine lv_iload_n hx hb dX10_take_136 rfl (lv_at hl 1 rfl) ?_
    refine lv_aload_n hx hb dX10_take_137 rfl (lv_at hl 0 rfl) ?_
    refine pw_gR C hW pc_9 (k := 19) (by decide) rfl tq_937 dX10_take_138 hF (fun av19 hF => ?_)
    refine lv_iconst (v := 4) hx hb dX10_take_141 (by decide) ?_
    refine lv_iload_n hx hb dX10_take_142 rfl (lv_at hl 1 rfl) ?_
    refine lv_iadd hx hb dX10_take_143 ?_
    refine pw_aI C hW dX10_take_144 hF (fun xv20 hF => ?_)
    refine pw_xI C hW hS dX10_take_145 hF (fun M H locs hW hS hF => ?_)
    refine lv_aload_n hx hb dX10_take_146 rfl (lv_at hl 0 rfl) ?_
    refine pw_gR C hW pc_9 (k := 0) (by decide) rfl tq_918 dX10_take_147 hF (fun av21 hF => ?_)
    refine lv_iload_n hx hb dX10_take_150 rfl (lv_at hl 1 rfl) ?_
    refine lv_aload_n hx hb dX10_take_151 rfl (lv_at hl 0 rfl) ?_
    refine pw_gR C hW pc_9 (k := 15) (by decide) rfl tq_933 dX10_take_152 hF (fun av22 hF => ?_)
    refine lv_iload_n hx hb dX10_take_155 rfl (lv_at hl 1 rfl) ?_
    refine pw_aI C hW dX10_take_156 hF (fun xv23 hF => ?_)
    refine pw_xI C hW hS dX10_take_157 hF (fun M H locs hW hS hF => ?_)
    refine lv_aload_n hx hb dX10_take_158 rfl (lv_at hl 0 rfl) ?_
    refine pw_gR C hW pc_9 (k := 0) (by decide) rfl tq_918 dX10_take_159 hF (fun av24 hF => ?_)
    refine lv_bipush (v := 12) hx hb dX10_take_162 (by decide) ?_
    refine lv_iload_n hx hb dX10_take_164 rfl (lv_at hl 1 rfl) ?_
    refine lv_iadd hx hb dX10_take_165 ?_
    refine lv_aload_n hx hb dX10_take_166 rfl (lv_at hl 0 rfl) ?_
    refine pw_gR C hW pc_9 (k := 18) (by decide) rfl tq_936 dX10_take_167 hF (fun av25 hF => ?_)
    refine lv_iload_n hx hb dX10_take_170 rfl (lv_at hl 1 rfl) ?_
    refine pw_aI C hW dX10_take_171 hF (fun xv26 hF => ?_)
    refine pw_xI C hW hS dX10_take_172 hF (fun M H locs hW hS hF => ?_)
    obtain ⟨xv27, exv27, hF⟩ := ps_ve hF
    refine lv_iinc (v := xv27) (lv' := [(1, .int xv27), (0, .ref (B + a0))]) hx hb dX10_take_173 hl (k := 1) rfl (by rw [exv27]; rfl) (by decide) rfl (fun ls hl => ?_)
    clear exv27
    refine lv_goto (tgt := 71) hx hb dX10_take_176 (by decide) ?_
    exact hk71 M _ _ _ a0 xv27 hF hW hS (lv_sub hl [1, 0] rfl)
theorem kb_X10_take_l71 (C : ps_C p s m args meth c cX10_take 2 RX10 none "take" D Y B) {q : ps_M}  : ∀ (n : Nat) (M : ps_M) (H : Heap) (locs : List Loc) (ls : Array Slot) (a0 : Nat) (x1 : Int32), f_X10_take_l71 n M a0 x1 = some q → ps_W D Y B M H → va_S (fun q => B ≤ q) s.heap H locs → lv_has ls 2 [(0, .ref (B + a0)), (1, .int x1)] → W p l e rm_X10_take s m args below meth c H locs 0 0 (ps_Qv D Y B below args s 0 0 q) (F0 m 71 ls []) := by
  intro n
  induction n with
  | zero => intro M H locs ls a0 x1 hF; cases hF
  | succ n ih => intro M H locs ls a0 x1 hF hW hS hl; exact kb_X10_take_w71 C  (f_X10_take_l71 n) ih hF hW hS hl
set_option maxRecDepth 100000 in
set_option maxHeartbeats 4000000 in
theorem kb_X10_take_w42 (C : ps_C p s m args meth c cX10_take 2 RX10 none "take" D Y B) {q : ps_M} (k42 : ps_M → Nat → Int32 → Option (ps_M)) (hk42 : ∀ (M : ps_M) (H : Heap) (locs : List Loc) (ls : Array Slot) (a0 : Nat) (x1 : Int32), k42 M a0 x1 = some q → ps_W D Y B M H → va_S (fun q => B ≤ q) s.heap H locs → lv_has ls 2 [(0, .ref (B + a0)), (1, .int x1)] → W p l e rm_X10_take s m args below meth c H locs 0 0 (ps_Qv D Y B below args s 0 0 q) (F0 m 42 ls [])) {M : ps_M} {a0 : Nat} {x1 : Int32} (hF : f_X10_take_w42 k42 M a0 x1 = some q) (hW : ps_W D Y B M H) (hS : va_S (fun q => B ≤ q) s.heap H locs) (hl : lv_has ls 2 [(0, .ref (B + a0)), (1, .int x1)]) : W p l e rm_X10_take s m args below meth c H locs 0 0 (ps_Qv D Y B below args s 0 0 q) (F0 m 42 ls []) := by
  have hx := C.1
  have hb := C.2.1
  have hml := C.2.2.1
  have hown := C.2.2.2.1
  have hts := C.2.2.2.2.1
  unfold f_X10_take_w42 at hF
  refine lv_iload_n hx hb dX10_take_42 rfl (lv_at hl 1 rfl) ?_
  refine lv_bipush (v := 12) hx hb dX10_take_43 (by decide) ?_
  refine lv_icmp_ge (tgt := 69) hx hb dX10_take_45 (by decide) (fun hv28 => ?_) (fun hv28 => ?_)
  · replace hF := (if_pos hv28).symm.trans hF
    refine lv_iconst (v := 0) hx hb dX10_take_69 (by decide) ?_
    refine lv_istore_n (lv' := [(1, .int (0 : Int32)), (0, .ref (B + a0))]) hx hb dX10_take_70 rfl hl (by decide) rfl (fun ls hl => ?_)
    exact kb_X10_take_l71 C ps_fu M _ _ _ a0 (0 : Int32) hF hW hS (lv_sub hl [1, 0] rfl)
  · replace hF := (if_neg hv28).symm.trans hF
    refine lv_aload_n hx hb dX10_take_48 rfl (lv_at hl 0 rfl) ?_
    refine pw_gR C hW pc_9 (k := 14) (by decide) rfl tq_932 dX10_take_49 hF (fun av29 hF => ?_)
    refine lv_iload_n hx hb dX10_take_52 rfl (lv_at hl 1 rfl) ?_
    refine lv_aload_n hx hb dX10_take_53 rfl (lv_at hl 0 rfl) ?_
    refine pw_gR C hW pc_9 (k := 14) (by decide) rfl tq_932 dX10_take_54 hF (fun av30 hF => ?_)
    refine lv_bipush (v := 12) hx hb dX10_take_57 (by decide) ?_
    refine lv_iload_n hx hb dX10_take_59 rfl (lv_at hl 1 rfl) ?_
    refine lv_iadd hx hb dX10_take_60 ?_
    refine pw_aI C hW dX10_take_61 hF (fun xv31 hF => ?_)
    refine pw_xI C hW hS dX10_take_62 hF (fun M H locs hW hS hF => ?_)
    obtain ⟨xv32, exv32, hF⟩ := ps_ve hF
    refine lv_iinc (v := xv32) (lv' := [(1, .int xv32), (0, .ref (B + a0))]) hx hb dX10_take_63 hl (k := 1) rfl (by rw [exv32]; rfl) (by decide) rfl (fun ls hl => ?_)
    clear exv32
    refine lv_goto (tgt := 42) hx hb dX10_take_66 (by decide) ?_
    exact hk42 M _ _ _ a0 xv32 hF hW hS (lv_sub hl [1, 0] rfl)
theorem kb_X10_take_l42 (C : ps_C p s m args meth c cX10_take 2 RX10 none "take" D Y B) {q : ps_M}  : ∀ (n : Nat) (M : ps_M) (H : Heap) (locs : List Loc) (ls : Array Slot) (a0 : Nat) (x1 : Int32), f_X10_take_l42 n M a0 x1 = some q → ps_W D Y B M H → va_S (fun q => B ≤ q) s.heap H locs → lv_has ls 2 [(0, .ref (B + a0)), (1, .int x1)] → W p l e rm_X10_take s m args below meth c H locs 0 0 (ps_Qv D Y B below args s 0 0 q) (F0 m 42 ls []) := by
  intro n
  induction n with
  | zero => intro M H locs ls a0 x1 hF; cases hF
  | succ n ih => intro M H locs ls a0 x1 hF hW hS hl; exact kb_X10_take_w42 C  (f_X10_take_l42 n) ih hF hW hS hl
set_option maxRecDepth 100000 in
set_option maxHeartbeats 4000000 in
theorem kb_X10_take (C : ps_C p s m args meth c cX10_take 2 RX10 none "take" D Y B) {q : ps_M}  {M : ps_M} {a0 : Nat} (hF : f_X10_take M a0 = some q) (hW : ps_W D Y B M H) (hS : va_S (fun q => B ≤ q) s.heap H locs) (hl : lv_has ls 2 [(0, .ref (B + a0))]) : W p l e rm_X10_take s m args below meth c H locs 0 0 (ps_Qv D Y B below args s 0 0 q) (F0 m 0 ls []) := by
  have hx := C.1
  have hb := C.2.1
  have hml := C.2.2.1
  have hown := C.2.2.2.1
  have hts := C.2.2.2.2.1
  unfold f_X10_take at hF
  refine lv_aload_n hx hb dX10_take_0 rfl (lv_at hl 0 rfl) ?_
  refine lv_aload_n hx hb dX10_take_1 rfl (lv_at hl 0 rfl) ?_
  refine pw_gI C hW pc_9 (k := 7) (by decide) rfl tq_925 dX10_take_2 hF (fun xv33 hF => ?_)
  refine pw_pI C hW hS pc_9 (k := 2) (by decide) rfl rfl tq_920 rfl dX10_take_5 hF (fun M H locs hW hS hF => ?_)
  refine lv_aload_n hx hb dX10_take_8 rfl (lv_at hl 0 rfl) ?_
  refine lv_aload_n hx hb dX10_take_9 rfl (lv_at hl 0 rfl) ?_
  refine pw_gI C hW pc_9 (k := 8) (by decide) rfl tq_926 dX10_take_10 hF (fun xv34 hF => ?_)
  refine pw_pI C hW hS pc_9 (k := 3) (by decide) rfl rfl tq_921 rfl dX10_take_13 hF (fun M H locs hW hS hF => ?_)
  refine lv_aload_n hx hb dX10_take_16 rfl (lv_at hl 0 rfl) ?_
  refine lv_aload_n hx hb dX10_take_17 rfl (lv_at hl 0 rfl) ?_
  refine pw_gI C hW pc_9 (k := 10) (by decide) rfl tq_928 dX10_take_18 hF (fun xv35 hF => ?_)
  refine pw_pI C hW hS pc_9 (k := 4) (by decide) rfl rfl tq_922 rfl dX10_take_21 hF (fun M H locs hW hS hF => ?_)
  refine lv_aload_n hx hb dX10_take_24 rfl (lv_at hl 0 rfl) ?_
  refine lv_aload_n hx hb dX10_take_25 rfl (lv_at hl 0 rfl) ?_
  refine pw_gI C hW pc_9 (k := 11) (by decide) rfl tq_929 dX10_take_26 hF (fun xv36 hF => ?_)
  refine pw_pI C hW hS pc_9 (k := 5) (by decide) rfl rfl tq_923 rfl dX10_take_29 hF (fun M H locs hW hS hF => ?_)
  refine lv_aload_n hx hb dX10_take_32 rfl (lv_at hl 0 rfl) ?_
  refine lv_aload_n hx hb dX10_take_33 rfl (lv_at hl 0 rfl) ?_
  refine pw_gI C hW pc_9 (k := 12) (by decide) rfl tq_930 dX10_take_34 hF (fun xv37 hF => ?_)
  refine pw_pI C hW hS pc_9 (k := 6) (by decide) rfl rfl tq_924 rfl dX10_take_37 hF (fun M H locs hW hS hF => ?_)
  refine lv_iconst (v := 0) hx hb dX10_take_40 (by decide) ?_
  refine lv_istore_n (lv' := [(1, .int (0 : Int32)), (0, .ref (B + a0))]) hx hb dX10_take_41 rfl hl (by decide) rfl (fun ls hl => ?_)
  exact kb_X10_take_l42 C ps_fu M _ _ _ a0 (0 : Int32) hF hW hS (lv_sub hl [1, 0] rfl)
theorem mf_X10_take : ps_mf yX10_take cX10_take 2 none 0 := ⟨tq_1075, tq_71, by decide +kernel, by decide +kernel, by decide +kernel⟩
theorem c_X10_take {l : Launch} {D : va_G} {Y : ps_A} {B : Nat} {M : ps_M} {a0 : Nat} {M' : ps_M} (hF : f_X10_take M a0 = some M') : Met l yX10_take (Cond.code yX10_take cX10_take 2 none :: tb_G) rm_X10_take (ps_PB D Y B M [.ref (B + a0)]) (va_Qv (fun (_ : Unit) => True) (fun _ t => ps_St D Y B M' t) (fun q => B ≤ q)) 0 0 (fun q => B ≤ q) :=
  pm_of (by decide +kernel) (Nat.le_of_ble_eq_true rfl) (fun p e s m args below meth c C hW hS ls hl => kb_X10_take C hF hW hS hl)

abbrev rm_X10_yard : Room := { frames := 4, cells := 0, slots := 0, locals := 95 }
def f_X10_yard_b91 (k51 : ps_M → Nat → Option (Int32 × ps_M)) (M : ps_M) (a0 : Nat) (t0 : Nat) (t1 : Int32) : Option (Int32 × ps_M) := ps_gI M a0 9 22 (fun xv1 => ps_ck M t0 9 (ps_b2 (f_X10_want M t0 t1 (1 : Int32) xv1) (fun xv2 M => if xv2 = 0 then (k51 M a0) else (ps_gI M a0 9 22 (fun xv4 => ps_pI M a0 9 22 (xv4 + (1 : Int32)) (fun M => k51 M a0))))))
def f_X10_yard_b115 (M : ps_M) (a0 : Nat) : Option (Int32 × ps_M) := ps_pI M a0 9 21 (0 : Int32) (fun M => ps_gI M a0 9 24 (fun xv5 => if xv5 ≤ 0 then (ps_ck M a0 9 (ps_b1 (f_X10_take M a0 ) (fun M => ps_gI M a0 9 2 (fun xv7 => some (xv7, M))))) else (ps_gI M a0 9 24 (fun xv8 => some (((-10 : Int32) - xv8), M)))))
def f_X10_yard_w51 (k51 : ps_M → Nat → Option (Int32 × ps_M)) (M : ps_M) (a0 : Nat) : Option (Int32 × ps_M) := ps_gI M a0 9 24 (fun xv9 => if xv9 = 0 then (ps_ck M a0 9 (ps_b2 (f_X10_here M a0 ) (fun xv11 M => if xv11 < 0 then (f_X10_yard_b115 M a0) else (ps_ck M a0 9 (ps_b1 (f_X10_takeClause M a0 ) (fun M => ps_gI M a0 9 24 (fun xv13 => if xv13 = 0 then (ps_ck M a0 9 (ps_b2 (f_X10_here M a0 ) (fun xv15 M => if xv15 = (59 : Int32) then (f_X10_yard_b91 k51 M a0 a0 (1 : Int32)) else (f_X10_yard_b91 k51 M a0 a0 (0 : Int32))))) else (k51 M a0)))))))) else (f_X10_yard_b115 M a0))
def f_X10_yard_l51 : Nat → ps_M → Nat → Option (Int32 × ps_M)
  | 0, _, _ => none
  | n + 1, M, a0 => f_X10_yard_w51 (f_X10_yard_l51 n) M a0
def f_X10_yard (M : ps_M) (a0 : Nat) : Option (Int32 × ps_M) := ps_pI M a0 9 22 (0 : Int32) (fun M => ps_pI M a0 9 24 (0 : Int32) (fun M => ps_pI M a0 9 25 (-1 : Int32) (fun M => ps_pI M a0 9 7 (0 : Int32) (fun M => ps_pI M a0 9 8 (0 : Int32) (fun M => ps_pI M a0 9 9 (5 : Int32) (fun M => ps_pI M a0 9 10 (2 : Int32) (fun M => ps_pI M a0 9 11 (0 : Int32) (fun M => ps_pI M a0 9 12 (12 : Int32) (fun M => ps_pI M a0 9 13 (0 : Int32) (fun M => f_X10_yard_l51 ps_fu M a0))))))))))
set_option maxRecDepth 100000 in
set_option maxHeartbeats 4000000 in
theorem kb_X10_yard_b91 (C : ps_C p s m args meth c cX10_yard 1 RX10 ((some .int)) "yard" D Y B) {q : Int32 × ps_M} (k51 : ps_M → Nat → Option (Int32 × ps_M)) (hk51 : ∀ (M : ps_M) (H : Heap) (locs : List Loc) (ls : Array Slot) (a0 : Nat), k51 M a0 = some q → ps_W D Y B M H → va_S (fun q => B ≤ q) s.heap H locs → lv_has ls 1 [(0, .ref (B + a0))] → W p l e rm_X10_yard s m args below meth c H locs 0 0 (ps_Qi D Y B below args s 0 0 q) (F0 m 51 ls [])) {M : ps_M} {a0 : Nat} {t0 : Nat} {t1 : Int32} (hF : f_X10_yard_b91 k51 M a0 t0 t1 = some q) (hW : ps_W D Y B M H) (hS : va_S (fun q => B ≤ q) s.heap H locs) (hl : lv_has ls 1 [(0, .ref (B + a0))]) : W p l e rm_X10_yard s m args below meth c H locs 0 0 (ps_Qi D Y B below args s 0 0 q) (F0 m 91 ls [.int t1, .ref (B + t0)]) := by
  have hx := C.1
  have hb := C.2.1
  have hml := C.2.2.1
  have hown := C.2.2.2.1
  have hts := C.2.2.2.2.1
  unfold f_X10_yard_b91 at hF
  refine lv_iconst (v := 1) hx hb dX10_yard_91 (by decide) ?_
  refine lv_aload_n hx hb dX10_yard_92 rfl (lv_at hl 0 rfl) ?_
  refine pw_gI C hW pc_9 (k := 22) (by decide) rfl tq_940 dX10_yard_93 hF (fun xv1 hF => ?_)
  obtain ⟨hK, hF⟩ := ps_ck_some hF
  obtain ⟨xv2, M9, hc, hF⟩ := ps_b2_some hF
  refine ps_backI (x0 := xv2) (M' := M9) hS (ps_callV C hW pc_9 mf_X10_want tq_1055 tq_33 tq_1053 ⟨Nat.le_of_ble_eq_true rfl, Nat.le_of_ble_eq_true rfl⟩ rfl rfl (As := [.int t1, .int (1 : Int32), .int xv1]) (rest := []) (c_X10_want hc) hK rfl hl.1 rfl (Nat.le_of_ble_eq_true rfl) dX10_yard_96 ⟨Nat.le_of_ble_eq_true rfl, Nat.le_of_ble_eq_true rfl⟩) (fun H locs hW hS => ?_)
  clear hc
  generalize M9 = M at hW hF
  refine lv_if_eq (tgt := 51) hx hb dX10_yard_99 (by decide) (fun hv3 => ?_) (fun hv3 => ?_)
  · replace hF := (if_pos hv3).symm.trans hF
    exact hk51 M _ _ _ a0 hF hW hS (lv_sub hl [0] rfl)
  · replace hF := (if_neg hv3).symm.trans hF
    refine lv_aload_n hx hb dX10_yard_102 rfl (lv_at hl 0 rfl) ?_
    refine lv_dup hx hb dX10_yard_103 rfl ?_
    refine pw_gI C hW pc_9 (k := 22) (by decide) rfl tq_940 dX10_yard_104 hF (fun xv4 hF => ?_)
    refine lv_iconst (v := 1) hx hb dX10_yard_107 (by decide) ?_
    refine lv_iadd hx hb dX10_yard_108 ?_
    refine pw_pI C hW hS pc_9 (k := 22) (by decide) rfl rfl tq_940 rfl dX10_yard_109 hF (fun M H locs hW hS hF => ?_)
    refine lv_goto (tgt := 51) hx hb dX10_yard_112 (by decide) ?_
    exact hk51 M _ _ _ a0 hF hW hS (lv_sub hl [0] rfl)
set_option maxRecDepth 100000 in
set_option maxHeartbeats 4000000 in
theorem kb_X10_yard_b115 (C : ps_C p s m args meth c cX10_yard 1 RX10 ((some .int)) "yard" D Y B) {q : Int32 × ps_M}  {M : ps_M} {a0 : Nat} (hF : f_X10_yard_b115 M a0 = some q) (hW : ps_W D Y B M H) (hS : va_S (fun q => B ≤ q) s.heap H locs) (hl : lv_has ls 1 [(0, .ref (B + a0))]) : W p l e rm_X10_yard s m args below meth c H locs 0 0 (ps_Qi D Y B below args s 0 0 q) (F0 m 115 ls []) := by
  have hx := C.1
  have hb := C.2.1
  have hml := C.2.2.1
  have hown := C.2.2.2.1
  have hts := C.2.2.2.2.1
  unfold f_X10_yard_b115 at hF
  refine lv_aload_n hx hb dX10_yard_115 rfl (lv_at hl 0 rfl) ?_
  refine lv_iconst (v := 0) hx hb dX10_yard_116 (by decide) ?_
  refine pw_pI C hW hS pc_9 (k := 21) (by decide) rfl rfl tq_939 rfl dX10_yard_117 hF (fun M H locs hW hS hF => ?_)
  refine lv_aload_n hx hb dX10_yard_120 rfl (lv_at hl 0 rfl) ?_
  refine pw_gI C hW pc_9 (k := 24) (by decide) rfl tq_942 dX10_yard_121 hF (fun xv5 hF => ?_)
  refine lv_if_le (tgt := 135) hx hb dX10_yard_124 (by decide) (fun hv6 => ?_) (fun hv6 => ?_)
  · replace hF := (if_pos hv6).symm.trans hF
    refine lv_aload_n hx hb dX10_yard_135 rfl (lv_at hl 0 rfl) ?_
    obtain ⟨hK, hF⟩ := ps_ck_some hF
    obtain ⟨M9, hc, hF⟩ := ps_b1_some hF
    refine ps_backV (M' := M9) hS (ps_callV C hW pc_9 mf_X10_take tq_1074 tq_37 tq_1072 ⟨Nat.le_of_ble_eq_true rfl, Nat.le_of_ble_eq_true rfl⟩ rfl rfl (As := []) (rest := []) (c_X10_take hc) hK rfl hl.1 rfl (Nat.le_of_ble_eq_true rfl) dX10_yard_136 ⟨Nat.le_of_ble_eq_true rfl, Nat.le_of_ble_eq_true rfl⟩) (fun H locs hW hS => ?_)
    clear hc
    generalize M9 = M at hW hF
    refine lv_aload_n hx hb dX10_yard_139 rfl (lv_at hl 0 rfl) ?_
    refine pw_gI C hW pc_9 (k := 2) (by decide) rfl tq_920 dX10_yard_140 hF (fun xv7 hF => ?_)
    exact pw_iret C hW hS dX10_yard_143 hF
  · replace hF := (if_neg hv6).symm.trans hF
    refine lv_bipush (v := -10) hx hb dX10_yard_127 (by decide) ?_
    refine lv_aload_n hx hb dX10_yard_129 rfl (lv_at hl 0 rfl) ?_
    refine pw_gI C hW pc_9 (k := 24) (by decide) rfl tq_942 dX10_yard_130 hF (fun xv8 hF => ?_)
    refine lv_isub hx hb dX10_yard_133 ?_
    exact pw_iret C hW hS dX10_yard_134 hF
set_option maxRecDepth 100000 in
set_option maxHeartbeats 4000000 in
theorem kb_X10_yard_w51 (C : ps_C p s m args meth c cX10_yard 1 RX10 ((some .int)) "yard" D Y B) {q : Int32 × ps_M} (k51 : ps_M → Nat → Option (Int32 × ps_M)) (hk51 : ∀ (M : ps_M) (H : Heap) (locs : List Loc) (ls : Array Slot) (a0 : Nat), k51 M a0 = some q → ps_W D Y B M H → va_S (fun q => B ≤ q) s.heap H locs → lv_has ls 1 [(0, .ref (B + a0))] → W p l e rm_X10_yard s m args below meth c H locs 0 0 (ps_Qi D Y B below args s 0 0 q) (F0 m 51 ls [])) {M : ps_M} {a0 : Nat} (hF : f_X10_yard_w51 k51 M a0 = some q) (hW : ps_W D Y B M H) (hS : va_S (fun q => B ≤ q) s.heap H locs) (hl : lv_has ls 1 [(0, .ref (B + a0))]) : W p l e rm_X10_yard s m args below meth c H locs 0 0 (ps_Qi D Y B below args s 0 0 q) (F0 m 51 ls []) := by
  have hx := C.1
  have hb := C.2.1
  have hml := C.2.2.1
  have hown := C.2.2.2.1
  have hts := C.2.2.2.2.1
  unfold f_X10_yard_w51 at hF
  refine lv_aload_n hx hb dX10_yard_51 rfl (lv_at hl 0 rfl) ?_
  refine pw_gI C hW pc_9 (k := 24) (by decide) rfl tq_942 dX10_yard_52 hF (fun xv9 hF => ?_)
  refine lv_if_ne (tgt := 115) hx hb dX10_yard_55 (by decide) (fun hv10 => ?_) (fun hv10 => ?_)
  · replace hF := (if_neg hv10).symm.trans hF
    exact kb_X10_yard_b115 C hF hW hS (lv_sub hl [0] rfl)
  · replace hF := (if_pos hv10).symm.trans hF
    refine lv_aload_n hx hb dX10_yard_58 rfl (lv_at hl 0 rfl) ?_
    obtain ⟨hK, hF⟩ := ps_ck_some hF
    obtain ⟨xv11, M9, hc, hF⟩ := ps_b2_some hF
    refine ps_backI (x0 := xv11) (M' := M9) hS (ps_callV C hW pc_9 mf_X10_here tq_1041 tq_31 tq_1039 ⟨Nat.le_of_ble_eq_true rfl, Nat.le_of_ble_eq_true rfl⟩ rfl rfl (As := []) (rest := []) (c_X10_here hc) hK rfl hl.1 rfl (Nat.le_of_ble_eq_true rfl) dX10_yard_59 ⟨Nat.le_of_ble_eq_true rfl, Nat.le_of_ble_eq_true rfl⟩) (fun H locs hW hS => ?_)
    clear hc
    generalize M9 = M at hW hF
    refine lv_if_lt (tgt := 115) hx hb dX10_yard_62 (by decide) (fun hv12 => ?_) (fun hv12 => ?_)
    · replace hF := (if_pos hv12).symm.trans hF
      exact kb_X10_yard_b115 C hF hW hS (lv_sub hl [0] rfl)
    · replace hF := (if_neg hv12).symm.trans hF
      refine lv_aload_n hx hb dX10_yard_65 rfl (lv_at hl 0 rfl) ?_
      obtain ⟨hK, hF⟩ := ps_ck_some hF
      obtain ⟨M9, hc, hF⟩ := ps_b1_some hF
      refine ps_backV (M' := M9) hS (ps_callV C hW pc_9 mf_X10_takeClause tq_1045 tq_32 tq_1043 ⟨Nat.le_of_ble_eq_true rfl, Nat.le_of_ble_eq_true rfl⟩ rfl rfl (As := []) (rest := []) (c_X10_takeClause hc) hK rfl hl.1 rfl (Nat.le_of_ble_eq_true rfl) dX10_yard_66 ⟨Nat.le_of_ble_eq_true rfl, Nat.le_of_ble_eq_true rfl⟩) (fun H locs hW hS => ?_)
      clear hc
      generalize M9 = M at hW hF
      refine lv_aload_n hx hb dX10_yard_69 rfl (lv_at hl 0 rfl) ?_
      refine pw_gI C hW pc_9 (k := 24) (by decide) rfl tq_942 dX10_yard_70 hF (fun xv13 hF => ?_)
      refine lv_if_ne (tgt := 51) hx hb dX10_yard_73 (by decide) (fun hv14 => ?_) (fun hv14 => ?_)
      · replace hF := (if_neg hv14).symm.trans hF
        exact hk51 M _ _ _ a0 hF hW hS (lv_sub hl [0] rfl)
      · replace hF := (if_pos hv14).symm.trans hF
        refine lv_aload_n hx hb dX10_yard_76 rfl (lv_at hl 0 rfl) ?_
        refine lv_aload_n hx hb dX10_yard_77 rfl (lv_at hl 0 rfl) ?_
        obtain ⟨hK, hF⟩ := ps_ck_some hF
        obtain ⟨xv15, M9, hc, hF⟩ := ps_b2_some hF
        refine ps_backI (x0 := xv15) (M' := M9) hS (ps_callV C hW pc_9 mf_X10_here tq_1041 tq_31 tq_1039 ⟨Nat.le_of_ble_eq_true rfl, Nat.le_of_ble_eq_true rfl⟩ rfl rfl (As := []) (rest := [.ref (B + a0)]) (c_X10_here hc) hK rfl hl.1 rfl (Nat.le_of_ble_eq_true rfl) dX10_yard_78 ⟨Nat.le_of_ble_eq_true rfl, Nat.le_of_ble_eq_true rfl⟩) (fun H locs hW hS => ?_)
        clear hc
        generalize M9 = M at hW hF
        refine lv_bipush (v := 59) hx hb dX10_yard_81 (by decide) ?_
        refine lv_icmp_ne (tgt := 90) hx hb dX10_yard_83 (by decide) (fun hv16 => ?_) (fun hv16 => ?_)
        · replace hF := (if_neg hv16).symm.trans hF
          refine lv_iconst (v := 0) hx hb dX10_yard_90 (by decide) ?_
          exact kb_X10_yard_b91 C k51 hk51 hF hW hS (lv_sub hl [0] rfl)
        · replace hF := (if_pos hv16).symm.trans hF
          refine lv_iconst (v := 1) hx hb dX10_yard_86 (by decide) ?_
          refine lv_goto (tgt := 91) hx hb dX10_yard_87 (by decide) ?_
          exact kb_X10_yard_b91 C k51 hk51 hF hW hS (lv_sub hl [0] rfl)
theorem kb_X10_yard_l51 (C : ps_C p s m args meth c cX10_yard 1 RX10 ((some .int)) "yard" D Y B) {q : Int32 × ps_M}  : ∀ (n : Nat) (M : ps_M) (H : Heap) (locs : List Loc) (ls : Array Slot) (a0 : Nat), f_X10_yard_l51 n M a0 = some q → ps_W D Y B M H → va_S (fun q => B ≤ q) s.heap H locs → lv_has ls 1 [(0, .ref (B + a0))] → W p l e rm_X10_yard s m args below meth c H locs 0 0 (ps_Qi D Y B below args s 0 0 q) (F0 m 51 ls []) := by
  intro n
  induction n with
  | zero => intro M H locs ls a0 hF; cases hF
  | succ n ih => intro M H locs ls a0 hF hW hS hl; exact kb_X10_yard_w51 C  (f_X10_yard_l51 n) ih hF hW hS hl
set_option maxRecDepth 100000 in
set_option maxHeartbeats 4000000 in
theorem kb_X10_yard (C : ps_C p s m args meth c cX10_yard 1 RX10 ((some .int)) "yard" D Y B) {q : Int32 × ps_M}  {M : ps_M} {a0 : Nat} (hF : f_X10_yard M a0 = some q) (hW : ps_W D Y B M H) (hS : va_S (fun q => B ≤ q) s.heap H locs) (hl : lv_has ls 1 [(0, .ref (B + a0))]) : W p l e rm_X10_yard s m args below meth c H locs 0 0 (ps_Qi D Y B below args s 0 0 q) (F0 m 0 ls []) := by
  have hx := C.1
  have hb := C.2.1
  have hml := C.2.2.1
  have hown := C.2.2.2.1
  have hts := C.2.2.2.2.1
  unfold f_X10_yard at hF
  refine lv_aload_n hx hb dX10_yard_0 rfl (lv_at hl 0 rfl) ?_
  refine lv_iconst (v := 0) hx hb dX10_yard_1 (by decide) ?_
  refine pw_pI C hW hS pc_9 (k := 22) (by decide) rfl rfl tq_940 rfl dX10_yard_2 hF (fun M H locs hW hS hF => ?_)
  refine lv_aload_n hx hb dX10_yard_5 rfl (lv_at hl 0 rfl) ?_
  refine lv_iconst (v := 0) hx hb dX10_yard_6 (by decide) ?_
  refine pw_pI C hW hS pc_9 (k := 24) (by decide) rfl rfl tq_942 rfl dX10_yard_7 hF (fun M H locs hW hS hF => ?_)
  refine lv_aload_n hx hb dX10_yard_10 rfl (lv_at hl 0 rfl) ?_
  refine lv_iconst (v := -1) hx hb dX10_yard_11 (by decide) ?_
  refine pw_pI C hW hS pc_9 (k := 25) (by decide) rfl rfl tq_943 rfl dX10_yard_12 hF (fun M H locs hW hS hF => ?_)
  refine lv_aload_n hx hb dX10_yard_15 rfl (lv_at hl 0 rfl) ?_
  refine lv_iconst (v := 0) hx hb dX10_yard_16 (by decide) ?_
  refine pw_pI C hW hS pc_9 (k := 7) (by decide) rfl rfl tq_925 rfl dX10_yard_17 hF (fun M H locs hW hS hF => ?_)
  refine lv_aload_n hx hb dX10_yard_20 rfl (lv_at hl 0 rfl) ?_
  refine lv_iconst (v := 0) hx hb dX10_yard_21 (by decide) ?_
  refine pw_pI C hW hS pc_9 (k := 8) (by decide) rfl rfl tq_926 rfl dX10_yard_22 hF (fun M H locs hW hS hF => ?_)
  refine lv_aload_n hx hb dX10_yard_25 rfl (lv_at hl 0 rfl) ?_
  refine lv_iconst (v := 5) hx hb dX10_yard_26 (by decide) ?_
  refine pw_pI C hW hS pc_9 (k := 9) (by decide) rfl rfl tq_927 rfl dX10_yard_27 hF (fun M H locs hW hS hF => ?_)
  refine lv_aload_n hx hb dX10_yard_30 rfl (lv_at hl 0 rfl) ?_
  refine lv_iconst (v := 2) hx hb dX10_yard_31 (by decide) ?_
  refine pw_pI C hW hS pc_9 (k := 10) (by decide) rfl rfl tq_928 rfl dX10_yard_32 hF (fun M H locs hW hS hF => ?_)
  refine lv_aload_n hx hb dX10_yard_35 rfl (lv_at hl 0 rfl) ?_
  refine lv_iconst (v := 0) hx hb dX10_yard_36 (by decide) ?_
  refine pw_pI C hW hS pc_9 (k := 11) (by decide) rfl rfl tq_929 rfl dX10_yard_37 hF (fun M H locs hW hS hF => ?_)
  refine lv_aload_n hx hb dX10_yard_40 rfl (lv_at hl 0 rfl) ?_
  refine lv_bipush (v := 12) hx hb dX10_yard_41 (by decide) ?_
  refine pw_pI C hW hS pc_9 (k := 12) (by decide) rfl rfl tq_930 rfl dX10_yard_43 hF (fun M H locs hW hS hF => ?_)
  refine lv_aload_n hx hb dX10_yard_46 rfl (lv_at hl 0 rfl) ?_
  refine lv_iconst (v := 0) hx hb dX10_yard_47 (by decide) ?_
  refine pw_pI C hW hS pc_9 (k := 13) (by decide) rfl rfl tq_931 rfl dX10_yard_48 hF (fun M H locs hW hS hF => ?_)
  exact kb_X10_yard_l51 C ps_fu M _ _ _ a0 hF hW hS (lv_sub hl [0] rfl)
theorem mf_X10_yard : ps_mf yX10_yard cX10_yard 1 ((some .int)) 0 := ⟨tq_1038, tq_71, by decide +kernel, by decide +kernel, by decide +kernel⟩
theorem c_X10_yard {l : Launch} {D : va_G} {Y : ps_A} {B : Nat} {M : ps_M} {a0 : Nat} {r : Int32} {M' : ps_M} (hF : f_X10_yard M a0 = some (r, M')) : Met l yX10_yard (Cond.code yX10_yard cX10_yard 1 ((some .int)) :: tb_G) rm_X10_yard (ps_PB D Y B M [.ref (B + a0)]) (va_Qi (fun x (_ : Unit) => x = r) (fun _ t => ps_St D Y B M' t) (fun q => B ≤ q)) 0 0 (fun q => B ≤ q) :=
  pm_of (by decide +kernel) (Nat.le_of_ble_eq_true rfl) (fun p e s m args below meth c C hW hS ls hl => kb_X10_yard C hF hW hS hl)

abbrev rm_X10_fault : Room := { frames := 0, cells := 0, slots := 0, locals := 0 }
def f_X10_fault (M : ps_M) (a0 : Nat) : Option (Int32 × ps_M) := ps_gI M a0 9 25 (fun xv1 => some (xv1, M))
set_option maxRecDepth 100000 in
set_option maxHeartbeats 4000000 in
theorem kb_X10_fault (C : ps_C p s m args meth c cX10_fault 1 RX10 ((some .int)) "fault" D Y B) {q : Int32 × ps_M}  {M : ps_M} {a0 : Nat} (hF : f_X10_fault M a0 = some q) (hW : ps_W D Y B M H) (hS : va_S (fun q => B ≤ q) s.heap H locs) (hl : lv_has ls 1 [(0, .ref (B + a0))]) : W p l e rm_X10_fault s m args below meth c H locs 0 0 (ps_Qi D Y B below args s 0 0 q) (F0 m 0 ls []) := by
  have hx := C.1
  have hb := C.2.1
  have hml := C.2.2.1
  have hown := C.2.2.2.1
  have hts := C.2.2.2.2.1
  unfold f_X10_fault at hF
  refine lv_aload_n hx hb dX10_fault_0 rfl (lv_at hl 0 rfl) ?_
  refine pw_gI C hW pc_9 (k := 25) (by decide) rfl tq_943 dX10_fault_1 hF (fun xv1 hF => ?_)
  exact pw_iret C hW hS dX10_fault_4 hF
theorem mf_X10_fault : ps_mf yX10_fault cX10_fault 1 ((some .int)) 0 := ⟨tq_1083, tq_71, by decide +kernel, by decide +kernel, by decide +kernel⟩
theorem c_X10_fault {l : Launch} {D : va_G} {Y : ps_A} {B : Nat} {M : ps_M} {a0 : Nat} {r : Int32} {M' : ps_M} (hF : f_X10_fault M a0 = some (r, M')) : Met l yX10_fault (Cond.code yX10_fault cX10_fault 1 ((some .int)) :: tb_G) rm_X10_fault (ps_PB D Y B M [.ref (B + a0)]) (va_Qi (fun x (_ : Unit) => x = r) (fun _ t => ps_St D Y B M' t) (fun q => B ≤ q)) 0 0 (fun q => B ≤ q) :=
  pm_of (by decide +kernel) (Nat.le_of_ble_eq_true rfl) (fun p e s m args below meth c C hW hS ls hl => kb_X10_fault C hF hW hS hl)

abbrev rm_X10_isPerson : Room := { frames := 1, cells := 0, slots := 0, locals := 25 }
def f_X10_isPerson (M : ps_M) (a0 : Nat) (x1 : Int32) : Option (Int32 × ps_M) := ps_gI M a0 9 3 (fun xv1 => ps_b2 (f_X10_in M (x1.toInt64) (0 : Int64) ((xv1 - (1 : Int32)).toInt64)) (fun xv2 M => ps_z xv2 M))
set_option maxRecDepth 100000 in
set_option maxHeartbeats 4000000 in
theorem kb_X10_isPerson (C : ps_C p s m args meth c cX10_isPerson 2 RX10 ((some .boolean)) "isPerson" D Y B) {q : Int32 × ps_M}  {M : ps_M} {a0 : Nat} {x1 : Int32} (hF : f_X10_isPerson M a0 x1 = some q) (hW : ps_W D Y B M H) (hS : va_S (fun q => B ≤ q) s.heap H locs) (hl : lv_has ls 2 [(0, .ref (B + a0)), (1, .int x1)]) : W p l e rm_X10_isPerson s m args below meth c H locs 0 0 (ps_Qi D Y B below args s 0 0 q) (F0 m 0 ls []) := by
  have hx := C.1
  have hb := C.2.1
  have hml := C.2.2.1
  have hown := C.2.2.2.1
  have hts := C.2.2.2.2.1
  unfold f_X10_isPerson at hF
  refine lv_iload_n hx hb dX10_isPerson_0 rfl (lv_at hl 1 rfl) ?_
  refine lv_i2l hx hb dX10_isPerson_1 rfl ?_
  refine lv_lconst (v := 0) hx hb dX10_isPerson_2 (by decide) ?_
  refine lv_aload_n hx hb dX10_isPerson_3 rfl (lv_at hl 0 rfl) ?_
  refine pw_gI C hW pc_9 (k := 3) (by decide) rfl tq_921 dX10_isPerson_4 hF (fun xv1 hF => ?_)
  refine lv_iconst (v := 1) hx hb dX10_isPerson_7 (by decide) ?_
  refine lv_isub hx hb dX10_isPerson_8 ?_
  refine lv_i2l hx hb dX10_isPerson_9 rfl ?_
  obtain ⟨xv2, M9, hc, hF⟩ := ps_b2_some hF
  refine ps_backI (x0 := xv2) (M' := M9) hS (ps_callS C hW mf_X10_in tq_1031 tq_1030 ⟨Nat.le_of_ble_eq_true rfl, Nat.le_of_ble_eq_true rfl⟩ rfl rfl (As := [.long (x1.toInt64), .long (0 : Int64), .long ((xv1 - (1 : Int32)).toInt64)]) (rest := []) (c_X10_in hc) rfl hl.1 rfl (Nat.le_of_ble_eq_true rfl) dX10_isPerson_10 ⟨Nat.le_of_ble_eq_true rfl, Nat.le_of_ble_eq_true rfl⟩) (fun H locs hW hS => ?_)
  clear hc
  generalize M9 = M at hW hF
  exact pw_zret C hW hS dX10_isPerson_13 hF
theorem mf_X10_isPerson : ps_mf yX10_isPerson cX10_isPerson 2 ((some .boolean)) 1 := ⟨tq_1107, tq_71, by decide +kernel, by decide +kernel, by decide +kernel⟩
theorem c_X10_isPerson {l : Launch} {D : va_G} {Y : ps_A} {B : Nat} {M : ps_M} {a0 : Nat} {x1 : Int32} {r : Int32} {M' : ps_M} (hF : f_X10_isPerson M a0 x1 = some (r, M')) : Met l yX10_isPerson (Cond.code yX10_isPerson cX10_isPerson 2 ((some .boolean)) :: tb_G) rm_X10_isPerson (ps_PB D Y B M [.ref (B + a0), .int x1]) (va_Qi (fun x (_ : Unit) => x = r) (fun _ t => ps_St D Y B M' t) (fun q => B ≤ q)) 0 0 (fun q => B ≤ q) :=
  pm_of (by decide +kernel) (Nat.le_of_ble_eq_true rfl) (fun p e s m args below meth c C hW hS ls hl => kb_X10_isPerson C hF hW hS hl)

abbrev rm_X10_isThrough : Room := { frames := 0, cells := 0, slots := 0, locals := 0 }
def f_X10_isThrough_b24 (M : ps_M) (t0 : Int32) : Option (Int32 × ps_M) := ps_z t0 M
def f_X10_isThrough (M : ps_M) (a0 : Nat) (x1 : Int32) : Option (Int32 × ps_M) := ps_gR M a0 9 0 (fun av1 => ps_aI M av1 (x1 + (19 : Int32)) (fun xv2 => ps_gI M a0 9 2 (fun xv3 => if xv2 < ((100 : Int32) * xv3) then (f_X10_isThrough_b24 M (0 : Int32)) else (f_X10_isThrough_b24 M (1 : Int32)))))
set_option maxRecDepth 100000 in
set_option maxHeartbeats 4000000 in
theorem kb_X10_isThrough_b24 (C : ps_C p s m args meth c cX10_isThrough 2 RX10 ((some .boolean)) "isThrough" D Y B) {q : Int32 × ps_M}  {M : ps_M} {t0 : Int32} (hF : f_X10_isThrough_b24 M t0 = some q) (hW : ps_W D Y B M H) (hS : va_S (fun q => B ≤ q) s.heap H locs) (hl : lv_has ls 2 []) : W p l e rm_X10_isThrough s m args below meth c H locs 0 0 (ps_Qi D Y B below args s 0 0 q) (F0 m 24 ls [.int t0]) := by
  have hx := C.1
  have hb := C.2.1
  have hml := C.2.2.1
  have hown := C.2.2.2.1
  have hts := C.2.2.2.2.1
  unfold f_X10_isThrough_b24 at hF
  exact pw_zret C hW hS dX10_isThrough_24 hF
set_option maxRecDepth 100000 in
set_option maxHeartbeats 4000000 in
theorem kb_X10_isThrough (C : ps_C p s m args meth c cX10_isThrough 2 RX10 ((some .boolean)) "isThrough" D Y B) {q : Int32 × ps_M}  {M : ps_M} {a0 : Nat} {x1 : Int32} (hF : f_X10_isThrough M a0 x1 = some q) (hW : ps_W D Y B M H) (hS : va_S (fun q => B ≤ q) s.heap H locs) (hl : lv_has ls 2 [(0, .ref (B + a0)), (1, .int x1)]) : W p l e rm_X10_isThrough s m args below meth c H locs 0 0 (ps_Qi D Y B below args s 0 0 q) (F0 m 0 ls []) := by
  have hx := C.1
  have hb := C.2.1
  have hml := C.2.2.1
  have hown := C.2.2.2.1
  have hts := C.2.2.2.2.1
  unfold f_X10_isThrough at hF
  refine lv_aload_n hx hb dX10_isThrough_0 rfl (lv_at hl 0 rfl) ?_
  refine pw_gR C hW pc_9 (k := 0) (by decide) rfl tq_918 dX10_isThrough_1 hF (fun av1 hF => ?_)
  refine lv_iload_n hx hb dX10_isThrough_4 rfl (lv_at hl 1 rfl) ?_
  refine lv_bipush (v := 19) hx hb dX10_isThrough_5 (by decide) ?_
  refine lv_iadd hx hb dX10_isThrough_7 ?_
  refine pw_aI C hW dX10_isThrough_8 hF (fun xv2 hF => ?_)
  refine lv_bipush (v := 100) hx hb dX10_isThrough_9 (by decide) ?_
  refine lv_aload_n hx hb dX10_isThrough_11 rfl (lv_at hl 0 rfl) ?_
  refine pw_gI C hW pc_9 (k := 2) (by decide) rfl tq_920 dX10_isThrough_12 hF (fun xv3 hF => ?_)
  refine lv_imul hx hb dX10_isThrough_15 ?_
  refine lv_icmp_lt (tgt := 23) hx hb dX10_isThrough_16 (by decide) (fun hv4 => ?_) (fun hv4 => ?_)
  · replace hF := (if_pos hv4).symm.trans hF
    refine lv_iconst (v := 0) hx hb dX10_isThrough_23 (by decide) ?_
    exact kb_X10_isThrough_b24 C hF hW hS (lv_sub hl [] rfl)
  · replace hF := (if_neg hv4).symm.trans hF
    refine lv_iconst (v := 1) hx hb dX10_isThrough_19 (by decide) ?_
    refine lv_goto (tgt := 24) hx hb dX10_isThrough_20 (by decide) ?_
    exact kb_X10_isThrough_b24 C hF hW hS (lv_sub hl [] rfl)
theorem mf_X10_isThrough : ps_mf yX10_isThrough cX10_isThrough 2 ((some .boolean)) 1 := ⟨tq_1091, tq_71, by decide +kernel, by decide +kernel, by decide +kernel⟩
theorem c_X10_isThrough {l : Launch} {D : va_G} {Y : ps_A} {B : Nat} {M : ps_M} {a0 : Nat} {x1 : Int32} {r : Int32} {M' : ps_M} (hF : f_X10_isThrough M a0 x1 = some (r, M')) : Met l yX10_isThrough (Cond.code yX10_isThrough cX10_isThrough 2 ((some .boolean)) :: tb_G) rm_X10_isThrough (ps_PB D Y B M [.ref (B + a0), .int x1]) (va_Qi (fun x (_ : Unit) => x = r) (fun _ t => ps_St D Y B M' t) (fun q => B ≤ q)) 0 0 (fun q => B ≤ q) :=
  pm_of (by decide +kernel) (Nat.le_of_ble_eq_true rfl) (fun p e s m args below meth c C hW hS ls hl => kb_X10_isThrough C hF hW hS hl)

abbrev rm_X10_isPair : Room := { frames := 0, cells := 0, slots := 0, locals := 0 }
def f_X10_isPair_b15 (M : ps_M) (t0 : Int32) : Option (Int32 × ps_M) := ps_z t0 M
def f_X10_isPair (M : ps_M) (a0 : Nat) : Option (Int32 × ps_M) := ps_gR M a0 9 0 (fun av1 => ps_aI M av1 (16 : Int32) (fun xv2 => if xv2 < 0 then (f_X10_isPair_b15 M (0 : Int32)) else (f_X10_isPair_b15 M (1 : Int32))))
set_option maxRecDepth 100000 in
set_option maxHeartbeats 4000000 in
theorem kb_X10_isPair_b15 (C : ps_C p s m args meth c cX10_isPair 1 RX10 ((some .boolean)) "isPair" D Y B) {q : Int32 × ps_M}  {M : ps_M} {t0 : Int32} (hF : f_X10_isPair_b15 M t0 = some q) (hW : ps_W D Y B M H) (hS : va_S (fun q => B ≤ q) s.heap H locs) (hl : lv_has ls 1 []) : W p l e rm_X10_isPair s m args below meth c H locs 0 0 (ps_Qi D Y B below args s 0 0 q) (F0 m 15 ls [.int t0]) := by
  have hx := C.1
  have hb := C.2.1
  have hml := C.2.2.1
  have hown := C.2.2.2.1
  have hts := C.2.2.2.2.1
  unfold f_X10_isPair_b15 at hF
  exact pw_zret C hW hS dX10_isPair_15 hF
set_option maxRecDepth 100000 in
set_option maxHeartbeats 4000000 in
theorem kb_X10_isPair (C : ps_C p s m args meth c cX10_isPair 1 RX10 ((some .boolean)) "isPair" D Y B) {q : Int32 × ps_M}  {M : ps_M} {a0 : Nat} (hF : f_X10_isPair M a0 = some q) (hW : ps_W D Y B M H) (hS : va_S (fun q => B ≤ q) s.heap H locs) (hl : lv_has ls 1 [(0, .ref (B + a0))]) : W p l e rm_X10_isPair s m args below meth c H locs 0 0 (ps_Qi D Y B below args s 0 0 q) (F0 m 0 ls []) := by
  have hx := C.1
  have hb := C.2.1
  have hml := C.2.2.1
  have hown := C.2.2.2.1
  have hts := C.2.2.2.2.1
  unfold f_X10_isPair at hF
  refine lv_aload_n hx hb dX10_isPair_0 rfl (lv_at hl 0 rfl) ?_
  refine pw_gR C hW pc_9 (k := 0) (by decide) rfl tq_918 dX10_isPair_1 hF (fun av1 hF => ?_)
  refine lv_bipush (v := 16) hx hb dX10_isPair_4 (by decide) ?_
  refine pw_aI C hW dX10_isPair_6 hF (fun xv2 hF => ?_)
  refine lv_if_lt (tgt := 14) hx hb dX10_isPair_7 (by decide) (fun hv3 => ?_) (fun hv3 => ?_)
  · replace hF := (if_pos hv3).symm.trans hF
    refine lv_iconst (v := 0) hx hb dX10_isPair_14 (by decide) ?_
    exact kb_X10_isPair_b15 C hF hW hS (lv_sub hl [] rfl)
  · replace hF := (if_neg hv3).symm.trans hF
    refine lv_iconst (v := 1) hx hb dX10_isPair_10 (by decide) ?_
    refine lv_goto (tgt := 15) hx hb dX10_isPair_11 (by decide) ?_
    exact kb_X10_isPair_b15 C hF hW hS (lv_sub hl [] rfl)
theorem mf_X10_isPair : ps_mf yX10_isPair cX10_isPair 1 ((some .boolean)) 0 := ⟨tq_1121, tq_71, by decide +kernel, by decide +kernel, by decide +kernel⟩
theorem c_X10_isPair {l : Launch} {D : va_G} {Y : ps_A} {B : Nat} {M : ps_M} {a0 : Nat} {r : Int32} {M' : ps_M} (hF : f_X10_isPair M a0 = some (r, M')) : Met l yX10_isPair (Cond.code yX10_isPair cX10_isPair 1 ((some .boolean)) :: tb_G) rm_X10_isPair (ps_PB D Y B M [.ref (B + a0)]) (va_Qi (fun x (_ : Unit) => x = r) (fun _ t => ps_St D Y B M' t) (fun q => B ≤ q)) 0 0 (fun q => B ≤ q) :=
  pm_of (by decide +kernel) (Nat.le_of_ble_eq_true rfl) (fun p e s m args below meth c C hW hS ls hl => kb_X10_isPair C hF hW hS hl)

abbrev rm_X10_told : Room := { frames := 1, cells := 0, slots := 0, locals := 21 }
def f_X10_told_b214 (M : ps_M) (t0 : Int32) : Option (Int32 × ps_M) := ps_b2 (f_X10_one M t0) (fun xv1 M => some (xv1, M))
def f_X10_told_b213 (M : ps_M)  : Option (Int32 × ps_M) := f_X10_told_b214 M (0 : Int32)
def f_X10_told (M : ps_M) (a0 : Nat) (x1 : Int32) : Option (Int32 × ps_M) := if x1 = 0 then (ps_gI M a0 9 2 (fun xv21 => some (xv21, M))) else (if x1 = 1 then (ps_gI M a0 9 3 (fun xv22 => some (xv22, M))) else (if x1 = 2 then (ps_gI M a0 9 21 (fun xv23 => some (xv23, M))) else (if x1 = 3 then (ps_gR M a0 9 0 (fun av24 => ps_aI M av24 (16 : Int32) (fun xv25 => some (xv25, M)))) else (if x1 = 4 then (ps_gR M a0 9 0 (fun av26 => ps_aI M av26 (17 : Int32) (fun xv27 => some (xv27, M)))) else (if x1 = 5 then (ps_gR M a0 9 0 (fun av28 => ps_aI M av28 (18 : Int32) (fun xv29 => some (xv29, M)))) else (if x1 = 6 then (ps_gR M a0 9 0 (fun av30 => ps_aI M av30 (19 : Int32) (fun xv31 => some (xv31, M)))) else (if x1 = 7 then (ps_gR M a0 9 0 (fun av32 => ps_aI M av32 (20 : Int32) (fun xv33 => some (xv33, M)))) else (if x1 = 8 then (ps_gR M a0 9 0 (fun av34 => ps_aI M av34 (21 : Int32) (fun xv35 => some (xv35, M)))) else (if x1 = 9 then (ps_gR M a0 9 0 (fun av36 => ps_aI M av36 (22 : Int32) (fun xv37 => some (xv37, M)))) else (if x1 = 10 then (ps_gR M a0 9 0 (fun av38 => ps_aI M av38 (23 : Int32) (fun xv39 => some (xv39, M)))) else (if x1 = 11 then (ps_gR M a0 9 0 (fun av40 => ps_aI M av40 (24 : Int32) (fun xv41 => some (xv41, M)))) else (if x1 = 12 then (ps_gI M a0 9 4 (fun xv42 => some (xv42, M))) else (if x1 = 13 then (ps_gI M a0 9 5 (fun xv43 => some (xv43, M))) else (if x1 = 14 then (ps_gI M a0 9 6 (fun xv44 => some (xv44, M))) else (if x1 = 15 then (ps_gI M a0 9 2 (fun xv45 => if xv45 ≤ 0 then (f_X10_told_b213 M ) else (ps_ck M a0 9 (ps_b2 (f_X10_isThrough M a0 (0 : Int32)) (fun xv47 M => if xv47 = 0 then (f_X10_told_b213 M ) else (f_X10_told_b214 M (1 : Int32))))))) else (if x1 = 16 then (ps_gI M a0 9 32 (fun xv49 => some (xv49, M))) else (if x1 = 17 then (ps_gI M a0 9 34 (fun xv50 => some (xv50, M))) else (if x1 = 18 then (ps_gI M a0 9 26 (fun xv51 => some (xv51, M))) else (some ((-1000000002 : Int32), M))))))))))))))))))))
set_option maxRecDepth 100000 in
set_option maxHeartbeats 4000000 in
theorem kb_X10_told_b214 (C : ps_C p s m args meth c cX10_told 2 RX10 ((some .int)) "told" D Y B) {q : Int32 × ps_M}  {M : ps_M} {t0 : Int32} (hF : f_X10_told_b214 M t0 = some q) (hW : ps_W D Y B M H) (hS : va_S (fun q => B ≤ q) s.heap H locs) (hl : lv_has ls 2 []) : W p l e rm_X10_told s m args below meth c H locs 0 0 (ps_Qi D Y B below args s 0 0 q) (F0 m 214 ls [.int t0]) := by
  have hx := C.1
  have hb := C.2.1
  have hml := C.2.2.1
  have hown := C.2.2.2.1
  have hts := C.2.2.2.2.1
  unfold f_X10_told_b214 at hF
  obtain ⟨xv1, M9, hc, hF⟩ := ps_b2_some hF
  refine ps_backI (x0 := xv1) (M' := M9) hS (ps_callS C hW mf_X10_one tq_1093 tq_1092 ⟨Nat.le_of_ble_eq_true rfl, Nat.le_of_ble_eq_true rfl⟩ rfl rfl (As := [.int t0]) (rest := []) (c_X10_one hc) rfl hl.1 rfl (Nat.le_of_ble_eq_true rfl) dX10_told_214 ⟨Nat.le_of_ble_eq_true rfl, Nat.le_of_ble_eq_true rfl⟩) (fun H locs hW hS => ?_)
  clear hc
  generalize M9 = M at hW hF
  exact pw_iret C hW hS dX10_told_217 hF
set_option maxRecDepth 100000 in
set_option maxHeartbeats 4000000 in
theorem kb_X10_told_b213 (C : ps_C p s m args meth c cX10_told 2 RX10 ((some .int)) "told" D Y B) {q : Int32 × ps_M}  {M : ps_M}  (hF : f_X10_told_b213 M  = some q) (hW : ps_W D Y B M H) (hS : va_S (fun q => B ≤ q) s.heap H locs) (hl : lv_has ls 2 []) : W p l e rm_X10_told s m args below meth c H locs 0 0 (ps_Qi D Y B below args s 0 0 q) (F0 m 213 ls []) := by
  have hx := C.1
  have hb := C.2.1
  have hml := C.2.2.1
  have hown := C.2.2.2.1
  have hts := C.2.2.2.2.1
  unfold f_X10_told_b213 at hF
  refine lv_iconst (v := 0) hx hb dX10_told_213 (by decide) ?_
  exact kb_X10_told_b214 C hF hW hS (lv_sub hl [] rfl)
set_option maxRecDepth 100000 in
set_option maxHeartbeats 4000000 in
theorem kb_X10_told (C : ps_C p s m args meth c cX10_told 2 RX10 ((some .int)) "told" D Y B) {q : Int32 × ps_M}  {M : ps_M} {a0 : Nat} {x1 : Int32} (hF : f_X10_told M a0 x1 = some q) (hW : ps_W D Y B M H) (hS : va_S (fun q => B ≤ q) s.heap H locs) (hl : lv_has ls 2 [(0, .ref (B + a0)), (1, .int x1)]) : W p l e rm_X10_told s m args below meth c H locs 0 0 (ps_Qi D Y B below args s 0 0 q) (F0 m 0 ls []) := by
  have hx := C.1
  have hb := C.2.1
  have hml := C.2.2.1
  have hown := C.2.2.2.1
  have hts := C.2.2.2.2.1
  unfold f_X10_told at hF
  refine lv_iload_n hx hb dX10_told_0 rfl (lv_at hl 1 rfl) ?_
  by_cases hv2 : x1 = 0
  · replace hF := (if_pos hv2).symm.trans hF
    refine lv_tableIn (tgt := 92) hx hb dX10_told_1 (by rw [hv2]; decide) (by rw [hv2]; decide) (by rw [hv2]; rfl) (by decide) ?_
    refine lv_aload_n hx hb dX10_told_92 rfl (lv_at hl 0 rfl) ?_
    refine pw_gI C hW pc_9 (k := 2) (by decide) rfl tq_920 dX10_told_93 hF (fun xv21 hF => ?_)
    exact pw_iret C hW hS dX10_told_96 hF
  replace hF := (if_neg hv2).symm.trans hF
  by_cases hv3 : x1 = 1
  · replace hF := (if_pos hv3).symm.trans hF
    refine lv_tableIn (tgt := 97) hx hb dX10_told_1 (by rw [hv3]; decide) (by rw [hv3]; decide) (by rw [hv3]; rfl) (by decide) ?_
    refine lv_aload_n hx hb dX10_told_97 rfl (lv_at hl 0 rfl) ?_
    refine pw_gI C hW pc_9 (k := 3) (by decide) rfl tq_921 dX10_told_98 hF (fun xv22 hF => ?_)
    exact pw_iret C hW hS dX10_told_101 hF
  replace hF := (if_neg hv3).symm.trans hF
  by_cases hv4 : x1 = 2
  · replace hF := (if_pos hv4).symm.trans hF
    refine lv_tableIn (tgt := 102) hx hb dX10_told_1 (by rw [hv4]; decide) (by rw [hv4]; decide) (by rw [hv4]; rfl) (by decide) ?_
    refine lv_aload_n hx hb dX10_told_102 rfl (lv_at hl 0 rfl) ?_
    refine pw_gI C hW pc_9 (k := 21) (by decide) rfl tq_939 dX10_told_103 hF (fun xv23 hF => ?_)
    exact pw_iret C hW hS dX10_told_106 hF
  replace hF := (if_neg hv4).symm.trans hF
  by_cases hv5 : x1 = 3
  · replace hF := (if_pos hv5).symm.trans hF
    refine lv_tableIn (tgt := 107) hx hb dX10_told_1 (by rw [hv5]; decide) (by rw [hv5]; decide) (by rw [hv5]; rfl) (by decide) ?_
    refine lv_aload_n hx hb dX10_told_107 rfl (lv_at hl 0 rfl) ?_
    refine pw_gR C hW pc_9 (k := 0) (by decide) rfl tq_918 dX10_told_108 hF (fun av24 hF => ?_)
    refine lv_bipush (v := 16) hx hb dX10_told_111 (by decide) ?_
    refine pw_aI C hW dX10_told_113 hF (fun xv25 hF => ?_)
    exact pw_iret C hW hS dX10_told_114 hF
  replace hF := (if_neg hv5).symm.trans hF
  by_cases hv6 : x1 = 4
  · replace hF := (if_pos hv6).symm.trans hF
    refine lv_tableIn (tgt := 115) hx hb dX10_told_1 (by rw [hv6]; decide) (by rw [hv6]; decide) (by rw [hv6]; rfl) (by decide) ?_
    refine lv_aload_n hx hb dX10_told_115 rfl (lv_at hl 0 rfl) ?_
    refine pw_gR C hW pc_9 (k := 0) (by decide) rfl tq_918 dX10_told_116 hF (fun av26 hF => ?_)
    refine lv_bipush (v := 17) hx hb dX10_told_119 (by decide) ?_
    refine pw_aI C hW dX10_told_121 hF (fun xv27 hF => ?_)
    exact pw_iret C hW hS dX10_told_122 hF
  replace hF := (if_neg hv6).symm.trans hF
  by_cases hv7 : x1 = 5
  · replace hF := (if_pos hv7).symm.trans hF
    refine lv_tableIn (tgt := 123) hx hb dX10_told_1 (by rw [hv7]; decide) (by rw [hv7]; decide) (by rw [hv7]; rfl) (by decide) ?_
    refine lv_aload_n hx hb dX10_told_123 rfl (lv_at hl 0 rfl) ?_
    refine pw_gR C hW pc_9 (k := 0) (by decide) rfl tq_918 dX10_told_124 hF (fun av28 hF => ?_)
    refine lv_bipush (v := 18) hx hb dX10_told_127 (by decide) ?_
    refine pw_aI C hW dX10_told_129 hF (fun xv29 hF => ?_)
    exact pw_iret C hW hS dX10_told_130 hF
  replace hF := (if_neg hv7).symm.trans hF
  by_cases hv8 : x1 = 6
  · replace hF := (if_pos hv8).symm.trans hF
    refine lv_tableIn (tgt := 131) hx hb dX10_told_1 (by rw [hv8]; decide) (by rw [hv8]; decide) (by rw [hv8]; rfl) (by decide) ?_
    refine lv_aload_n hx hb dX10_told_131 rfl (lv_at hl 0 rfl) ?_
    refine pw_gR C hW pc_9 (k := 0) (by decide) rfl tq_918 dX10_told_132 hF (fun av30 hF => ?_)
    refine lv_bipush (v := 19) hx hb dX10_told_135 (by decide) ?_
    refine pw_aI C hW dX10_told_137 hF (fun xv31 hF => ?_)
    exact pw_iret C hW hS dX10_told_138 hF
  replace hF := (if_neg hv8).symm.trans hF
  by_cases hv9 : x1 = 7
  · replace hF := (if_pos hv9).symm.trans hF
    refine lv_tableIn (tgt := 139) hx hb dX10_told_1 (by rw [hv9]; decide) (by rw [hv9]; decide) (by rw [hv9]; rfl) (by decide) ?_
    refine lv_aload_n hx hb dX10_told_139 rfl (lv_at hl 0 rfl) ?_
    refine pw_gR C hW pc_9 (k := 0) (by decide) rfl tq_918 dX10_told_140 hF (fun av32 hF => ?_)
    refine lv_bipush (v := 20) hx hb dX10_told_143 (by decide) ?_
    refine pw_aI C hW dX10_told_145 hF (fun xv33 hF => ?_)
    exact pw_iret C hW hS dX10_told_146 hF
  replace hF := (if_neg hv9).symm.trans hF
  by_cases hv10 : x1 = 8
  · replace hF := (if_pos hv10).symm.trans hF
    refine lv_tableIn (tgt := 147) hx hb dX10_told_1 (by rw [hv10]; decide) (by rw [hv10]; decide) (by rw [hv10]; rfl) (by decide) ?_
    refine lv_aload_n hx hb dX10_told_147 rfl (lv_at hl 0 rfl) ?_
    refine pw_gR C hW pc_9 (k := 0) (by decide) rfl tq_918 dX10_told_148 hF (fun av34 hF => ?_)
    refine lv_bipush (v := 21) hx hb dX10_told_151 (by decide) ?_
    refine pw_aI C hW dX10_told_153 hF (fun xv35 hF => ?_)
    exact pw_iret C hW hS dX10_told_154 hF
  replace hF := (if_neg hv10).symm.trans hF
  by_cases hv11 : x1 = 9
  · replace hF := (if_pos hv11).symm.trans hF
    refine lv_tableIn (tgt := 155) hx hb dX10_told_1 (by rw [hv11]; decide) (by rw [hv11]; decide) (by rw [hv11]; rfl) (by decide) ?_
    refine lv_aload_n hx hb dX10_told_155 rfl (lv_at hl 0 rfl) ?_
    refine pw_gR C hW pc_9 (k := 0) (by decide) rfl tq_918 dX10_told_156 hF (fun av36 hF => ?_)
    refine lv_bipush (v := 22) hx hb dX10_told_159 (by decide) ?_
    refine pw_aI C hW dX10_told_161 hF (fun xv37 hF => ?_)
    exact pw_iret C hW hS dX10_told_162 hF
  replace hF := (if_neg hv11).symm.trans hF
  by_cases hv12 : x1 = 10
  · replace hF := (if_pos hv12).symm.trans hF
    refine lv_tableIn (tgt := 163) hx hb dX10_told_1 (by rw [hv12]; decide) (by rw [hv12]; decide) (by rw [hv12]; rfl) (by decide) ?_
    refine lv_aload_n hx hb dX10_told_163 rfl (lv_at hl 0 rfl) ?_
    refine pw_gR C hW pc_9 (k := 0) (by decide) rfl tq_918 dX10_told_164 hF (fun av38 hF => ?_)
    refine lv_bipush (v := 23) hx hb dX10_told_167 (by decide) ?_
    refine pw_aI C hW dX10_told_169 hF (fun xv39 hF => ?_)
    exact pw_iret C hW hS dX10_told_170 hF
  replace hF := (if_neg hv12).symm.trans hF
  by_cases hv13 : x1 = 11
  · replace hF := (if_pos hv13).symm.trans hF
    refine lv_tableIn (tgt := 171) hx hb dX10_told_1 (by rw [hv13]; decide) (by rw [hv13]; decide) (by rw [hv13]; rfl) (by decide) ?_
    refine lv_aload_n hx hb dX10_told_171 rfl (lv_at hl 0 rfl) ?_
    refine pw_gR C hW pc_9 (k := 0) (by decide) rfl tq_918 dX10_told_172 hF (fun av40 hF => ?_)
    refine lv_bipush (v := 24) hx hb dX10_told_175 (by decide) ?_
    refine pw_aI C hW dX10_told_177 hF (fun xv41 hF => ?_)
    exact pw_iret C hW hS dX10_told_178 hF
  replace hF := (if_neg hv13).symm.trans hF
  by_cases hv14 : x1 = 12
  · replace hF := (if_pos hv14).symm.trans hF
    refine lv_tableIn (tgt := 179) hx hb dX10_told_1 (by rw [hv14]; decide) (by rw [hv14]; decide) (by rw [hv14]; rfl) (by decide) ?_
    refine lv_aload_n hx hb dX10_told_179 rfl (lv_at hl 0 rfl) ?_
    refine pw_gI C hW pc_9 (k := 4) (by decide) rfl tq_922 dX10_told_180 hF (fun xv42 hF => ?_)
    exact pw_iret C hW hS dX10_told_183 hF
  replace hF := (if_neg hv14).symm.trans hF
  by_cases hv15 : x1 = 13
  · replace hF := (if_pos hv15).symm.trans hF
    refine lv_tableIn (tgt := 184) hx hb dX10_told_1 (by rw [hv15]; decide) (by rw [hv15]; decide) (by rw [hv15]; rfl) (by decide) ?_
    refine lv_aload_n hx hb dX10_told_184 rfl (lv_at hl 0 rfl) ?_
    refine pw_gI C hW pc_9 (k := 5) (by decide) rfl tq_923 dX10_told_185 hF (fun xv43 hF => ?_)
    exact pw_iret C hW hS dX10_told_188 hF
  replace hF := (if_neg hv15).symm.trans hF
  by_cases hv16 : x1 = 14
  · replace hF := (if_pos hv16).symm.trans hF
    refine lv_tableIn (tgt := 189) hx hb dX10_told_1 (by rw [hv16]; decide) (by rw [hv16]; decide) (by rw [hv16]; rfl) (by decide) ?_
    refine lv_aload_n hx hb dX10_told_189 rfl (lv_at hl 0 rfl) ?_
    refine pw_gI C hW pc_9 (k := 6) (by decide) rfl tq_924 dX10_told_190 hF (fun xv44 hF => ?_)
    exact pw_iret C hW hS dX10_told_193 hF
  replace hF := (if_neg hv16).symm.trans hF
  by_cases hv17 : x1 = 15
  · replace hF := (if_pos hv17).symm.trans hF
    refine lv_tableIn (tgt := 194) hx hb dX10_told_1 (by rw [hv17]; decide) (by rw [hv17]; decide) (by rw [hv17]; rfl) (by decide) ?_
    refine lv_aload_n hx hb dX10_told_194 rfl (lv_at hl 0 rfl) ?_
    refine pw_gI C hW pc_9 (k := 2) (by decide) rfl tq_920 dX10_told_195 hF (fun xv45 hF => ?_)
    refine lv_if_le (tgt := 213) hx hb dX10_told_198 (by decide) (fun hv46 => ?_) (fun hv46 => ?_)
    · replace hF := (if_pos hv46).symm.trans hF
      exact kb_X10_told_b213 C hF hW hS (lv_sub hl [] rfl)
    · replace hF := (if_neg hv46).symm.trans hF
      refine lv_aload_n hx hb dX10_told_201 rfl (lv_at hl 0 rfl) ?_
      refine lv_iconst (v := 0) hx hb dX10_told_202 (by decide) ?_
      obtain ⟨hK, hF⟩ := ps_ck_some hF
      obtain ⟨xv47, M9, hc, hF⟩ := ps_b2_some hF
      refine ps_backI (x0 := xv47) (M' := M9) hS (ps_callV C hW pc_9 mf_X10_isThrough tq_1090 tq_39 tq_1088 ⟨Nat.le_of_ble_eq_true rfl, Nat.le_of_ble_eq_true rfl⟩ rfl rfl (As := [.int (0 : Int32)]) (rest := []) (c_X10_isThrough hc) hK rfl hl.1 rfl (Nat.le_of_ble_eq_true rfl) dX10_told_203 ⟨Nat.le_of_ble_eq_true rfl, Nat.le_of_ble_eq_true rfl⟩) (fun H locs hW hS => ?_)
      clear hc
      generalize M9 = M at hW hF
      refine lv_if_eq (tgt := 213) hx hb dX10_told_206 (by decide) (fun hv48 => ?_) (fun hv48 => ?_)
      · replace hF := (if_pos hv48).symm.trans hF
        exact kb_X10_told_b213 C hF hW hS (lv_sub hl [] rfl)
      · replace hF := (if_neg hv48).symm.trans hF
        refine lv_iconst (v := 1) hx hb dX10_told_209 (by decide) ?_
        refine lv_goto (tgt := 214) hx hb dX10_told_210 (by decide) ?_
        exact kb_X10_told_b214 C hF hW hS (lv_sub hl [] rfl)
  replace hF := (if_neg hv17).symm.trans hF
  by_cases hv18 : x1 = 16
  · replace hF := (if_pos hv18).symm.trans hF
    refine lv_tableIn (tgt := 218) hx hb dX10_told_1 (by rw [hv18]; decide) (by rw [hv18]; decide) (by rw [hv18]; rfl) (by decide) ?_
    refine lv_aload_n hx hb dX10_told_218 rfl (lv_at hl 0 rfl) ?_
    refine pw_gI C hW pc_9 (k := 32) (by decide) rfl tq_950 dX10_told_219 hF (fun xv49 hF => ?_)
    exact pw_iret C hW hS dX10_told_222 hF
  replace hF := (if_neg hv18).symm.trans hF
  by_cases hv19 : x1 = 17
  · replace hF := (if_pos hv19).symm.trans hF
    refine lv_tableIn (tgt := 223) hx hb dX10_told_1 (by rw [hv19]; decide) (by rw [hv19]; decide) (by rw [hv19]; rfl) (by decide) ?_
    refine lv_aload_n hx hb dX10_told_223 rfl (lv_at hl 0 rfl) ?_
    refine pw_gI C hW pc_9 (k := 34) (by decide) rfl tq_952 dX10_told_224 hF (fun xv50 hF => ?_)
    exact pw_iret C hW hS dX10_told_227 hF
  replace hF := (if_neg hv19).symm.trans hF
  by_cases hv20 : x1 = 18
  · replace hF := (if_pos hv20).symm.trans hF
    refine lv_tableIn (tgt := 228) hx hb dX10_told_1 (by rw [hv20]; decide) (by rw [hv20]; decide) (by rw [hv20]; rfl) (by decide) ?_
    refine lv_aload_n hx hb dX10_told_228 rfl (lv_at hl 0 rfl) ?_
    refine pw_gI C hW pc_9 (k := 26) (by decide) rfl tq_944 dX10_told_229 hF (fun xv51 hF => ?_)
    exact pw_iret C hW hS dX10_told_232 hF
  replace hF := (if_neg hv20).symm.trans hF
  refine lv_tableOut (tgt := 233) hx hb dX10_told_1 (by have := ps_tn hv2 (z := 0) rfl; have := ps_tn hv3 (z := 1) rfl; have := ps_tn hv4 (z := 2) rfl; have := ps_tn hv5 (z := 3) rfl; have := ps_tn hv6 (z := 4) rfl; have := ps_tn hv7 (z := 5) rfl; have := ps_tn hv8 (z := 6) rfl; have := ps_tn hv9 (z := 7) rfl; have := ps_tn hv10 (z := 8) rfl; have := ps_tn hv11 (z := 9) rfl; have := ps_tn hv12 (z := 10) rfl; have := ps_tn hv13 (z := 11) rfl; have := ps_tn hv14 (z := 12) rfl; have := ps_tn hv15 (z := 13) rfl; have := ps_tn hv16 (z := 14) rfl; have := ps_tn hv17 (z := 15) rfl; have := ps_tn hv18 (z := 16) rfl; have := ps_tn hv19 (z := 17) rfl; have := ps_tn hv20 (z := 18) rfl; omega) (by decide) ?_
  refine lv_ldc (v := -1000000002) hx hb hown (hts _ tq_1033) dX10_told_233 ?_
  exact pw_iret C hW hS dX10_told_235 hF
theorem mf_X10_told : ps_mf yX10_told cX10_told 2 ((some .int)) 1 := ⟨tq_1087, tq_71, by decide +kernel, by decide +kernel, by decide +kernel⟩
theorem c_X10_told {l : Launch} {D : va_G} {Y : ps_A} {B : Nat} {M : ps_M} {a0 : Nat} {x1 : Int32} {r : Int32} {M' : ps_M} (hF : f_X10_told M a0 x1 = some (r, M')) : Met l yX10_told (Cond.code yX10_told cX10_told 2 ((some .int)) :: tb_G) rm_X10_told (ps_PB D Y B M [.ref (B + a0), .int x1]) (va_Qi (fun x (_ : Unit) => x = r) (fun _ t => ps_St D Y B M' t) (fun q => B ≤ q)) 0 0 (fun q => B ≤ q) :=
  pm_of (by decide +kernel) (Nat.le_of_ble_eq_true rfl) (fun p e s m args below meth c C hW hS ls hl => kb_X10_told C hF hW hS hl)

abbrev rm_X10_wood : Room := { frames := 1, cells := 0, slots := 0, locals := 25 }
def f_X10_wood_b27 (M : ps_M) (t0 : Int32) : Option (Int32 × ps_M) := some (t0, M)
def f_X10_wood (M : ps_M) (a0 : Nat) (x1 : Int32) : Option (Int32 × ps_M) := ps_gI M a0 9 2 (fun xv1 => ps_b2 (f_X10_in M (x1.toInt64) (0 : Int64) ((xv1 - (1 : Int32)).toInt64)) (fun xv2 M => if xv2 = 0 then (f_X10_wood_b27 M (-1000000001 : Int32)) else (ps_gR M a0 9 14 (fun av4 => ps_aI M av4 x1 (fun xv5 => f_X10_wood_b27 M xv5)))))
set_option maxRecDepth 100000 in
set_option maxHeartbeats 4000000 in
theorem kb_X10_wood_b27 (C : ps_C p s m args meth c cX10_wood 2 RX10 ((some .int)) "wood" D Y B) {q : Int32 × ps_M}  {M : ps_M} {t0 : Int32} (hF : f_X10_wood_b27 M t0 = some q) (hW : ps_W D Y B M H) (hS : va_S (fun q => B ≤ q) s.heap H locs) (hl : lv_has ls 2 []) : W p l e rm_X10_wood s m args below meth c H locs 0 0 (ps_Qi D Y B below args s 0 0 q) (F0 m 27 ls [.int t0]) := by
  have hx := C.1
  have hb := C.2.1
  have hml := C.2.2.1
  have hown := C.2.2.2.1
  have hts := C.2.2.2.2.1
  unfold f_X10_wood_b27 at hF
  exact pw_iret C hW hS dX10_wood_27 hF
set_option maxRecDepth 100000 in
set_option maxHeartbeats 4000000 in
theorem kb_X10_wood (C : ps_C p s m args meth c cX10_wood 2 RX10 ((some .int)) "wood" D Y B) {q : Int32 × ps_M}  {M : ps_M} {a0 : Nat} {x1 : Int32} (hF : f_X10_wood M a0 x1 = some q) (hW : ps_W D Y B M H) (hS : va_S (fun q => B ≤ q) s.heap H locs) (hl : lv_has ls 2 [(0, .ref (B + a0)), (1, .int x1)]) : W p l e rm_X10_wood s m args below meth c H locs 0 0 (ps_Qi D Y B below args s 0 0 q) (F0 m 0 ls []) := by
  have hx := C.1
  have hb := C.2.1
  have hml := C.2.2.1
  have hown := C.2.2.2.1
  have hts := C.2.2.2.2.1
  unfold f_X10_wood at hF
  refine lv_iload_n hx hb dX10_wood_0 rfl (lv_at hl 1 rfl) ?_
  refine lv_i2l hx hb dX10_wood_1 rfl ?_
  refine lv_lconst (v := 0) hx hb dX10_wood_2 (by decide) ?_
  refine lv_aload_n hx hb dX10_wood_3 rfl (lv_at hl 0 rfl) ?_
  refine pw_gI C hW pc_9 (k := 2) (by decide) rfl tq_920 dX10_wood_4 hF (fun xv1 hF => ?_)
  refine lv_iconst (v := 1) hx hb dX10_wood_7 (by decide) ?_
  refine lv_isub hx hb dX10_wood_8 ?_
  refine lv_i2l hx hb dX10_wood_9 rfl ?_
  obtain ⟨xv2, M9, hc, hF⟩ := ps_b2_some hF
  refine ps_backI (x0 := xv2) (M' := M9) hS (ps_callS C hW mf_X10_in tq_1031 tq_1030 ⟨Nat.le_of_ble_eq_true rfl, Nat.le_of_ble_eq_true rfl⟩ rfl rfl (As := [.long (x1.toInt64), .long (0 : Int64), .long ((xv1 - (1 : Int32)).toInt64)]) (rest := []) (c_X10_in hc) rfl hl.1 rfl (Nat.le_of_ble_eq_true rfl) dX10_wood_10 ⟨Nat.le_of_ble_eq_true rfl, Nat.le_of_ble_eq_true rfl⟩) (fun H locs hW hS => ?_)
  clear hc
  generalize M9 = M at hW hF
  refine lv_if_eq (tgt := 25) hx hb dX10_wood_13 (by decide) (fun hv3 => ?_) (fun hv3 => ?_)
  · replace hF := (if_pos hv3).symm.trans hF
    refine lv_ldc (v := -1000000001) hx hb hown (hts _ tq_1099) dX10_wood_25 ?_
    exact kb_X10_wood_b27 C hF hW hS (lv_sub hl [] rfl)
  · replace hF := (if_neg hv3).symm.trans hF
    refine lv_aload_n hx hb dX10_wood_16 rfl (lv_at hl 0 rfl) ?_
    refine pw_gR C hW pc_9 (k := 14) (by decide) rfl tq_932 dX10_wood_17 hF (fun av4 hF => ?_)
    refine lv_iload_n hx hb dX10_wood_20 rfl (lv_at hl 1 rfl) ?_
    refine pw_aI C hW dX10_wood_21 hF (fun xv5 hF => ?_)
    refine lv_goto (tgt := 27) hx hb dX10_wood_22 (by decide) ?_
    exact kb_X10_wood_b27 C hF hW hS (lv_sub hl [] rfl)
theorem mf_X10_wood : ps_mf yX10_wood cX10_wood 2 ((some .int)) 1 := ⟨tq_1098, tq_71, by decide +kernel, by decide +kernel, by decide +kernel⟩
theorem c_X10_wood {l : Launch} {D : va_G} {Y : ps_A} {B : Nat} {M : ps_M} {a0 : Nat} {x1 : Int32} {r : Int32} {M' : ps_M} (hF : f_X10_wood M a0 x1 = some (r, M')) : Met l yX10_wood (Cond.code yX10_wood cX10_wood 2 ((some .int)) :: tb_G) rm_X10_wood (ps_PB D Y B M [.ref (B + a0), .int x1]) (va_Qi (fun x (_ : Unit) => x = r) (fun _ t => ps_St D Y B M' t) (fun q => B ≤ q)) 0 0 (fun q => B ≤ q) :=
  pm_of (by decide +kernel) (Nat.le_of_ble_eq_true rfl) (fun p e s m args below meth c C hW hS ls hl => kb_X10_wood C hF hW hS hl)

abbrev rm_X10_person : Room := { frames := 2, cells := 0, slots := 0, locals := 46 }
def f_X10_person (M : ps_M) (a0 : Nat) (x1 : Int32) (x2 : Int32) : Option (Int32 × ps_M) := ps_ck M a0 9 (ps_b2 (f_X10_isPerson M a0 x1) (fun xv1 M => if xv1 = 0 then (some ((-1000000001 : Int32), M)) else (if x2 = 0 then (ps_gR M a0 9 15 (fun av11 => ps_aI M av11 x1 (fun xv12 => some (xv12, M)))) else (if x2 = 1 then (ps_gR M a0 9 16 (fun av13 => ps_aI M av13 x1 (fun xv14 => some (xv14, M)))) else (if x2 = 2 then (ps_gR M a0 9 17 (fun av15 => ps_aI M av15 x1 (fun xv16 => some (xv16, M)))) else (if x2 = 3 then (ps_gR M a0 9 0 (fun av17 => ps_aI M av17 ((12 : Int32) + x1) (fun xv18 => some (xv18, M)))) else (if x2 = 4 then (ps_gR M a0 9 19 (fun av19 => ps_aI M av19 x1 (fun xv20 => some (xv20, M)))) else (if x2 = 5 then (ps_gR M a0 9 0 (fun av21 => ps_aI M av21 x1 (fun xv22 => some (xv22, M)))) else (if x2 = 6 then (ps_gR M a0 9 0 (fun av23 => ps_aI M av23 ((4 : Int32) + x1) (fun xv24 => some (xv24, M)))) else (if x2 = 7 then (ps_gR M a0 9 0 (fun av25 => ps_aI M av25 ((8 : Int32) + x1) (fun xv26 => some (xv26, M)))) else (some ((-1000000002 : Int32), M))))))))))))
set_option maxRecDepth 100000 in
set_option maxHeartbeats 4000000 in
theorem kb_X10_person (C : ps_C p s m args meth c cX10_person 3 RX10 ((some .int)) "person" D Y B) {q : Int32 × ps_M}  {M : ps_M} {a0 : Nat} {x1 : Int32} {x2 : Int32} (hF : f_X10_person M a0 x1 x2 = some q) (hW : ps_W D Y B M H) (hS : va_S (fun q => B ≤ q) s.heap H locs) (hl : lv_has ls 3 [(0, .ref (B + a0)), (1, .int x1), (2, .int x2)]) : W p l e rm_X10_person s m args below meth c H locs 0 0 (ps_Qi D Y B below args s 0 0 q) (F0 m 0 ls []) := by
  have hx := C.1
  have hb := C.2.1
  have hml := C.2.2.1
  have hown := C.2.2.2.1
  have hts := C.2.2.2.2.1
  unfold f_X10_person at hF
  refine lv_aload_n hx hb dX10_person_0 rfl (lv_at hl 0 rfl) ?_
  refine lv_iload_n hx hb dX10_person_1 rfl (lv_at hl 1 rfl) ?_
  obtain ⟨hK, hF⟩ := ps_ck_some hF
  obtain ⟨xv1, M9, hc, hF⟩ := ps_b2_some hF
  refine ps_backI (x0 := xv1) (M' := M9) hS (ps_callV C hW pc_9 mf_X10_isPerson tq_1106 tq_40 tq_1104 ⟨Nat.le_of_ble_eq_true rfl, Nat.le_of_ble_eq_true rfl⟩ rfl rfl (As := [.int x1]) (rest := []) (c_X10_isPerson hc) hK rfl hl.1 rfl (Nat.le_of_ble_eq_true rfl) dX10_person_2 ⟨Nat.le_of_ble_eq_true rfl, Nat.le_of_ble_eq_true rfl⟩) (fun H locs hW hS => ?_)
  clear hc
  generalize M9 = M at hW hF
  refine lv_if_ne (tgt := 11) hx hb dX10_person_5 (by decide) (fun hv2 => ?_) (fun hv2 => ?_)
  · replace hF := (if_neg hv2).symm.trans hF
    refine lv_iload_n hx hb dX10_person_11 rfl (lv_at hl 2 rfl) ?_
    by_cases hv3 : x2 = 0
    · replace hF := (if_pos hv3).symm.trans hF
      refine lv_tableIn (tgt := 60) hx hb dX10_person_12 (by rw [hv3]; decide) (by rw [hv3]; decide) (by rw [hv3]; rfl) (by decide) ?_
      refine lv_aload_n hx hb dX10_person_60 rfl (lv_at hl 0 rfl) ?_
      refine pw_gR C hW pc_9 (k := 15) (by decide) rfl tq_933 dX10_person_61 hF (fun av11 hF => ?_)
      refine lv_iload_n hx hb dX10_person_64 rfl (lv_at hl 1 rfl) ?_
      refine pw_aI C hW dX10_person_65 hF (fun xv12 hF => ?_)
      exact pw_iret C hW hS dX10_person_66 hF
    replace hF := (if_neg hv3).symm.trans hF
    by_cases hv4 : x2 = 1
    · replace hF := (if_pos hv4).symm.trans hF
      refine lv_tableIn (tgt := 67) hx hb dX10_person_12 (by rw [hv4]; decide) (by rw [hv4]; decide) (by rw [hv4]; rfl) (by decide) ?_
      refine lv_aload_n hx hb dX10_person_67 rfl (lv_at hl 0 rfl) ?_
      refine pw_gR C hW pc_9 (k := 16) (by decide) rfl tq_934 dX10_person_68 hF (fun av13 hF => ?_)
      refine lv_iload_n hx hb dX10_person_71 rfl (lv_at hl 1 rfl) ?_
      refine pw_aI C hW dX10_person_72 hF (fun xv14 hF => ?_)
      exact pw_iret C hW hS dX10_person_73 hF
    replace hF := (if_neg hv4).symm.trans hF
    by_cases hv5 : x2 = 2
    · replace hF := (if_pos hv5).symm.trans hF
      refine lv_tableIn (tgt := 74) hx hb dX10_person_12 (by rw [hv5]; decide) (by rw [hv5]; decide) (by rw [hv5]; rfl) (by decide) ?_
      refine lv_aload_n hx hb dX10_person_74 rfl (lv_at hl 0 rfl) ?_
      refine pw_gR C hW pc_9 (k := 17) (by decide) rfl tq_935 dX10_person_75 hF (fun av15 hF => ?_)
      refine lv_iload_n hx hb dX10_person_78 rfl (lv_at hl 1 rfl) ?_
      refine pw_aI C hW dX10_person_79 hF (fun xv16 hF => ?_)
      exact pw_iret C hW hS dX10_person_80 hF
    replace hF := (if_neg hv5).symm.trans hF
    by_cases hv6 : x2 = 3
    · replace hF := (if_pos hv6).symm.trans hF
      refine lv_tableIn (tgt := 81) hx hb dX10_person_12 (by rw [hv6]; decide) (by rw [hv6]; decide) (by rw [hv6]; rfl) (by decide) ?_
      refine lv_aload_n hx hb dX10_person_81 rfl (lv_at hl 0 rfl) ?_
      refine pw_gR C hW pc_9 (k := 0) (by decide) rfl tq_918 dX10_person_82 hF (fun av17 hF => ?_)
      refine lv_bipush (v := 12) hx hb dX10_person_85 (by decide) ?_
      refine lv_iload_n hx hb dX10_person_87 rfl (lv_at hl 1 rfl) ?_
      refine lv_iadd hx hb dX10_person_88 ?_
      refine pw_aI C hW dX10_person_89 hF (fun xv18 hF => ?_)
      exact pw_iret C hW hS dX10_person_90 hF
    replace hF := (if_neg hv6).symm.trans hF
    by_cases hv7 : x2 = 4
    · replace hF := (if_pos hv7).symm.trans hF
      refine lv_tableIn (tgt := 91) hx hb dX10_person_12 (by rw [hv7]; decide) (by rw [hv7]; decide) (by rw [hv7]; rfl) (by decide) ?_
      refine lv_aload_n hx hb dX10_person_91 rfl (lv_at hl 0 rfl) ?_
      refine pw_gR C hW pc_9 (k := 19) (by decide) rfl tq_937 dX10_person_92 hF (fun av19 hF => ?_)
      refine lv_iload_n hx hb dX10_person_95 rfl (lv_at hl 1 rfl) ?_
      refine pw_aI C hW dX10_person_96 hF (fun xv20 hF => ?_)
      exact pw_iret C hW hS dX10_person_97 hF
    replace hF := (if_neg hv7).symm.trans hF
    by_cases hv8 : x2 = 5
    · replace hF := (if_pos hv8).symm.trans hF
      refine lv_tableIn (tgt := 98) hx hb dX10_person_12 (by rw [hv8]; decide) (by rw [hv8]; decide) (by rw [hv8]; rfl) (by decide) ?_
      refine lv_aload_n hx hb dX10_person_98 rfl (lv_at hl 0 rfl) ?_
      refine pw_gR C hW pc_9 (k := 0) (by decide) rfl tq_918 dX10_person_99 hF (fun av21 hF => ?_)
      refine lv_iload_n hx hb dX10_person_102 rfl (lv_at hl 1 rfl) ?_
      refine pw_aI C hW dX10_person_103 hF (fun xv22 hF => ?_)
      exact pw_iret C hW hS dX10_person_104 hF
    replace hF := (if_neg hv8).symm.trans hF
    by_cases hv9 : x2 = 6
    · replace hF := (if_pos hv9).symm.trans hF
      refine lv_tableIn (tgt := 105) hx hb dX10_person_12 (by rw [hv9]; decide) (by rw [hv9]; decide) (by rw [hv9]; rfl) (by decide) ?_
      refine lv_aload_n hx hb dX10_person_105 rfl (lv_at hl 0 rfl) ?_
      refine pw_gR C hW pc_9 (k := 0) (by decide) rfl tq_918 dX10_person_106 hF (fun av23 hF => ?_)
      refine lv_iconst (v := 4) hx hb dX10_person_109 (by decide) ?_
      refine lv_iload_n hx hb dX10_person_110 rfl (lv_at hl 1 rfl) ?_
      refine lv_iadd hx hb dX10_person_111 ?_
      refine pw_aI C hW dX10_person_112 hF (fun xv24 hF => ?_)
      exact pw_iret C hW hS dX10_person_113 hF
    replace hF := (if_neg hv9).symm.trans hF
    by_cases hv10 : x2 = 7
    · replace hF := (if_pos hv10).symm.trans hF
      refine lv_tableIn (tgt := 114) hx hb dX10_person_12 (by rw [hv10]; decide) (by rw [hv10]; decide) (by rw [hv10]; rfl) (by decide) ?_
      refine lv_aload_n hx hb dX10_person_114 rfl (lv_at hl 0 rfl) ?_
      refine pw_gR C hW pc_9 (k := 0) (by decide) rfl tq_918 dX10_person_115 hF (fun av25 hF => ?_)
      refine lv_bipush (v := 8) hx hb dX10_person_118 (by decide) ?_
      refine lv_iload_n hx hb dX10_person_120 rfl (lv_at hl 1 rfl) ?_
      refine lv_iadd hx hb dX10_person_121 ?_
      refine pw_aI C hW dX10_person_122 hF (fun xv26 hF => ?_)
      exact pw_iret C hW hS dX10_person_123 hF
    replace hF := (if_neg hv10).symm.trans hF
    refine lv_tableOut (tgt := 124) hx hb dX10_person_12 (by have := ps_tn hv3 (z := 0) rfl; have := ps_tn hv4 (z := 1) rfl; have := ps_tn hv5 (z := 2) rfl; have := ps_tn hv6 (z := 3) rfl; have := ps_tn hv7 (z := 4) rfl; have := ps_tn hv8 (z := 5) rfl; have := ps_tn hv9 (z := 6) rfl; have := ps_tn hv10 (z := 7) rfl; omega) (by decide) ?_
    refine lv_ldc (v := -1000000002) hx hb hown (hts _ tq_1033) dX10_person_124 ?_
    exact pw_iret C hW hS dX10_person_126 hF
  · replace hF := (if_pos hv2).symm.trans hF
    refine lv_ldc (v := -1000000001) hx hb hown (hts _ tq_1099) dX10_person_8 ?_
    exact pw_iret C hW hS dX10_person_10 hF
theorem mf_X10_person : ps_mf yX10_person cX10_person 3 ((some .int)) 2 := ⟨tq_1103, tq_71, by decide +kernel, by decide +kernel, by decide +kernel⟩
theorem c_X10_person {l : Launch} {D : va_G} {Y : ps_A} {B : Nat} {M : ps_M} {a0 : Nat} {x1 : Int32} {x2 : Int32} {r : Int32} {M' : ps_M} (hF : f_X10_person M a0 x1 x2 = some (r, M')) : Met l yX10_person (Cond.code yX10_person cX10_person 3 ((some .int)) :: tb_G) rm_X10_person (ps_PB D Y B M [.ref (B + a0), .int x1, .int x2]) (va_Qi (fun x (_ : Unit) => x = r) (fun _ t => ps_St D Y B M' t) (fun q => B ≤ q)) 0 0 (fun q => B ≤ q) :=
  pm_of (by decide +kernel) (Nat.le_of_ble_eq_true rfl) (fun p e s m args below meth c C hW hS ls hl => kb_X10_person C hF hW hS hl)

abbrev rm_X10_tire : Room := { frames := 0, cells := 0, slots := 0, locals := 0 }
def f_X10_tire_b36 (M : ps_M) (t0 : Nat) (t1 : Int32) (t2 : Int32) : Option (ps_M) := ps_xI M t0 t1 t2 (fun M => some M)
def f_X10_tire (M : ps_M) (a0 : Nat) (x1 : Int32) (x2 : Int32) : Option (ps_M) := ps_gR M a0 9 0 (fun av1 => ps_aI M av1 x1 (fun xv2 => ps_v ((xv2 + x2)) (fun xv3 => ps_gR M a0 9 0 (fun av4 => if xv3 ≤ (999 : Int32) then (if 0 ≤ xv3 then (f_X10_tire_b36 M av4 x1 xv3) else (f_X10_tire_b36 M av4 x1 (0 : Int32))) else (f_X10_tire_b36 M av4 x1 (999 : Int32))))))
set_option maxRecDepth 100000 in
set_option maxHeartbeats 4000000 in
theorem kb_X10_tire_b36 (C : ps_C p s m args meth c cX10_tire 4 RX10 none "tire" D Y B) {q : ps_M}  {M : ps_M} {t0 : Nat} {t1 : Int32} {t2 : Int32} (hF : f_X10_tire_b36 M t0 t1 t2 = some q) (hW : ps_W D Y B M H) (hS : va_S (fun q => B ≤ q) s.heap H locs) (hl : lv_has ls 4 []) : W p l e rm_X10_tire s m args below meth c H locs 0 0 (ps_Qv D Y B below args s 0 0 q) (F0 m 36 ls [.int t2, .int t1, .ref (B + t0)]) := by
  have hx := C.1
  have hb := C.2.1
  have hml := C.2.2.1
  have hown := C.2.2.2.1
  have hts := C.2.2.2.2.1
  unfold f_X10_tire_b36 at hF
  refine pw_xI C hW hS dX10_tire_36 hF (fun M H locs hW hS hF => ?_)
  exact pw_vret C hW hS dX10_tire_37 hF
set_option maxRecDepth 100000 in
set_option maxHeartbeats 4000000 in
theorem kb_X10_tire (C : ps_C p s m args meth c cX10_tire 4 RX10 none "tire" D Y B) {q : ps_M}  {M : ps_M} {a0 : Nat} {x1 : Int32} {x2 : Int32} (hF : f_X10_tire M a0 x1 x2 = some q) (hW : ps_W D Y B M H) (hS : va_S (fun q => B ≤ q) s.heap H locs) (hl : lv_has ls 4 [(0, .ref (B + a0)), (1, .int x1), (2, .int x2)]) : W p l e rm_X10_tire s m args below meth c H locs 0 0 (ps_Qv D Y B below args s 0 0 q) (F0 m 0 ls []) := by
  have hx := C.1
  have hb := C.2.1
  have hml := C.2.2.1
  have hown := C.2.2.2.1
  have hts := C.2.2.2.2.1
  unfold f_X10_tire at hF
  refine lv_aload_n hx hb dX10_tire_0 rfl (lv_at hl 0 rfl) ?_
  refine pw_gR C hW pc_9 (k := 0) (by decide) rfl tq_918 dX10_tire_1 hF (fun av1 hF => ?_)
  refine lv_iload_n hx hb dX10_tire_4 rfl (lv_at hl 1 rfl) ?_
  refine pw_aI C hW dX10_tire_5 hF (fun xv2 hF => ?_)
  refine lv_iload_n hx hb dX10_tire_6 rfl (lv_at hl 2 rfl) ?_
  refine lv_iadd hx hb dX10_tire_7 ?_
  refine pw_v hF (fun xv3 hF => ?_)
  refine lv_istore_n (lv' := [(3, .int xv3), (0, .ref (B + a0)), (1, .int x1), (2, .int x2)]) hx hb dX10_tire_8 rfl hl (by decide) rfl (fun ls hl => ?_)
  refine lv_aload_n hx hb dX10_tire_9 rfl (lv_at hl 1 rfl) ?_
  refine pw_gR C hW pc_9 (k := 0) (by decide) rfl tq_918 dX10_tire_10 hF (fun av4 hF => ?_)
  refine lv_iload_n hx hb dX10_tire_13 rfl (lv_at hl 2 rfl) ?_
  refine lv_iload_n hx hb dX10_tire_14 rfl (lv_at hl 0 rfl) ?_
  refine lv_sipush (v := 999) hx hb dX10_tire_15 (by decide) ?_
  refine lv_icmp_le (tgt := 27) hx hb dX10_tire_18 (by decide) (fun hv5 => ?_) (fun hv5 => ?_)
  · replace hF := (if_pos hv5).symm.trans hF
    refine lv_iload_n hx hb dX10_tire_27 rfl (lv_at hl 0 rfl) ?_
    refine lv_if_ge (tgt := 35) hx hb dX10_tire_28 (by decide) (fun hv6 => ?_) (fun hv6 => ?_)
    · replace hF := (if_pos hv6).symm.trans hF
      refine lv_iload_n hx hb dX10_tire_35 rfl (lv_at hl 0 rfl) ?_
      exact kb_X10_tire_b36 C hF hW hS (lv_sub hl [] rfl)
    · replace hF := (if_neg hv6).symm.trans hF
      refine lv_iconst (v := 0) hx hb dX10_tire_31 (by decide) ?_
      refine lv_goto (tgt := 36) hx hb dX10_tire_32 (by decide) ?_
      exact kb_X10_tire_b36 C hF hW hS (lv_sub hl [] rfl)
  · replace hF := (if_neg hv5).symm.trans hF
    refine lv_sipush (v := 999) hx hb dX10_tire_21 (by decide) ?_
    refine lv_goto (tgt := 36) hx hb dX10_tire_24 (by decide) ?_
    exact kb_X10_tire_b36 C hF hW hS (lv_sub hl [] rfl)
theorem mf_X10_tire : ps_mf yX10_tire cX10_tire 4 none 2 := ⟨tq_1141, tq_71, by decide +kernel, by decide +kernel, by decide +kernel⟩
theorem c_X10_tire {l : Launch} {D : va_G} {Y : ps_A} {B : Nat} {M : ps_M} {a0 : Nat} {x1 : Int32} {x2 : Int32} {M' : ps_M} (hF : f_X10_tire M a0 x1 x2 = some M') : Met l yX10_tire (Cond.code yX10_tire cX10_tire 4 none :: tb_G) rm_X10_tire (ps_PB D Y B M [.ref (B + a0), .int x1, .int x2]) (va_Qv (fun (_ : Unit) => True) (fun _ t => ps_St D Y B M' t) (fun q => B ≤ q)) 0 0 (fun q => B ≤ q) :=
  pm_of (by decide +kernel) (Nat.le_of_ble_eq_true rfl) (fun p e s m args below meth c C hW hS ls hl => kb_X10_tire C hF hW hS hl)

abbrev rm_X10_pullOf : Room := { frames := 1, cells := 0, slots := 0, locals := 23 }
def f_X10_pullOf_b236 (M : ps_M) (t0 : Int32) : Option (Int32 × ps_M) := some (t0, M)
def f_X10_pullOf_b223 (M : ps_M) (t0 : Int32) : Option (Int32 × ps_M) := if 0 ≤ t0 then (f_X10_pullOf_b236 M t0) else (f_X10_pullOf_b236 M (0 : Int32))
def f_X10_pullOf_b221 (M : ps_M) (x5 : Int32) : Option (Int32 × ps_M) := f_X10_pullOf_b223 M x5
def f_X10_pullOf_b166 (M : ps_M) (a0 : Nat) (x1 : Int32) (x5 : Int32) : Option (Int32 × ps_M) := ps_gR M a0 9 0 (fun av2 => ps_aI M av2 (x1 + (22 : Int32)) (fun xv3 => ps_v ((x5 - (xv3 / (10 : Int32)))) (fun xv4 => ps_gR M a0 9 0 (fun av5 => ps_aI M av5 (x1 + (19 : Int32)) (fun xv6 => ps_gI M a0 9 6 (fun xv7 => if (xv6 / (100 : Int32)) < xv7 then (f_X10_pullOf_b221 M xv4) else (ps_gR M a0 9 0 (fun av9 => ps_aI M av9 (x1 + (23 : Int32)) (fun xv10 => if xv10 = 0 then (f_X10_pullOf_b223 M (xv4 / (2 : Int32))) else (f_X10_pullOf_b221 M xv4))))))))))
def f_X10_pullOf_b137 (M : ps_M) (a0 : Nat) (x1 : Int32) (x2 : Int32) (x3 : Int32) (x5 : Int32) (x6 : Int32) : Option (Int32 × ps_M) := if x6 ≤ (5 : Int32) then (f_X10_pullOf_b166 M a0 x1 x5) else (ps_ck M a0 9 (ps_b1 (f_X10_tire M a0 ((x1 + (4 : Int32)) + x2) (2 : Int32)) (fun M => ps_ck M a0 9 (ps_b1 (f_X10_tire M a0 ((x1 + (4 : Int32)) + x3) (2 : Int32)) (fun M => f_X10_pullOf_b166 M a0 x1 (0 : Int32))))))
def f_X10_pullOf_b77 (M : ps_M) (a0 : Nat) (x1 : Int32) (x2 : Int32) (x3 : Int32) (t0 : Int32) : Option (Int32 × ps_M) := ps_gR M a0 9 0 (fun av13 => ps_aI M av13 ((x1 + (12 : Int32)) + x3) (fun xv14 => if (5 : Int32) ≤ xv14 then (if xv14 ≤ (5 : Int32) then (f_X10_pullOf_b137 M a0 x1 x2 x3 t0 xv14) else (ps_gI M a0 9 4 (fun xv17 => if xv17 < (xv14 - (5 : Int32)) then (f_X10_pullOf_b137 M a0 x1 x2 x3 t0 xv14) else (ps_v ((t0 + (t0 / (2 : Int32)))) (fun xv19 => f_X10_pullOf_b166 M a0 x1 xv19))))) else (ps_v ((t0 - xv14)) (fun xv20 => f_X10_pullOf_b166 M a0 x1 xv20))))
def f_X10_pullOf_b34 (M : ps_M) (a0 : Nat) (x1 : Int32) (x2 : Int32) (x3 : Int32) (t0 : Int32) : Option (Int32 × ps_M) := ps_gR M a0 9 0 (fun av21 => ps_aI M av21 ((x1 + (8 : Int32)) + x2) (fun xv22 => ps_gR M a0 9 0 (fun av23 => ps_aI M av23 ((x1 + (4 : Int32)) + x2) (fun xv24 => ps_v (((t0 + xv22) - (xv24 / (10 : Int32)))) (fun xv25 => if 0 ≤ xv25 then (f_X10_pullOf_b77 M a0 x1 x2 x3 xv25) else (f_X10_pullOf_b77 M a0 x1 x2 x3 (0 : Int32)))))))
def f_X10_pullOf (M : ps_M) (a0 : Nat) (x1 : Int32) (x2 : Int32) (x3 : Int32) : Option (Int32 × ps_M) := ps_gR M a0 9 15 (fun av27 => ps_aI M av27 x2 (fun xv28 => ps_gR M a0 9 0 (fun av29 => ps_aI M av29 (x1 + x2) (fun xv30 => if xv30 ≤ xv28 then (ps_gR M a0 9 0 (fun av32 => ps_aI M av32 (x1 + x2) (fun xv33 => f_X10_pullOf_b34 M a0 x1 x2 x3 xv33))) else (ps_gR M a0 9 15 (fun av34 => ps_aI M av34 x2 (fun xv35 => f_X10_pullOf_b34 M a0 x1 x2 x3 xv35)))))))
set_option maxRecDepth 100000 in
set_option maxHeartbeats 4000000 in
theorem kb_X10_pullOf_b236 (C : ps_C p s m args meth c cX10_pullOf 7 RX10 ((some .int)) "pullOf" D Y B) {q : Int32 × ps_M}  {M : ps_M} {t0 : Int32} (hF : f_X10_pullOf_b236 M t0 = some q) (hW : ps_W D Y B M H) (hS : va_S (fun q => B ≤ q) s.heap H locs) (hl : lv_has ls 7 []) : W p l e rm_X10_pullOf s m args below meth c H locs 0 0 (ps_Qi D Y B below args s 0 0 q) (F0 m 236 ls [.int t0]) := by
  have hx := C.1
  have hb := C.2.1
  have hml := C.2.2.1
  have hown := C.2.2.2.1
  have hts := C.2.2.2.2.1
  unfold f_X10_pullOf_b236 at hF
  exact pw_iret C hW hS dX10_pullOf_236 hF
set_option maxRecDepth 100000 in
set_option maxHeartbeats 4000000 in
theorem kb_X10_pullOf_b223 (C : ps_C p s m args meth c cX10_pullOf 7 RX10 ((some .int)) "pullOf" D Y B) {q : Int32 × ps_M}  {M : ps_M} {t0 : Int32} (hF : f_X10_pullOf_b223 M t0 = some q) (hW : ps_W D Y B M H) (hS : va_S (fun q => B ≤ q) s.heap H locs) (hl : lv_has ls 7 []) : W p l e rm_X10_pullOf s m args below meth c H locs 0 0 (ps_Qi D Y B below args s 0 0 q) (F0 m 223 ls [.int t0]) := by
  have hx := C.1
  have hb := C.2.1
  have hml := C.2.2.1
  have hown := C.2.2.2.1
  have hts := C.2.2.2.2.1
  unfold f_X10_pullOf_b223 at hF
  refine lv_istore (lv' := [(5, .int t0)]) hx hb dX10_pullOf_223 hl (by decide) rfl (fun ls hl => ?_)
  refine lv_iload hx hb dX10_pullOf_225 (lv_at hl 0 rfl) ?_
  refine lv_if_ge (tgt := 234) hx hb dX10_pullOf_227 (by decide) (fun hv1 => ?_) (fun hv1 => ?_)
  · replace hF := (if_pos hv1).symm.trans hF
    refine lv_iload hx hb dX10_pullOf_234 (lv_at hl 0 rfl) ?_
    exact kb_X10_pullOf_b236 C hF hW hS (lv_sub hl [] rfl)
  · replace hF := (if_neg hv1).symm.trans hF
    refine lv_iconst (v := 0) hx hb dX10_pullOf_230 (by decide) ?_
    refine lv_goto (tgt := 236) hx hb dX10_pullOf_231 (by decide) ?_
    exact kb_X10_pullOf_b236 C hF hW hS (lv_sub hl [] rfl)
set_option maxRecDepth 100000 in
set_option maxHeartbeats 4000000 in
theorem kb_X10_pullOf_b221 (C : ps_C p s m args meth c cX10_pullOf 7 RX10 ((some .int)) "pullOf" D Y B) {q : Int32 × ps_M}  {M : ps_M} {x5 : Int32} (hF : f_X10_pullOf_b221 M x5 = some q) (hW : ps_W D Y B M H) (hS : va_S (fun q => B ≤ q) s.heap H locs) (hl : lv_has ls 7 [(5, .int x5)]) : W p l e rm_X10_pullOf s m args below meth c H locs 0 0 (ps_Qi D Y B below args s 0 0 q) (F0 m 221 ls []) := by
  have hx := C.1
  have hb := C.2.1
  have hml := C.2.2.1
  have hown := C.2.2.2.1
  have hts := C.2.2.2.2.1
  unfold f_X10_pullOf_b221 at hF
  refine lv_iload hx hb dX10_pullOf_221 (lv_at hl 0 rfl) ?_
  exact kb_X10_pullOf_b223 C hF hW hS (lv_sub hl [] rfl)
set_option maxRecDepth 100000 in
set_option maxHeartbeats 4000000 in
theorem kb_X10_pullOf_b166 (C : ps_C p s m args meth c cX10_pullOf 7 RX10 ((some .int)) "pullOf" D Y B) {q : Int32 × ps_M}  {M : ps_M} {a0 : Nat} {x1 : Int32} {x5 : Int32} (hF : f_X10_pullOf_b166 M a0 x1 x5 = some q) (hW : ps_W D Y B M H) (hS : va_S (fun q => B ≤ q) s.heap H locs) (hl : lv_has ls 7 [(0, .ref (B + a0)), (1, .int x1), (5, .int x5)]) : W p l e rm_X10_pullOf s m args below meth c H locs 0 0 (ps_Qi D Y B below args s 0 0 q) (F0 m 166 ls []) := by
  have hx := C.1
  have hb := C.2.1
  have hml := C.2.2.1
  have hown := C.2.2.2.1
  have hts := C.2.2.2.2.1
  unfold f_X10_pullOf_b166 at hF
  refine lv_iload hx hb dX10_pullOf_166 (lv_at hl 2 rfl) ?_
  refine lv_aload_n hx hb dX10_pullOf_168 rfl (lv_at hl 0 rfl) ?_
  refine pw_gR C hW pc_9 (k := 0) (by decide) rfl tq_918 dX10_pullOf_169 hF (fun av2 hF => ?_)
  refine lv_iload_n hx hb dX10_pullOf_172 rfl (lv_at hl 1 rfl) ?_
  refine lv_bipush (v := 22) hx hb dX10_pullOf_173 (by decide) ?_
  refine lv_iadd hx hb dX10_pullOf_175 ?_
  refine pw_aI C hW dX10_pullOf_176 hF (fun xv3 hF => ?_)
  refine lv_bipush (v := 10) hx hb dX10_pullOf_177 (by decide) ?_
  refine lv_idiv hx hb dX10_pullOf_179 (by decide) ?_
  refine lv_isub hx hb dX10_pullOf_180 ?_
  refine pw_v hF (fun xv4 hF => ?_)
  refine lv_istore (lv' := [(5, .int xv4), (0, .ref (B + a0)), (1, .int x1)]) hx hb dX10_pullOf_181 hl (by decide) rfl (fun ls hl => ?_)
  refine lv_aload_n hx hb dX10_pullOf_183 rfl (lv_at hl 1 rfl) ?_
  refine pw_gR C hW pc_9 (k := 0) (by decide) rfl tq_918 dX10_pullOf_184 hF (fun av5 hF => ?_)
  refine lv_iload_n hx hb dX10_pullOf_187 rfl (lv_at hl 2 rfl) ?_
  refine lv_bipush (v := 19) hx hb dX10_pullOf_188 (by decide) ?_
  refine lv_iadd hx hb dX10_pullOf_190 ?_
  refine pw_aI C hW dX10_pullOf_191 hF (fun xv6 hF => ?_)
  refine lv_bipush (v := 100) hx hb dX10_pullOf_192 (by decide) ?_
  refine lv_idiv hx hb dX10_pullOf_194 (by decide) ?_
  refine lv_aload_n hx hb dX10_pullOf_195 rfl (lv_at hl 1 rfl) ?_
  refine pw_gI C hW pc_9 (k := 6) (by decide) rfl tq_924 dX10_pullOf_196 hF (fun xv7 hF => ?_)
  refine lv_icmp_lt (tgt := 221) hx hb dX10_pullOf_199 (by decide) (fun hv8 => ?_) (fun hv8 => ?_)
  · replace hF := (if_pos hv8).symm.trans hF
    exact kb_X10_pullOf_b221 C hF hW hS (lv_sub hl [0] rfl)
  · replace hF := (if_neg hv8).symm.trans hF
    refine lv_aload_n hx hb dX10_pullOf_202 rfl (lv_at hl 1 rfl) ?_
    refine pw_gR C hW pc_9 (k := 0) (by decide) rfl tq_918 dX10_pullOf_203 hF (fun av9 hF => ?_)
    refine lv_iload_n hx hb dX10_pullOf_206 rfl (lv_at hl 2 rfl) ?_
    refine lv_bipush (v := 23) hx hb dX10_pullOf_207 (by decide) ?_
    refine lv_iadd hx hb dX10_pullOf_209 ?_
    refine pw_aI C hW dX10_pullOf_210 hF (fun xv10 hF => ?_)
    refine lv_if_ne (tgt := 221) hx hb dX10_pullOf_211 (by decide) (fun hv11 => ?_) (fun hv11 => ?_)
    · replace hF := (if_neg hv11).symm.trans hF
      exact kb_X10_pullOf_b221 C hF hW hS (lv_sub hl [0] rfl)
    · replace hF := (if_pos hv11).symm.trans hF
      refine lv_iload hx hb dX10_pullOf_214 (lv_at hl 0 rfl) ?_
      refine lv_iconst (v := 2) hx hb dX10_pullOf_216 (by decide) ?_
      refine lv_idiv hx hb dX10_pullOf_217 (by decide) ?_
      refine lv_goto (tgt := 223) hx hb dX10_pullOf_218 (by decide) ?_
      exact kb_X10_pullOf_b223 C hF hW hS (lv_sub hl [] rfl)
set_option maxRecDepth 100000 in
set_option maxHeartbeats 4000000 in
theorem kb_X10_pullOf_b137 (C : ps_C p s m args meth c cX10_pullOf 7 RX10 ((some .int)) "pullOf" D Y B) {q : Int32 × ps_M}  {M : ps_M} {a0 : Nat} {x1 : Int32} {x2 : Int32} {x3 : Int32} {x5 : Int32} {x6 : Int32} (hF : f_X10_pullOf_b137 M a0 x1 x2 x3 x5 x6 = some q) (hW : ps_W D Y B M H) (hS : va_S (fun q => B ≤ q) s.heap H locs) (hl : lv_has ls 7 [(0, .ref (B + a0)), (1, .int x1), (2, .int x2), (3, .int x3), (5, .int x5), (6, .int x6)]) : W p l e rm_X10_pullOf s m args below meth c H locs 0 0 (ps_Qi D Y B below args s 0 0 q) (F0 m 137 ls []) := by
  have hx := C.1
  have hb := C.2.1
  have hml := C.2.2.1
  have hown := C.2.2.2.1
  have hts := C.2.2.2.2.1
  unfold f_X10_pullOf_b137 at hF
  refine lv_iload hx hb dX10_pullOf_137 (lv_at hl 5 rfl) ?_
  refine lv_iconst (v := 5) hx hb dX10_pullOf_139 (by decide) ?_
  refine lv_icmp_le (tgt := 166) hx hb dX10_pullOf_140 (by decide) (fun hv12 => ?_) (fun hv12 => ?_)
  · replace hF := (if_pos hv12).symm.trans hF
    exact kb_X10_pullOf_b166 C hF hW hS (lv_sub hl [0, 1, 4] rfl)
  · replace hF := (if_neg hv12).symm.trans hF
    refine lv_iconst (v := 0) hx hb dX10_pullOf_143 (by decide) ?_
    refine lv_istore (lv' := [(5, .int (0 : Int32)), (0, .ref (B + a0)), (1, .int x1), (2, .int x2), (3, .int x3), (6, .int x6)]) hx hb dX10_pullOf_144 hl (by decide) rfl (fun ls hl => ?_)
    refine lv_aload_n hx hb dX10_pullOf_146 rfl (lv_at hl 1 rfl) ?_
    refine lv_iload_n hx hb dX10_pullOf_147 rfl (lv_at hl 2 rfl) ?_
    refine lv_iconst (v := 4) hx hb dX10_pullOf_148 (by decide) ?_
    refine lv_iadd hx hb dX10_pullOf_149 ?_
    refine lv_iload_n hx hb dX10_pullOf_150 rfl (lv_at hl 3 rfl) ?_
    refine lv_iadd hx hb dX10_pullOf_151 ?_
    refine lv_iconst (v := 2) hx hb dX10_pullOf_152 (by decide) ?_
    obtain ⟨hK, hF⟩ := ps_ck_some hF
    obtain ⟨M9, hc, hF⟩ := ps_b1_some hF
    refine ps_backV (M' := M9) hS (ps_callV C hW pc_9 mf_X10_tire tq_1140 tq_46 tq_1138 ⟨Nat.le_of_ble_eq_true rfl, Nat.le_of_ble_eq_true rfl⟩ rfl rfl (As := [.int ((x1 + (4 : Int32)) + x2), .int (2 : Int32)]) (rest := []) (c_X10_tire hc) hK rfl hl.1 rfl (Nat.le_of_ble_eq_true rfl) dX10_pullOf_153 ⟨Nat.le_of_ble_eq_true rfl, Nat.le_of_ble_eq_true rfl⟩) (fun H locs hW hS => ?_)
    clear hc
    generalize M9 = M at hW hF
    refine lv_aload_n hx hb dX10_pullOf_156 rfl (lv_at hl 1 rfl) ?_
    refine lv_iload_n hx hb dX10_pullOf_157 rfl (lv_at hl 2 rfl) ?_
    refine lv_iconst (v := 4) hx hb dX10_pullOf_158 (by decide) ?_
    refine lv_iadd hx hb dX10_pullOf_159 ?_
    refine lv_iload_n hx hb dX10_pullOf_160 rfl (lv_at hl 4 rfl) ?_
    refine lv_iadd hx hb dX10_pullOf_161 ?_
    refine lv_iconst (v := 2) hx hb dX10_pullOf_162 (by decide) ?_
    obtain ⟨hK, hF⟩ := ps_ck_some hF
    obtain ⟨M9, hc, hF⟩ := ps_b1_some hF
    refine ps_backV (M' := M9) hS (ps_callV C hW pc_9 mf_X10_tire tq_1140 tq_46 tq_1138 ⟨Nat.le_of_ble_eq_true rfl, Nat.le_of_ble_eq_true rfl⟩ rfl rfl (As := [.int ((x1 + (4 : Int32)) + x3), .int (2 : Int32)]) (rest := []) (c_X10_tire hc) hK rfl hl.1 rfl (Nat.le_of_ble_eq_true rfl) dX10_pullOf_163 ⟨Nat.le_of_ble_eq_true rfl, Nat.le_of_ble_eq_true rfl⟩) (fun H locs hW hS => ?_)
    clear hc
    generalize M9 = M at hW hF
    exact kb_X10_pullOf_b166 C hF hW hS (lv_sub hl [1, 2, 0] rfl)
set_option maxRecDepth 100000 in
set_option maxHeartbeats 4000000 in
theorem kb_X10_pullOf_b77 (C : ps_C p s m args meth c cX10_pullOf 7 RX10 ((some .int)) "pullOf" D Y B) {q : Int32 × ps_M}  {M : ps_M} {a0 : Nat} {x1 : Int32} {x2 : Int32} {x3 : Int32} {t0 : Int32} (hF : f_X10_pullOf_b77 M a0 x1 x2 x3 t0 = some q) (hW : ps_W D Y B M H) (hS : va_S (fun q => B ≤ q) s.heap H locs) (hl : lv_has ls 7 [(0, .ref (B + a0)), (1, .int x1), (2, .int x2), (3, .int x3)]) : W p l e rm_X10_pullOf s m args below meth c H locs 0 0 (ps_Qi D Y B below args s 0 0 q) (F0 m 77 ls [.int t0]) := by
  have hx := C.1
  have hb := C.2.1
  have hml := C.2.2.1
  have hown := C.2.2.2.1
  have hts := C.2.2.2.2.1
  unfold f_X10_pullOf_b77 at hF
  refine lv_istore (lv' := [(5, .int t0), (0, .ref (B + a0)), (1, .int x1), (2, .int x2), (3, .int x3)]) hx hb dX10_pullOf_77 hl (by decide) rfl (fun ls hl => ?_)
  refine lv_aload_n hx hb dX10_pullOf_79 rfl (lv_at hl 1 rfl) ?_
  refine pw_gR C hW pc_9 (k := 0) (by decide) rfl tq_918 dX10_pullOf_80 hF (fun av13 hF => ?_)
  refine lv_iload_n hx hb dX10_pullOf_83 rfl (lv_at hl 2 rfl) ?_
  refine lv_bipush (v := 12) hx hb dX10_pullOf_84 (by decide) ?_
  refine lv_iadd hx hb dX10_pullOf_86 ?_
  refine lv_iload_n hx hb dX10_pullOf_87 rfl (lv_at hl 4 rfl) ?_
  refine lv_iadd hx hb dX10_pullOf_88 ?_
  refine pw_aI C hW dX10_pullOf_89 hF (fun xv14 hF => ?_)
  refine lv_istore (lv' := [(6, .int xv14), (5, .int t0), (0, .ref (B + a0)), (1, .int x1), (2, .int x2), (3, .int x3)]) hx hb dX10_pullOf_90 hl (by decide) rfl (fun ls hl => ?_)
  refine lv_iload hx hb dX10_pullOf_92 (lv_at hl 0 rfl) ?_
  refine lv_iconst (v := 5) hx hb dX10_pullOf_94 (by decide) ?_
  refine lv_icmp_ge (tgt := 108) hx hb dX10_pullOf_95 (by decide) (fun hv15 => ?_) (fun hv15 => ?_)
  · replace hF := (if_pos hv15).symm.trans hF
    refine lv_iload hx hb dX10_pullOf_108 (lv_at hl 0 rfl) ?_
    refine lv_iconst (v := 5) hx hb dX10_pullOf_110 (by decide) ?_
    refine lv_icmp_le (tgt := 137) hx hb dX10_pullOf_111 (by decide) (fun hv16 => ?_) (fun hv16 => ?_)
    · replace hF := (if_pos hv16).symm.trans hF
      exact kb_X10_pullOf_b137 C hF hW hS (lv_sub hl [2, 3, 4, 5, 1, 0] rfl)
    · replace hF := (if_neg hv16).symm.trans hF
      refine lv_iload hx hb dX10_pullOf_114 (lv_at hl 0 rfl) ?_
      refine lv_iconst (v := 5) hx hb dX10_pullOf_116 (by decide) ?_
      refine lv_isub hx hb dX10_pullOf_117 ?_
      refine lv_aload_n hx hb dX10_pullOf_118 rfl (lv_at hl 2 rfl) ?_
      refine pw_gI C hW pc_9 (k := 4) (by decide) rfl tq_922 dX10_pullOf_119 hF (fun xv17 hF => ?_)
      refine lv_icmp_gt (tgt := 137) hx hb dX10_pullOf_122 (by decide) (fun hv18 => ?_) (fun hv18 => ?_)
      · replace hF := (if_pos hv18).symm.trans hF
        exact kb_X10_pullOf_b137 C hF hW hS (lv_sub hl [2, 3, 4, 5, 1, 0] rfl)
      · replace hF := (if_neg hv18).symm.trans hF
        refine lv_iload hx hb dX10_pullOf_125 (lv_at hl 1 rfl) ?_
        refine lv_iload hx hb dX10_pullOf_127 (lv_at hl 1 rfl) ?_
        refine lv_iconst (v := 2) hx hb dX10_pullOf_129 (by decide) ?_
        refine lv_idiv hx hb dX10_pullOf_130 (by decide) ?_
        refine lv_iadd hx hb dX10_pullOf_131 ?_
        refine pw_v hF (fun xv19 hF => ?_)
        refine lv_istore (lv' := [(5, .int xv19), (6, .int xv14), (0, .ref (B + a0)), (1, .int x1), (2, .int x2), (3, .int x3)]) hx hb dX10_pullOf_132 hl (by decide) rfl (fun ls hl => ?_)
        refine lv_goto (tgt := 166) hx hb dX10_pullOf_134 (by decide) ?_
        exact kb_X10_pullOf_b166 C hF hW hS (lv_sub hl [2, 3, 0] rfl)
  · replace hF := (if_neg hv15).symm.trans hF
    refine lv_iload hx hb dX10_pullOf_98 (lv_at hl 1 rfl) ?_
    refine lv_iload hx hb dX10_pullOf_100 (lv_at hl 0 rfl) ?_
    refine lv_isub hx hb dX10_pullOf_102 ?_
    refine pw_v hF (fun xv20 hF => ?_)
    refine lv_istore (lv' := [(5, .int xv20), (6, .int xv14), (0, .ref (B + a0)), (1, .int x1), (2, .int x2), (3, .int x3)]) hx hb dX10_pullOf_103 hl (by decide) rfl (fun ls hl => ?_)
    refine lv_goto (tgt := 166) hx hb dX10_pullOf_105 (by decide) ?_
    exact kb_X10_pullOf_b166 C hF hW hS (lv_sub hl [2, 3, 0] rfl)
set_option maxRecDepth 100000 in
set_option maxHeartbeats 4000000 in
theorem kb_X10_pullOf_b34 (C : ps_C p s m args meth c cX10_pullOf 7 RX10 ((some .int)) "pullOf" D Y B) {q : Int32 × ps_M}  {M : ps_M} {a0 : Nat} {x1 : Int32} {x2 : Int32} {x3 : Int32} {t0 : Int32} (hF : f_X10_pullOf_b34 M a0 x1 x2 x3 t0 = some q) (hW : ps_W D Y B M H) (hS : va_S (fun q => B ≤ q) s.heap H locs) (hl : lv_has ls 7 [(0, .ref (B + a0)), (1, .int x1), (2, .int x2), (3, .int x3)]) : W p l e rm_X10_pullOf s m args below meth c H locs 0 0 (ps_Qi D Y B below args s 0 0 q) (F0 m 34 ls [.int t0]) := by
  have hx := C.1
  have hb := C.2.1
  have hml := C.2.2.1
  have hown := C.2.2.2.1
  have hts := C.2.2.2.2.1
  unfold f_X10_pullOf_b34 at hF
  refine lv_istore (lv' := [(4, .int t0), (0, .ref (B + a0)), (1, .int x1), (2, .int x2), (3, .int x3)]) hx hb dX10_pullOf_34 hl (by decide) rfl (fun ls hl => ?_)
  refine lv_iload hx hb dX10_pullOf_36 (lv_at hl 0 rfl) ?_
  refine lv_aload_n hx hb dX10_pullOf_38 rfl (lv_at hl 1 rfl) ?_
  refine pw_gR C hW pc_9 (k := 0) (by decide) rfl tq_918 dX10_pullOf_39 hF (fun av21 hF => ?_)
  refine lv_iload_n hx hb dX10_pullOf_42 rfl (lv_at hl 2 rfl) ?_
  refine lv_bipush (v := 8) hx hb dX10_pullOf_43 (by decide) ?_
  refine lv_iadd hx hb dX10_pullOf_45 ?_
  refine lv_iload_n hx hb dX10_pullOf_46 rfl (lv_at hl 3 rfl) ?_
  refine lv_iadd hx hb dX10_pullOf_47 ?_
  refine pw_aI C hW dX10_pullOf_48 hF (fun xv22 hF => ?_)
  refine lv_iadd hx hb dX10_pullOf_49 ?_
  refine lv_aload_n hx hb dX10_pullOf_50 rfl (lv_at hl 1 rfl) ?_
  refine pw_gR C hW pc_9 (k := 0) (by decide) rfl tq_918 dX10_pullOf_51 hF (fun av23 hF => ?_)
  refine lv_iload_n hx hb dX10_pullOf_54 rfl (lv_at hl 2 rfl) ?_
  refine lv_iconst (v := 4) hx hb dX10_pullOf_55 (by decide) ?_
  refine lv_iadd hx hb dX10_pullOf_56 ?_
  refine lv_iload_n hx hb dX10_pullOf_57 rfl (lv_at hl 3 rfl) ?_
  refine lv_iadd hx hb dX10_pullOf_58 ?_
  refine pw_aI C hW dX10_pullOf_59 hF (fun xv24 hF => ?_)
  refine lv_bipush (v := 10) hx hb dX10_pullOf_60 (by decide) ?_
  refine lv_idiv hx hb dX10_pullOf_62 (by decide) ?_
  refine lv_isub hx hb dX10_pullOf_63 ?_
  refine pw_v hF (fun xv25 hF => ?_)
  refine lv_istore (lv' := [(5, .int xv25), (4, .int t0), (0, .ref (B + a0)), (1, .int x1), (2, .int x2), (3, .int x3)]) hx hb dX10_pullOf_64 hl (by decide) rfl (fun ls hl => ?_)
  refine lv_iload hx hb dX10_pullOf_66 (lv_at hl 0 rfl) ?_
  refine lv_if_ge (tgt := 75) hx hb dX10_pullOf_68 (by decide) (fun hv26 => ?_) (fun hv26 => ?_)
  · replace hF := (if_pos hv26).symm.trans hF
    refine lv_iload hx hb dX10_pullOf_75 (lv_at hl 0 rfl) ?_
    exact kb_X10_pullOf_b77 C hF hW hS (lv_sub hl [2, 3, 4, 5] rfl)
  · replace hF := (if_neg hv26).symm.trans hF
    refine lv_iconst (v := 0) hx hb dX10_pullOf_71 (by decide) ?_
    refine lv_goto (tgt := 77) hx hb dX10_pullOf_72 (by decide) ?_
    exact kb_X10_pullOf_b77 C hF hW hS (lv_sub hl [2, 3, 4, 5] rfl)
set_option maxRecDepth 100000 in
set_option maxHeartbeats 4000000 in
theorem kb_X10_pullOf (C : ps_C p s m args meth c cX10_pullOf 7 RX10 ((some .int)) "pullOf" D Y B) {q : Int32 × ps_M}  {M : ps_M} {a0 : Nat} {x1 : Int32} {x2 : Int32} {x3 : Int32} (hF : f_X10_pullOf M a0 x1 x2 x3 = some q) (hW : ps_W D Y B M H) (hS : va_S (fun q => B ≤ q) s.heap H locs) (hl : lv_has ls 7 [(0, .ref (B + a0)), (1, .int x1), (2, .int x2), (3, .int x3)]) : W p l e rm_X10_pullOf s m args below meth c H locs 0 0 (ps_Qi D Y B below args s 0 0 q) (F0 m 0 ls []) := by
  have hx := C.1
  have hb := C.2.1
  have hml := C.2.2.1
  have hown := C.2.2.2.1
  have hts := C.2.2.2.2.1
  unfold f_X10_pullOf at hF
  refine lv_aload_n hx hb dX10_pullOf_0 rfl (lv_at hl 0 rfl) ?_
  refine pw_gR C hW pc_9 (k := 15) (by decide) rfl tq_933 dX10_pullOf_1 hF (fun av27 hF => ?_)
  refine lv_iload_n hx hb dX10_pullOf_4 rfl (lv_at hl 2 rfl) ?_
  refine pw_aI C hW dX10_pullOf_5 hF (fun xv28 hF => ?_)
  refine lv_aload_n hx hb dX10_pullOf_6 rfl (lv_at hl 0 rfl) ?_
  refine pw_gR C hW pc_9 (k := 0) (by decide) rfl tq_918 dX10_pullOf_7 hF (fun av29 hF => ?_)
  refine lv_iload_n hx hb dX10_pullOf_10 rfl (lv_at hl 1 rfl) ?_
  refine lv_iload_n hx hb dX10_pullOf_11 rfl (lv_at hl 2 rfl) ?_
  refine lv_iadd hx hb dX10_pullOf_12 ?_
  refine pw_aI C hW dX10_pullOf_13 hF (fun xv30 hF => ?_)
  refine lv_icmp_ge (tgt := 26) hx hb dX10_pullOf_14 (by decide) (fun hv31 => ?_) (fun hv31 => ?_)
  · replace hF := (if_pos hv31).symm.trans hF
    refine lv_aload_n hx hb dX10_pullOf_26 rfl (lv_at hl 0 rfl) ?_
    refine pw_gR C hW pc_9 (k := 0) (by decide) rfl tq_918 dX10_pullOf_27 hF (fun av32 hF => ?_)
    refine lv_iload_n hx hb dX10_pullOf_30 rfl (lv_at hl 1 rfl) ?_
    refine lv_iload_n hx hb dX10_pullOf_31 rfl (lv_at hl 2 rfl) ?_
    refine lv_iadd hx hb dX10_pullOf_32 ?_
    refine pw_aI C hW dX10_pullOf_33 hF (fun xv33 hF => ?_)
    exact kb_X10_pullOf_b34 C hF hW hS (lv_sub hl [0, 1, 2, 3] rfl)
  · replace hF := (if_neg hv31).symm.trans hF
    refine lv_aload_n hx hb dX10_pullOf_17 rfl (lv_at hl 0 rfl) ?_
    refine pw_gR C hW pc_9 (k := 15) (by decide) rfl tq_933 dX10_pullOf_18 hF (fun av34 hF => ?_)
    refine lv_iload_n hx hb dX10_pullOf_21 rfl (lv_at hl 2 rfl) ?_
    refine pw_aI C hW dX10_pullOf_22 hF (fun xv35 hF => ?_)
    refine lv_goto (tgt := 34) hx hb dX10_pullOf_23 (by decide) ?_
    exact kb_X10_pullOf_b34 C hF hW hS (lv_sub hl [0, 1, 2, 3] rfl)
theorem mf_X10_pullOf : ps_mf yX10_pullOf cX10_pullOf 7 ((some .int)) 3 := ⟨tq_1137, tq_71, by decide +kernel, by decide +kernel, by decide +kernel⟩
theorem c_X10_pullOf {l : Launch} {D : va_G} {Y : ps_A} {B : Nat} {M : ps_M} {a0 : Nat} {x1 : Int32} {x2 : Int32} {x3 : Int32} {r : Int32} {M' : ps_M} (hF : f_X10_pullOf M a0 x1 x2 x3 = some (r, M')) : Met l yX10_pullOf (Cond.code yX10_pullOf cX10_pullOf 7 ((some .int)) :: tb_G) rm_X10_pullOf (ps_PB D Y B M [.ref (B + a0), .int x1, .int x2, .int x3]) (va_Qi (fun x (_ : Unit) => x = r) (fun _ t => ps_St D Y B M' t) (fun q => B ≤ q)) 0 0 (fun q => B ≤ q) :=
  pm_of (by decide +kernel) (Nat.le_of_ble_eq_true rfl) (fun p e s m args below meth c C hW hS ls hl => kb_X10_pullOf C hF hW hS hl)

abbrev rm_X10_feel : Room := { frames := 1, cells := 0, slots := 0, locals := 25 }
def f_X10_feel_b136 (M : ps_M) (t0 : Nat) (t1 : Int32) (t2 : Int32) : Option (ps_M) := ps_xI M t0 t1 t2 (fun M => some M)
def f_X10_feel_b100 (M : ps_M) (a0 : Nat) (x1 : Int32) (x2 : Int32) (x5 : Int32) : Option (ps_M) := ps_gR M a0 9 0 (fun av1 => if x5 ≤ (9 : Int32) then (if (-9 : Int32) ≤ x5 then (f_X10_feel_b136 M av1 ((x1 + (8 : Int32)) + x2) x5) else (f_X10_feel_b136 M av1 ((x1 + (8 : Int32)) + x2) (-9 : Int32))) else (f_X10_feel_b136 M av1 ((x1 + (8 : Int32)) + x2) (9 : Int32)))
def f_X10_feel_b70 (M : ps_M) (a0 : Nat) (x1 : Int32) (x2 : Int32) (t0 : Int32) (t1 : Int32) : Option (ps_M) := ps_v ((t0 + t1)) (fun xv4 => f_X10_feel_b100 M a0 x1 x2 xv4)
def f_X10_feel_b97 (M : ps_M) (a0 : Nat) (x1 : Int32) (x2 : Int32) (t0 : Int32) (t1 : Int32) : Option (ps_M) := ps_v ((t0 + t1)) (fun xv5 => f_X10_feel_b100 M a0 x1 x2 xv5)
def f_X10_feel (M : ps_M) (a0 : Nat) (x1 : Int32) (x2 : Int32) (x3 : Int32) : Option (ps_M) := ps_gR M a0 9 0 (fun av6 => ps_aI M av6 ((x1 + (12 : Int32)) + x3) (fun xv7 => ps_b2 (f_X10_in M (xv7.toInt64) (1 : Int64) (4 : Int64)) (fun xv8 M => ps_gR M a0 9 0 (fun av9 => ps_aI M av9 ((x1 + (8 : Int32)) + x2) (fun xv10 => if xv8 = 0 then (if xv10 ≤ 0 then (if 0 ≤ xv10 then (f_X10_feel_b97 M a0 x1 x2 xv10 (0 : Int32)) else (f_X10_feel_b97 M a0 x1 x2 xv10 (1 : Int32))) else (f_X10_feel_b97 M a0 x1 x2 xv10 (-1 : Int32))) else (ps_gR M a0 9 19 (fun av14 => ps_aI M av14 x2 (fun xv15 => if xv15 = (1 : Int32) then (f_X10_feel_b70 M a0 x1 x2 xv10 (1 : Int32)) else (ps_gR M a0 9 19 (fun av17 => ps_aI M av17 x2 (fun xv18 => if xv18 = (2 : Int32) then (f_X10_feel_b70 M a0 x1 x2 xv10 (-1 : Int32)) else (f_X10_feel_b70 M a0 x1 x2 xv10 (0 : Int32)))))))))))))
set_option maxRecDepth 100000 in
set_option maxHeartbeats 4000000 in
theorem kb_X10_feel_b136 (C : ps_C p s m args meth c cX10_feel 6 RX10 none "feel" D Y B) {q : ps_M}  {M : ps_M} {t0 : Nat} {t1 : Int32} {t2 : Int32} (hF : f_X10_feel_b136 M t0 t1 t2 = some q) (hW : ps_W D Y B M H) (hS : va_S (fun q => B ≤ q) s.heap H locs) (hl : lv_has ls 6 []) : W p l e rm_X10_feel s m args below meth c H locs 0 0 (ps_Qv D Y B below args s 0 0 q) (F0 m 136 ls [.int t2, .int t1, .ref (B + t0)]) := by
  have hx := C.1
  have hb := C.2.1
  have hml := C.2.2.1
  have hown := C.2.2.2.1
  have hts := C.2.2.2.2.1
  unfold f_X10_feel_b136 at hF
  refine pw_xI C hW hS dX10_feel_136 hF (fun M H locs hW hS hF => ?_)
  exact pw_vret C hW hS dX10_feel_137 hF
set_option maxRecDepth 100000 in
set_option maxHeartbeats 4000000 in
theorem kb_X10_feel_b100 (C : ps_C p s m args meth c cX10_feel 6 RX10 none "feel" D Y B) {q : ps_M}  {M : ps_M} {a0 : Nat} {x1 : Int32} {x2 : Int32} {x5 : Int32} (hF : f_X10_feel_b100 M a0 x1 x2 x5 = some q) (hW : ps_W D Y B M H) (hS : va_S (fun q => B ≤ q) s.heap H locs) (hl : lv_has ls 6 [(0, .ref (B + a0)), (1, .int x1), (2, .int x2), (5, .int x5)]) : W p l e rm_X10_feel s m args below meth c H locs 0 0 (ps_Qv D Y B below args s 0 0 q) (F0 m 100 ls []) := by
  have hx := C.1
  have hb := C.2.1
  have hml := C.2.2.1
  have hown := C.2.2.2.1
  have hts := C.2.2.2.2.1
  unfold f_X10_feel_b100 at hF
  refine lv_aload_n hx hb dX10_feel_100 rfl (lv_at hl 0 rfl) ?_
  refine pw_gR C hW pc_9 (k := 0) (by decide) rfl tq_918 dX10_feel_101 hF (fun av1 hF => ?_)
  refine lv_iload_n hx hb dX10_feel_104 rfl (lv_at hl 1 rfl) ?_
  refine lv_bipush (v := 8) hx hb dX10_feel_105 (by decide) ?_
  refine lv_iadd hx hb dX10_feel_107 ?_
  refine lv_iload_n hx hb dX10_feel_108 rfl (lv_at hl 2 rfl) ?_
  refine lv_iadd hx hb dX10_feel_109 ?_
  refine lv_iload hx hb dX10_feel_110 (lv_at hl 3 rfl) ?_
  refine lv_bipush (v := 9) hx hb dX10_feel_112 (by decide) ?_
  refine lv_icmp_le (tgt := 122) hx hb dX10_feel_114 (by decide) (fun hv2 => ?_) (fun hv2 => ?_)
  · replace hF := (if_pos hv2).symm.trans hF
    refine lv_iload hx hb dX10_feel_122 (lv_at hl 3 rfl) ?_
    refine lv_bipush (v := -9) hx hb dX10_feel_124 (by decide) ?_
    refine lv_icmp_ge (tgt := 134) hx hb dX10_feel_126 (by decide) (fun hv3 => ?_) (fun hv3 => ?_)
    · replace hF := (if_pos hv3).symm.trans hF
      refine lv_iload hx hb dX10_feel_134 (lv_at hl 3 rfl) ?_
      exact kb_X10_feel_b136 C hF hW hS (lv_sub hl [] rfl)
    · replace hF := (if_neg hv3).symm.trans hF
      refine lv_bipush (v := -9) hx hb dX10_feel_129 (by decide) ?_
      refine lv_goto (tgt := 136) hx hb dX10_feel_131 (by decide) ?_
      exact kb_X10_feel_b136 C hF hW hS (lv_sub hl [] rfl)
  · replace hF := (if_neg hv2).symm.trans hF
    refine lv_bipush (v := 9) hx hb dX10_feel_117 (by decide) ?_
    refine lv_goto (tgt := 136) hx hb dX10_feel_119 (by decide) ?_
    exact kb_X10_feel_b136 C hF hW hS (lv_sub hl [] rfl)
set_option maxRecDepth 100000 in
set_option maxHeartbeats 4000000 in
theorem kb_X10_feel_b70 (C : ps_C p s m args meth c cX10_feel 6 RX10 none "feel" D Y B) {q : ps_M}  {M : ps_M} {a0 : Nat} {x1 : Int32} {x2 : Int32} {t0 : Int32} {t1 : Int32} (hF : f_X10_feel_b70 M a0 x1 x2 t0 t1 = some q) (hW : ps_W D Y B M H) (hS : va_S (fun q => B ≤ q) s.heap H locs) (hl : lv_has ls 6 [(0, .ref (B + a0)), (1, .int x1), (2, .int x2)]) : W p l e rm_X10_feel s m args below meth c H locs 0 0 (ps_Qv D Y B below args s 0 0 q) (F0 m 70 ls [.int t1, .int t0]) := by
  have hx := C.1
  have hb := C.2.1
  have hml := C.2.2.1
  have hown := C.2.2.2.1
  have hts := C.2.2.2.2.1
  unfold f_X10_feel_b70 at hF
  refine lv_iadd hx hb dX10_feel_70 ?_
  refine pw_v hF (fun xv4 hF => ?_)
  refine lv_istore (lv' := [(5, .int xv4), (0, .ref (B + a0)), (1, .int x1), (2, .int x2)]) hx hb dX10_feel_71 hl (by decide) rfl (fun ls hl => ?_)
  refine lv_goto (tgt := 100) hx hb dX10_feel_73 (by decide) ?_
  exact kb_X10_feel_b100 C hF hW hS (lv_sub hl [1, 2, 3, 0] rfl)
set_option maxRecDepth 100000 in
set_option maxHeartbeats 4000000 in
theorem kb_X10_feel_b97 (C : ps_C p s m args meth c cX10_feel 6 RX10 none "feel" D Y B) {q : ps_M}  {M : ps_M} {a0 : Nat} {x1 : Int32} {x2 : Int32} {t0 : Int32} {t1 : Int32} (hF : f_X10_feel_b97 M a0 x1 x2 t0 t1 = some q) (hW : ps_W D Y B M H) (hS : va_S (fun q => B ≤ q) s.heap H locs) (hl : lv_has ls 6 [(0, .ref (B + a0)), (1, .int x1), (2, .int x2)]) : W p l e rm_X10_feel s m args below meth c H locs 0 0 (ps_Qv D Y B below args s 0 0 q) (F0 m 97 ls [.int t1, .int t0]) := by
  have hx := C.1
  have hb := C.2.1
  have hml := C.2.2.1
  have hown := C.2.2.2.1
  have hts := C.2.2.2.2.1
  unfold f_X10_feel_b97 at hF
  refine lv_iadd hx hb dX10_feel_97 ?_
  refine pw_v hF (fun xv5 hF => ?_)
  refine lv_istore (lv' := [(5, .int xv5), (0, .ref (B + a0)), (1, .int x1), (2, .int x2)]) hx hb dX10_feel_98 hl (by decide) rfl (fun ls hl => ?_)
  exact kb_X10_feel_b100 C hF hW hS (lv_sub hl [1, 2, 3, 0] rfl)
set_option maxRecDepth 100000 in
set_option maxHeartbeats 4000000 in
theorem kb_X10_feel (C : ps_C p s m args meth c cX10_feel 6 RX10 none "feel" D Y B) {q : ps_M}  {M : ps_M} {a0 : Nat} {x1 : Int32} {x2 : Int32} {x3 : Int32} (hF : f_X10_feel M a0 x1 x2 x3 = some q) (hW : ps_W D Y B M H) (hS : va_S (fun q => B ≤ q) s.heap H locs) (hl : lv_has ls 6 [(0, .ref (B + a0)), (1, .int x1), (2, .int x2), (3, .int x3)]) : W p l e rm_X10_feel s m args below meth c H locs 0 0 (ps_Qv D Y B below args s 0 0 q) (F0 m 0 ls []) := by
  have hx := C.1
  have hb := C.2.1
  have hml := C.2.2.1
  have hown := C.2.2.2.1
  have hts := C.2.2.2.2.1
  unfold f_X10_feel at hF
  refine lv_aload_n hx hb dX10_feel_0 rfl (lv_at hl 0 rfl) ?_
  refine pw_gR C hW pc_9 (k := 0) (by decide) rfl tq_918 dX10_feel_1 hF (fun av6 hF => ?_)
  refine lv_iload_n hx hb dX10_feel_4 rfl (lv_at hl 1 rfl) ?_
  refine lv_bipush (v := 12) hx hb dX10_feel_5 (by decide) ?_
  refine lv_iadd hx hb dX10_feel_7 ?_
  refine lv_iload_n hx hb dX10_feel_8 rfl (lv_at hl 3 rfl) ?_
  refine lv_iadd hx hb dX10_feel_9 ?_
  refine pw_aI C hW dX10_feel_10 hF (fun xv7 hF => ?_)
  refine lv_i2l hx hb dX10_feel_11 rfl ?_
  refine lv_lconst (v := 1) hx hb dX10_feel_12 (by decide) ?_
  refine lv_ldc2 (v := 4) hx hb hown (hts _ tq_1146) dX10_feel_13 ?_
  obtain ⟨xv8, M9, hc, hF⟩ := ps_b2_some hF
  refine ps_backI (x0 := xv8) (M' := M9) hS (ps_callS C hW mf_X10_in tq_1031 tq_1030 ⟨Nat.le_of_ble_eq_true rfl, Nat.le_of_ble_eq_true rfl⟩ rfl rfl (As := [.long (xv7.toInt64), .long (1 : Int64), .long (4 : Int64)]) (rest := []) (c_X10_in hc) rfl hl.1 rfl (Nat.le_of_ble_eq_true rfl) dX10_feel_16 ⟨Nat.le_of_ble_eq_true rfl, Nat.le_of_ble_eq_true rfl⟩) (fun H locs hW hS => ?_)
  clear hc
  generalize M9 = M at hW hF
  refine lv_istore (lv' := [(4, .int xv8), (0, .ref (B + a0)), (1, .int x1), (2, .int x2), (3, .int x3)]) hx hb dX10_feel_19 hl (by decide) rfl (fun ls hl => ?_)
  refine lv_aload_n hx hb dX10_feel_21 rfl (lv_at hl 1 rfl) ?_
  refine pw_gR C hW pc_9 (k := 0) (by decide) rfl tq_918 dX10_feel_22 hF (fun av9 hF => ?_)
  refine lv_iload_n hx hb dX10_feel_25 rfl (lv_at hl 2 rfl) ?_
  refine lv_bipush (v := 8) hx hb dX10_feel_26 (by decide) ?_
  refine lv_iadd hx hb dX10_feel_28 ?_
  refine lv_iload_n hx hb dX10_feel_29 rfl (lv_at hl 3 rfl) ?_
  refine lv_iadd hx hb dX10_feel_30 ?_
  refine pw_aI C hW dX10_feel_31 hF (fun xv10 hF => ?_)
  refine lv_istore (lv' := [(5, .int xv10), (4, .int xv8), (0, .ref (B + a0)), (1, .int x1), (2, .int x2), (3, .int x3)]) hx hb dX10_feel_32 hl (by decide) rfl (fun ls hl => ?_)
  refine lv_iload hx hb dX10_feel_34 (lv_at hl 1 rfl) ?_
  refine lv_if_eq (tgt := 76) hx hb dX10_feel_36 (by decide) (fun hv11 => ?_) (fun hv11 => ?_)
  · replace hF := (if_pos hv11).symm.trans hF
    refine lv_iload hx hb dX10_feel_76 (lv_at hl 0 rfl) ?_
    refine lv_iload hx hb dX10_feel_78 (lv_at hl 0 rfl) ?_
    refine lv_if_le (tgt := 87) hx hb dX10_feel_80 (by decide) (fun hv12 => ?_) (fun hv12 => ?_)
    · replace hF := (if_pos hv12).symm.trans hF
      refine lv_iload hx hb dX10_feel_87 (lv_at hl 0 rfl) ?_
      refine lv_if_ge (tgt := 96) hx hb dX10_feel_89 (by decide) (fun hv13 => ?_) (fun hv13 => ?_)
      · replace hF := (if_pos hv13).symm.trans hF
        refine lv_iconst (v := 0) hx hb dX10_feel_96 (by decide) ?_
        exact kb_X10_feel_b97 C hF hW hS (lv_sub hl [2, 3, 4] rfl)
      · replace hF := (if_neg hv13).symm.trans hF
        refine lv_iconst (v := 1) hx hb dX10_feel_92 (by decide) ?_
        refine lv_goto (tgt := 97) hx hb dX10_feel_93 (by decide) ?_
        exact kb_X10_feel_b97 C hF hW hS (lv_sub hl [2, 3, 4] rfl)
    · replace hF := (if_neg hv12).symm.trans hF
      refine lv_iconst (v := -1) hx hb dX10_feel_83 (by decide) ?_
      refine lv_goto (tgt := 97) hx hb dX10_feel_84 (by decide) ?_
      exact kb_X10_feel_b97 C hF hW hS (lv_sub hl [2, 3, 4] rfl)
  · replace hF := (if_neg hv11).symm.trans hF
    refine lv_iload hx hb dX10_feel_39 (lv_at hl 0 rfl) ?_
    refine lv_aload_n hx hb dX10_feel_41 rfl (lv_at hl 2 rfl) ?_
    refine pw_gR C hW pc_9 (k := 19) (by decide) rfl tq_937 dX10_feel_42 hF (fun av14 hF => ?_)
    refine lv_iload_n hx hb dX10_feel_45 rfl (lv_at hl 4 rfl) ?_
    refine pw_aI C hW dX10_feel_46 hF (fun xv15 hF => ?_)
    refine lv_iconst (v := 1) hx hb dX10_feel_47 (by decide) ?_
    refine lv_icmp_ne (tgt := 55) hx hb dX10_feel_48 (by decide) (fun hv16 => ?_) (fun hv16 => ?_)
    · replace hF := (if_neg hv16).symm.trans hF
      refine lv_aload_n hx hb dX10_feel_55 rfl (lv_at hl 2 rfl) ?_
      refine pw_gR C hW pc_9 (k := 19) (by decide) rfl tq_937 dX10_feel_56 hF (fun av17 hF => ?_)
      refine lv_iload_n hx hb dX10_feel_59 rfl (lv_at hl 4 rfl) ?_
      refine pw_aI C hW dX10_feel_60 hF (fun xv18 hF => ?_)
      refine lv_iconst (v := 2) hx hb dX10_feel_61 (by decide) ?_
      refine lv_icmp_ne (tgt := 69) hx hb dX10_feel_62 (by decide) (fun hv19 => ?_) (fun hv19 => ?_)
      · replace hF := (if_neg hv19).symm.trans hF
        refine lv_iconst (v := 0) hx hb dX10_feel_69 (by decide) ?_
        exact kb_X10_feel_b70 C hF hW hS (lv_sub hl [2, 3, 4] rfl)
      · replace hF := (if_pos hv19).symm.trans hF
        refine lv_iconst (v := -1) hx hb dX10_feel_65 (by decide) ?_
        refine lv_goto (tgt := 70) hx hb dX10_feel_66 (by decide) ?_
        exact kb_X10_feel_b70 C hF hW hS (lv_sub hl [2, 3, 4] rfl)
    · replace hF := (if_pos hv16).symm.trans hF
      refine lv_iconst (v := 1) hx hb dX10_feel_51 (by decide) ?_
      refine lv_goto (tgt := 70) hx hb dX10_feel_52 (by decide) ?_
      exact kb_X10_feel_b70 C hF hW hS (lv_sub hl [2, 3, 4] rfl)
theorem mf_X10_feel : ps_mf yX10_feel cX10_feel 6 none 3 := ⟨tq_1145, tq_71, by decide +kernel, by decide +kernel, by decide +kernel⟩
theorem c_X10_feel {l : Launch} {D : va_G} {Y : ps_A} {B : Nat} {M : ps_M} {a0 : Nat} {x1 : Int32} {x2 : Int32} {x3 : Int32} {M' : ps_M} (hF : f_X10_feel M a0 x1 x2 x3 = some M') : Met l yX10_feel (Cond.code yX10_feel cX10_feel 6 none :: tb_G) rm_X10_feel (ps_PB D Y B M [.ref (B + a0), .int x1, .int x2, .int x3]) (va_Qv (fun (_ : Unit) => True) (fun _ t => ps_St D Y B M' t) (fun q => B ≤ q)) 0 0 (fun q => B ≤ q) :=
  pm_of (by decide +kernel) (Nat.le_of_ble_eq_true rfl) (fun p e s m args below meth c C hW hS ls hl => kb_X10_feel C hF hW hS hl)

abbrev rm_X10_pull : Room := { frames := 2, cells := 0, slots := 0, locals := 50 }
def f_X10_pull_b225 (M : ps_M) (a0 : Nat) (x1 : Int32) (x3 : Int32) (x4 : Int32) (t0 : Nat) (t1 : Int32) (t2 : Int32) (t3 : Int32) : Option (Int32 × ps_M) := ps_xI M t0 t1 (t2 + t3) (fun M => ps_gR M a0 9 0 (fun av1 => ps_aI M av1 (x1 + (20 : Int32)) (fun xv2 => ps_xI M av1 (x1 + (20 : Int32)) (xv2 + (1 : Int32)) (fun M => ps_gR M a0 9 0 (fun av3 => ps_xI M av3 (x1 + (18 : Int32)) x3 (fun M => some (x4, M)))))))
def f_X10_pull_b128 (M : ps_M) (a0 : Nat) (x1 : Int32) (x2 : Int32) (x3 : Int32) (x4 : Int32) (t0 : Nat) (t1 : Int32) (t2 : Int32) : Option (Int32 × ps_M) := ps_xI M t0 t1 t2 (fun M => ps_gR M a0 9 0 (fun av4 => ps_aI M av4 (x1 + (22 : Int32)) (fun xv5 => ps_gI M a0 9 5 (fun xv6 => ps_xI M av4 (x1 + (22 : Int32)) (xv5 + xv6) (fun M => ps_gR M a0 9 17 (fun av7 => ps_aI M av7 x2 (fun xv8 => ps_ck M a0 9 (ps_b1 (f_X10_tire M a0 ((x1 + (4 : Int32)) + x2) xv8) (fun M => ps_ck M a0 9 (ps_b1 (f_X10_tire M a0 ((x1 + (4 : Int32)) + x3) (-1 : Int32)) (fun M => ps_ck M a0 9 (ps_b1 (f_X10_feel M a0 x1 x2 x3) (fun M => ps_gR M a0 9 0 (fun av9 => ps_aI M av9 (x1 + (21 : Int32)) (fun xv10 => if x4 ≤ 0 then (f_X10_pull_b225 M a0 x1 x3 x4 av9 (x1 + (21 : Int32)) xv10 (0 : Int32)) else (ps_gR M a0 9 16 (fun av12 => ps_gR M a0 9 0 (fun av13 => ps_aI M av13 (x1 + (16 : Int32)) (fun xv14 => ps_aI M av12 xv14 (fun xv15 => ps_gR M a0 9 16 (fun av16 => ps_gR M a0 9 0 (fun av17 => ps_aI M av17 (x1 + (17 : Int32)) (fun xv18 => ps_aI M av16 xv18 (fun xv19 => f_X10_pull_b225 M a0 x1 x3 x4 av9 (x1 + (21 : Int32)) xv10 (xv15 - xv19)))))))))))))))))))))))))
def f_X10_pull_b44 (M : ps_M) (a0 : Nat) (x1 : Int32) (x2 : Int32) (t0 : Int32) : Option (Int32 × ps_M) := ps_ck M a0 9 (ps_b2 (f_X10_pullOf M a0 x1 x2 t0) (fun xv20 M => ps_gR M a0 9 0 (fun av21 => ps_aI M av21 (x1 + (24 : Int32)) (fun xv22 => ps_gR M a0 9 14 (fun av23 => ps_gR M a0 9 0 (fun av24 => ps_aI M av24 (x1 + (19 : Int32)) (fun xv25 => ps_aI M av23 (xv25 / (100 : Int32)) (fun xv26 => ps_dv xv26 (ps_v (((xv20 * xv22) / xv26)) (fun xv27 => ps_gR M a0 9 0 (fun av28 => ps_aI M av28 (x1 + (19 : Int32)) (fun xv29 => ps_v ((xv29 + xv27)) (fun xv30 => ps_gR M a0 9 0 (fun av31 => ps_gI M a0 9 2 (fun xv32 => if xv30 ≤ ((100 : Int32) * xv32) then (f_X10_pull_b128 M a0 x1 x2 t0 xv27 av31 (x1 + (19 : Int32)) xv30) else (ps_gI M a0 9 2 (fun xv34 => f_X10_pull_b128 M a0 x1 x2 t0 xv27 av31 (x1 + (19 : Int32)) ((100 : Int32) * xv34))))))))))))))))))
def f_X10_pull (M : ps_M) (a0 : Nat) (x1 : Int32) : Option (Int32 × ps_M) := ps_gR M a0 9 0 (fun av35 => ps_aI M av35 (x1 + (18 : Int32)) (fun xv36 => ps_gR M a0 9 0 (fun av37 => ps_aI M av37 (x1 + (16 : Int32)) (fun xv38 => if xv36 = xv38 then (ps_gR M a0 9 0 (fun av42 => ps_aI M av42 (x1 + (17 : Int32)) (fun xv43 => f_X10_pull_b44 M a0 x1 xv36 xv43))) else (ps_gR M a0 9 0 (fun av40 => ps_aI M av40 (x1 + (16 : Int32)) (fun xv41 => f_X10_pull_b44 M a0 x1 xv36 xv41)))))))
set_option maxRecDepth 100000 in
set_option maxHeartbeats 4000000 in
theorem kb_X10_pull_b225 (C : ps_C p s m args meth c cX10_pull 6 RX10 ((some .int)) "pull" D Y B) {q : Int32 × ps_M}  {M : ps_M} {a0 : Nat} {x1 : Int32} {x3 : Int32} {x4 : Int32} {t0 : Nat} {t1 : Int32} {t2 : Int32} {t3 : Int32} (hF : f_X10_pull_b225 M a0 x1 x3 x4 t0 t1 t2 t3 = some q) (hW : ps_W D Y B M H) (hS : va_S (fun q => B ≤ q) s.heap H locs) (hl : lv_has ls 6 [(0, .ref (B + a0)), (1, .int x1), (3, .int x3), (4, .int x4)]) : W p l e rm_X10_pull s m args below meth c H locs 0 0 (ps_Qi D Y B below args s 0 0 q) (F0 m 225 ls [.int t3, .int t2, .int t1, .ref (B + t0)]) := by
  have hx := C.1
  have hb := C.2.1
  have hml := C.2.2.1
  have hown := C.2.2.2.1
  have hts := C.2.2.2.2.1
  unfold f_X10_pull_b225 at hF
  refine lv_iadd hx hb dX10_pull_225 ?_
  refine pw_xI C hW hS dX10_pull_226 hF (fun M H locs hW hS hF => ?_)
  refine lv_aload_n hx hb dX10_pull_227 rfl (lv_at hl 0 rfl) ?_
  refine pw_gR C hW pc_9 (k := 0) (by decide) rfl tq_918 dX10_pull_228 hF (fun av1 hF => ?_)
  refine lv_iload_n hx hb dX10_pull_231 rfl (lv_at hl 1 rfl) ?_
  refine lv_bipush (v := 20) hx hb dX10_pull_232 (by decide) ?_
  refine lv_iadd hx hb dX10_pull_234 ?_
  refine lv_dup2_11 hx hb dX10_pull_235 rfl rfl ?_
  refine pw_aI C hW dX10_pull_236 hF (fun xv2 hF => ?_)
  refine lv_iconst (v := 1) hx hb dX10_pull_237 (by decide) ?_
  refine lv_iadd hx hb dX10_pull_238 ?_
  refine pw_xI C hW hS dX10_pull_239 hF (fun M H locs hW hS hF => ?_)
  refine lv_aload_n hx hb dX10_pull_240 rfl (lv_at hl 0 rfl) ?_
  refine pw_gR C hW pc_9 (k := 0) (by decide) rfl tq_918 dX10_pull_241 hF (fun av3 hF => ?_)
  refine lv_iload_n hx hb dX10_pull_244 rfl (lv_at hl 1 rfl) ?_
  refine lv_bipush (v := 18) hx hb dX10_pull_245 (by decide) ?_
  refine lv_iadd hx hb dX10_pull_247 ?_
  refine lv_iload_n hx hb dX10_pull_248 rfl (lv_at hl 2 rfl) ?_
  refine pw_xI C hW hS dX10_pull_249 hF (fun M H locs hW hS hF => ?_)
  refine lv_iload hx hb dX10_pull_250 (lv_at hl 3 rfl) ?_
  exact pw_iret C hW hS dX10_pull_252 hF
set_option maxRecDepth 100000 in
set_option maxHeartbeats 4000000 in
theorem kb_X10_pull_b128 (C : ps_C p s m args meth c cX10_pull 6 RX10 ((some .int)) "pull" D Y B) {q : Int32 × ps_M}  {M : ps_M} {a0 : Nat} {x1 : Int32} {x2 : Int32} {x3 : Int32} {x4 : Int32} {t0 : Nat} {t1 : Int32} {t2 : Int32} (hF : f_X10_pull_b128 M a0 x1 x2 x3 x4 t0 t1 t2 = some q) (hW : ps_W D Y B M H) (hS : va_S (fun q => B ≤ q) s.heap H locs) (hl : lv_has ls 6 [(0, .ref (B + a0)), (1, .int x1), (2, .int x2), (3, .int x3), (4, .int x4)]) : W p l e rm_X10_pull s m args below meth c H locs 0 0 (ps_Qi D Y B below args s 0 0 q) (F0 m 128 ls [.int t2, .int t1, .ref (B + t0)]) := by
  have hx := C.1
  have hb := C.2.1
  have hml := C.2.2.1
  have hown := C.2.2.2.1
  have hts := C.2.2.2.2.1
  unfold f_X10_pull_b128 at hF
  refine pw_xI C hW hS dX10_pull_128 hF (fun M H locs hW hS hF => ?_)
  refine lv_aload_n hx hb dX10_pull_129 rfl (lv_at hl 0 rfl) ?_
  refine pw_gR C hW pc_9 (k := 0) (by decide) rfl tq_918 dX10_pull_130 hF (fun av4 hF => ?_)
  refine lv_iload_n hx hb dX10_pull_133 rfl (lv_at hl 1 rfl) ?_
  refine lv_bipush (v := 22) hx hb dX10_pull_134 (by decide) ?_
  refine lv_iadd hx hb dX10_pull_136 ?_
  refine lv_dup2_11 hx hb dX10_pull_137 rfl rfl ?_
  refine pw_aI C hW dX10_pull_138 hF (fun xv5 hF => ?_)
  refine lv_aload_n hx hb dX10_pull_139 rfl (lv_at hl 0 rfl) ?_
  refine pw_gI C hW pc_9 (k := 5) (by decide) rfl tq_923 dX10_pull_140 hF (fun xv6 hF => ?_)
  refine lv_iadd hx hb dX10_pull_143 ?_
  refine pw_xI C hW hS dX10_pull_144 hF (fun M H locs hW hS hF => ?_)
  refine lv_aload_n hx hb dX10_pull_145 rfl (lv_at hl 0 rfl) ?_
  refine lv_iload_n hx hb dX10_pull_146 rfl (lv_at hl 1 rfl) ?_
  refine lv_iconst (v := 4) hx hb dX10_pull_147 (by decide) ?_
  refine lv_iadd hx hb dX10_pull_148 ?_
  refine lv_iload_n hx hb dX10_pull_149 rfl (lv_at hl 2 rfl) ?_
  refine lv_iadd hx hb dX10_pull_150 ?_
  refine lv_aload_n hx hb dX10_pull_151 rfl (lv_at hl 0 rfl) ?_
  refine pw_gR C hW pc_9 (k := 17) (by decide) rfl tq_935 dX10_pull_152 hF (fun av7 hF => ?_)
  refine lv_iload_n hx hb dX10_pull_155 rfl (lv_at hl 2 rfl) ?_
  refine pw_aI C hW dX10_pull_156 hF (fun xv8 hF => ?_)
  obtain ⟨hK, hF⟩ := ps_ck_some hF
  obtain ⟨M9, hc, hF⟩ := ps_b1_some hF
  refine ps_backV (M' := M9) hS (ps_callV C hW pc_9 mf_X10_tire tq_1140 tq_46 tq_1138 ⟨Nat.le_of_ble_eq_true rfl, Nat.le_of_ble_eq_true rfl⟩ rfl rfl (As := [.int ((x1 + (4 : Int32)) + x2), .int xv8]) (rest := []) (c_X10_tire hc) hK rfl hl.1 rfl (Nat.le_of_ble_eq_true rfl) dX10_pull_157 ⟨Nat.le_of_ble_eq_true rfl, Nat.le_of_ble_eq_true rfl⟩) (fun H locs hW hS => ?_)
  clear hc
  generalize M9 = M at hW hF
  refine lv_aload_n hx hb dX10_pull_160 rfl (lv_at hl 0 rfl) ?_
  refine lv_iload_n hx hb dX10_pull_161 rfl (lv_at hl 1 rfl) ?_
  refine lv_iconst (v := 4) hx hb dX10_pull_162 (by decide) ?_
  refine lv_iadd hx hb dX10_pull_163 ?_
  refine lv_iload_n hx hb dX10_pull_164 rfl (lv_at hl 3 rfl) ?_
  refine lv_iadd hx hb dX10_pull_165 ?_
  refine lv_iconst (v := -1) hx hb dX10_pull_166 (by decide) ?_
  obtain ⟨hK, hF⟩ := ps_ck_some hF
  obtain ⟨M9, hc, hF⟩ := ps_b1_some hF
  refine ps_backV (M' := M9) hS (ps_callV C hW pc_9 mf_X10_tire tq_1140 tq_46 tq_1138 ⟨Nat.le_of_ble_eq_true rfl, Nat.le_of_ble_eq_true rfl⟩ rfl rfl (As := [.int ((x1 + (4 : Int32)) + x3), .int (-1 : Int32)]) (rest := []) (c_X10_tire hc) hK rfl hl.1 rfl (Nat.le_of_ble_eq_true rfl) dX10_pull_167 ⟨Nat.le_of_ble_eq_true rfl, Nat.le_of_ble_eq_true rfl⟩) (fun H locs hW hS => ?_)
  clear hc
  generalize M9 = M at hW hF
  refine lv_aload_n hx hb dX10_pull_170 rfl (lv_at hl 0 rfl) ?_
  refine lv_iload_n hx hb dX10_pull_171 rfl (lv_at hl 1 rfl) ?_
  refine lv_iload_n hx hb dX10_pull_172 rfl (lv_at hl 2 rfl) ?_
  refine lv_iload_n hx hb dX10_pull_173 rfl (lv_at hl 3 rfl) ?_
  obtain ⟨hK, hF⟩ := ps_ck_some hF
  obtain ⟨M9, hc, hF⟩ := ps_b1_some hF
  refine ps_backV (M' := M9) hS (ps_callV C hW pc_9 mf_X10_feel tq_1144 tq_47 tq_1142 ⟨Nat.le_of_ble_eq_true rfl, Nat.le_of_ble_eq_true rfl⟩ rfl rfl (As := [.int x1, .int x2, .int x3]) (rest := []) (c_X10_feel hc) hK rfl hl.1 rfl (Nat.le_of_ble_eq_true rfl) dX10_pull_174 ⟨Nat.le_of_ble_eq_true rfl, Nat.le_of_ble_eq_true rfl⟩) (fun H locs hW hS => ?_)
  clear hc
  generalize M9 = M at hW hF
  refine lv_aload_n hx hb dX10_pull_177 rfl (lv_at hl 0 rfl) ?_
  refine pw_gR C hW pc_9 (k := 0) (by decide) rfl tq_918 dX10_pull_178 hF (fun av9 hF => ?_)
  refine lv_iload_n hx hb dX10_pull_181 rfl (lv_at hl 1 rfl) ?_
  refine lv_bipush (v := 21) hx hb dX10_pull_182 (by decide) ?_
  refine lv_iadd hx hb dX10_pull_184 ?_
  refine lv_dup2_11 hx hb dX10_pull_185 rfl rfl ?_
  refine pw_aI C hW dX10_pull_186 hF (fun xv10 hF => ?_)
  refine lv_iload hx hb dX10_pull_187 (lv_at hl 4 rfl) ?_
  refine lv_if_le (tgt := 224) hx hb dX10_pull_189 (by decide) (fun hv11 => ?_) (fun hv11 => ?_)
  · replace hF := (if_pos hv11).symm.trans hF
    refine lv_iconst (v := 0) hx hb dX10_pull_224 (by decide) ?_
    exact kb_X10_pull_b225 C hF hW hS (lv_sub hl [0, 1, 3, 4] rfl)
  · replace hF := (if_neg hv11).symm.trans hF
    refine lv_aload_n hx hb dX10_pull_192 rfl (lv_at hl 0 rfl) ?_
    refine pw_gR C hW pc_9 (k := 16) (by decide) rfl tq_934 dX10_pull_193 hF (fun av12 hF => ?_)
    refine lv_aload_n hx hb dX10_pull_196 rfl (lv_at hl 0 rfl) ?_
    refine pw_gR C hW pc_9 (k := 0) (by decide) rfl tq_918 dX10_pull_197 hF (fun av13 hF => ?_)
    refine lv_iload_n hx hb dX10_pull_200 rfl (lv_at hl 1 rfl) ?_
    refine lv_bipush (v := 16) hx hb dX10_pull_201 (by decide) ?_
    refine lv_iadd hx hb dX10_pull_203 ?_
    refine pw_aI C hW dX10_pull_204 hF (fun xv14 hF => ?_)
    refine pw_aI C hW dX10_pull_205 hF (fun xv15 hF => ?_)
    refine lv_aload_n hx hb dX10_pull_206 rfl (lv_at hl 0 rfl) ?_
    refine pw_gR C hW pc_9 (k := 16) (by decide) rfl tq_934 dX10_pull_207 hF (fun av16 hF => ?_)
    refine lv_aload_n hx hb dX10_pull_210 rfl (lv_at hl 0 rfl) ?_
    refine pw_gR C hW pc_9 (k := 0) (by decide) rfl tq_918 dX10_pull_211 hF (fun av17 hF => ?_)
    refine lv_iload_n hx hb dX10_pull_214 rfl (lv_at hl 1 rfl) ?_
    refine lv_bipush (v := 17) hx hb dX10_pull_215 (by decide) ?_
    refine lv_iadd hx hb dX10_pull_217 ?_
    refine pw_aI C hW dX10_pull_218 hF (fun xv18 hF => ?_)
    refine pw_aI C hW dX10_pull_219 hF (fun xv19 hF => ?_)
    refine lv_isub hx hb dX10_pull_220 ?_
    refine lv_goto (tgt := 225) hx hb dX10_pull_221 (by decide) ?_
    exact kb_X10_pull_b225 C hF hW hS (lv_sub hl [0, 1, 3, 4] rfl)
set_option maxRecDepth 100000 in
set_option maxHeartbeats 4000000 in
theorem kb_X10_pull_b44 (C : ps_C p s m args meth c cX10_pull 6 RX10 ((some .int)) "pull" D Y B) {q : Int32 × ps_M}  {M : ps_M} {a0 : Nat} {x1 : Int32} {x2 : Int32} {t0 : Int32} (hF : f_X10_pull_b44 M a0 x1 x2 t0 = some q) (hW : ps_W D Y B M H) (hS : va_S (fun q => B ≤ q) s.heap H locs) (hl : lv_has ls 6 [(0, .ref (B + a0)), (1, .int x1), (2, .int x2)]) : W p l e rm_X10_pull s m args below meth c H locs 0 0 (ps_Qi D Y B below args s 0 0 q) (F0 m 44 ls [.int t0]) := by
  have hx := C.1
  have hb := C.2.1
  have hml := C.2.2.1
  have hown := C.2.2.2.1
  have hts := C.2.2.2.2.1
  unfold f_X10_pull_b44 at hF
  refine lv_istore_n (lv' := [(3, .int t0), (0, .ref (B + a0)), (1, .int x1), (2, .int x2)]) hx hb dX10_pull_44 rfl hl (by decide) rfl (fun ls hl => ?_)
  refine lv_aload_n hx hb dX10_pull_45 rfl (lv_at hl 1 rfl) ?_
  refine lv_iload_n hx hb dX10_pull_46 rfl (lv_at hl 2 rfl) ?_
  refine lv_iload_n hx hb dX10_pull_47 rfl (lv_at hl 3 rfl) ?_
  refine lv_iload_n hx hb dX10_pull_48 rfl (lv_at hl 0 rfl) ?_
  obtain ⟨hK, hF⟩ := ps_ck_some hF
  obtain ⟨xv20, M9, hc, hF⟩ := ps_b2_some hF
  refine ps_backI (x0 := xv20) (M' := M9) hS (ps_callV C hW pc_9 mf_X10_pullOf tq_1136 tq_45 tq_1134 ⟨Nat.le_of_ble_eq_true rfl, Nat.le_of_ble_eq_true rfl⟩ rfl rfl (As := [.int x1, .int x2, .int t0]) (rest := []) (c_X10_pullOf hc) hK rfl hl.1 rfl (Nat.le_of_ble_eq_true rfl) dX10_pull_49 ⟨Nat.le_of_ble_eq_true rfl, Nat.le_of_ble_eq_true rfl⟩) (fun H locs hW hS => ?_)
  clear hc
  generalize M9 = M at hW hF
  refine lv_aload_n hx hb dX10_pull_52 rfl (lv_at hl 1 rfl) ?_
  refine pw_gR C hW pc_9 (k := 0) (by decide) rfl tq_918 dX10_pull_53 hF (fun av21 hF => ?_)
  refine lv_iload_n hx hb dX10_pull_56 rfl (lv_at hl 2 rfl) ?_
  refine lv_bipush (v := 24) hx hb dX10_pull_57 (by decide) ?_
  refine lv_iadd hx hb dX10_pull_59 ?_
  refine pw_aI C hW dX10_pull_60 hF (fun xv22 hF => ?_)
  refine lv_imul hx hb dX10_pull_61 ?_
  refine lv_aload_n hx hb dX10_pull_62 rfl (lv_at hl 1 rfl) ?_
  refine pw_gR C hW pc_9 (k := 14) (by decide) rfl tq_932 dX10_pull_63 hF (fun av23 hF => ?_)
  refine lv_aload_n hx hb dX10_pull_66 rfl (lv_at hl 1 rfl) ?_
  refine pw_gR C hW pc_9 (k := 0) (by decide) rfl tq_918 dX10_pull_67 hF (fun av24 hF => ?_)
  refine lv_iload_n hx hb dX10_pull_70 rfl (lv_at hl 2 rfl) ?_
  refine lv_bipush (v := 19) hx hb dX10_pull_71 (by decide) ?_
  refine lv_iadd hx hb dX10_pull_73 ?_
  refine pw_aI C hW dX10_pull_74 hF (fun xv25 hF => ?_)
  refine lv_bipush (v := 100) hx hb dX10_pull_75 (by decide) ?_
  refine lv_idiv hx hb dX10_pull_77 (by decide) ?_
  refine pw_aI C hW dX10_pull_78 hF (fun xv26 hF => ?_)
  obtain ⟨hne, hF⟩ := ps_dv_some hF
  refine lv_idiv hx hb dX10_pull_79 hne ?_
  clear hne
  refine pw_v hF (fun xv27 hF => ?_)
  refine lv_istore (lv' := [(4, .int xv27), (3, .int t0), (0, .ref (B + a0)), (1, .int x1), (2, .int x2)]) hx hb dX10_pull_80 hl (by decide) rfl (fun ls hl => ?_)
  refine lv_aload_n hx hb dX10_pull_82 rfl (lv_at hl 2 rfl) ?_
  refine pw_gR C hW pc_9 (k := 0) (by decide) rfl tq_918 dX10_pull_83 hF (fun av28 hF => ?_)
  refine lv_iload_n hx hb dX10_pull_86 rfl (lv_at hl 3 rfl) ?_
  refine lv_bipush (v := 19) hx hb dX10_pull_87 (by decide) ?_
  refine lv_iadd hx hb dX10_pull_89 ?_
  refine pw_aI C hW dX10_pull_90 hF (fun xv29 hF => ?_)
  refine lv_iload hx hb dX10_pull_91 (lv_at hl 0 rfl) ?_
  refine lv_iadd hx hb dX10_pull_93 ?_
  refine pw_v hF (fun xv30 hF => ?_)
  refine lv_istore (lv' := [(5, .int xv30), (4, .int xv27), (3, .int t0), (0, .ref (B + a0)), (1, .int x1), (2, .int x2)]) hx hb dX10_pull_94 hl (by decide) rfl (fun ls hl => ?_)
  refine lv_aload_n hx hb dX10_pull_96 rfl (lv_at hl 3 rfl) ?_
  refine pw_gR C hW pc_9 (k := 0) (by decide) rfl tq_918 dX10_pull_97 hF (fun av31 hF => ?_)
  refine lv_iload_n hx hb dX10_pull_100 rfl (lv_at hl 4 rfl) ?_
  refine lv_bipush (v := 19) hx hb dX10_pull_101 (by decide) ?_
  refine lv_iadd hx hb dX10_pull_103 ?_
  refine lv_iload hx hb dX10_pull_104 (lv_at hl 0 rfl) ?_
  refine lv_bipush (v := 100) hx hb dX10_pull_106 (by decide) ?_
  refine lv_aload_n hx hb dX10_pull_108 rfl (lv_at hl 3 rfl) ?_
  refine pw_gI C hW pc_9 (k := 2) (by decide) rfl tq_920 dX10_pull_109 hF (fun xv32 hF => ?_)
  refine lv_imul hx hb dX10_pull_112 ?_
  refine lv_icmp_le (tgt := 126) hx hb dX10_pull_113 (by decide) (fun hv33 => ?_) (fun hv33 => ?_)
  · replace hF := (if_pos hv33).symm.trans hF
    refine lv_iload hx hb dX10_pull_126 (lv_at hl 0 rfl) ?_
    exact kb_X10_pull_b128 C hF hW hS (lv_sub hl [3, 4, 5, 2, 1] rfl)
  · replace hF := (if_neg hv33).symm.trans hF
    refine lv_bipush (v := 100) hx hb dX10_pull_116 (by decide) ?_
    refine lv_aload_n hx hb dX10_pull_118 rfl (lv_at hl 3 rfl) ?_
    refine pw_gI C hW pc_9 (k := 2) (by decide) rfl tq_920 dX10_pull_119 hF (fun xv34 hF => ?_)
    refine lv_imul hx hb dX10_pull_122 ?_
    refine lv_goto (tgt := 128) hx hb dX10_pull_123 (by decide) ?_
    exact kb_X10_pull_b128 C hF hW hS (lv_sub hl [3, 4, 5, 2, 1] rfl)
set_option maxRecDepth 100000 in
set_option maxHeartbeats 4000000 in
theorem kb_X10_pull (C : ps_C p s m args meth c cX10_pull 6 RX10 ((some .int)) "pull" D Y B) {q : Int32 × ps_M}  {M : ps_M} {a0 : Nat} {x1 : Int32} (hF : f_X10_pull M a0 x1 = some q) (hW : ps_W D Y B M H) (hS : va_S (fun q => B ≤ q) s.heap H locs) (hl : lv_has ls 6 [(0, .ref (B + a0)), (1, .int x1)]) : W p l e rm_X10_pull s m args below meth c H locs 0 0 (ps_Qi D Y B below args s 0 0 q) (F0 m 0 ls []) := by
  have hx := C.1
  have hb := C.2.1
  have hml := C.2.2.1
  have hown := C.2.2.2.1
  have hts := C.2.2.2.2.1
  unfold f_X10_pull at hF
  refine lv_aload_n hx hb dX10_pull_0 rfl (lv_at hl 0 rfl) ?_
  refine pw_gR C hW pc_9 (k := 0) (by decide) rfl tq_918 dX10_pull_1 hF (fun av35 hF => ?_)
  refine lv_iload_n hx hb dX10_pull_4 rfl (lv_at hl 1 rfl) ?_
  refine lv_bipush (v := 18) hx hb dX10_pull_5 (by decide) ?_
  refine lv_iadd hx hb dX10_pull_7 ?_
  refine pw_aI C hW dX10_pull_8 hF (fun xv36 hF => ?_)
  refine lv_istore_n (lv' := [(2, .int xv36), (0, .ref (B + a0)), (1, .int x1)]) hx hb dX10_pull_9 rfl hl (by decide) rfl (fun ls hl => ?_)
  refine lv_iload_n hx hb dX10_pull_10 rfl (lv_at hl 0 rfl) ?_
  refine lv_aload_n hx hb dX10_pull_11 rfl (lv_at hl 1 rfl) ?_
  refine pw_gR C hW pc_9 (k := 0) (by decide) rfl tq_918 dX10_pull_12 hF (fun av37 hF => ?_)
  refine lv_iload_n hx hb dX10_pull_15 rfl (lv_at hl 2 rfl) ?_
  refine lv_bipush (v := 16) hx hb dX10_pull_16 (by decide) ?_
  refine lv_iadd hx hb dX10_pull_18 ?_
  refine pw_aI C hW dX10_pull_19 hF (fun xv38 hF => ?_)
  refine lv_icmp_ne (tgt := 35) hx hb dX10_pull_20 (by decide) (fun hv39 => ?_) (fun hv39 => ?_)
  · replace hF := (if_neg hv39).symm.trans hF
    refine lv_aload_n hx hb dX10_pull_35 rfl (lv_at hl 1 rfl) ?_
    refine pw_gR C hW pc_9 (k := 0) (by decide) rfl tq_918 dX10_pull_36 hF (fun av40 hF => ?_)
    refine lv_iload_n hx hb dX10_pull_39 rfl (lv_at hl 2 rfl) ?_
    refine lv_bipush (v := 16) hx hb dX10_pull_40 (by decide) ?_
    refine lv_iadd hx hb dX10_pull_42 ?_
    refine pw_aI C hW dX10_pull_43 hF (fun xv41 hF => ?_)
    exact kb_X10_pull_b44 C hF hW hS (lv_sub hl [1, 2, 0] rfl)
  · replace hF := (if_pos hv39).symm.trans hF
    refine lv_aload_n hx hb dX10_pull_23 rfl (lv_at hl 1 rfl) ?_
    refine pw_gR C hW pc_9 (k := 0) (by decide) rfl tq_918 dX10_pull_24 hF (fun av42 hF => ?_)
    refine lv_iload_n hx hb dX10_pull_27 rfl (lv_at hl 2 rfl) ?_
    refine lv_bipush (v := 17) hx hb dX10_pull_28 (by decide) ?_
    refine lv_iadd hx hb dX10_pull_30 ?_
    refine pw_aI C hW dX10_pull_31 hF (fun xv43 hF => ?_)
    refine lv_goto (tgt := 44) hx hb dX10_pull_32 (by decide) ?_
    exact kb_X10_pull_b44 C hF hW hS (lv_sub hl [1, 2, 0] rfl)
theorem mf_X10_pull : ps_mf yX10_pull cX10_pull 6 ((some .int)) 1 := ⟨tq_1133, tq_71, by decide +kernel, by decide +kernel, by decide +kernel⟩
theorem c_X10_pull {l : Launch} {D : va_G} {Y : ps_A} {B : Nat} {M : ps_M} {a0 : Nat} {x1 : Int32} {r : Int32} {M' : ps_M} (hF : f_X10_pull M a0 x1 = some (r, M')) : Met l yX10_pull (Cond.code yX10_pull cX10_pull 6 ((some .int)) :: tb_G) rm_X10_pull (ps_PB D Y B M [.ref (B + a0), .int x1]) (va_Qi (fun x (_ : Unit) => x = r) (fun _ t => ps_St D Y B M' t) (fun q => B ≤ q)) 0 0 (fun q => B ≤ q) :=
  pm_of (by decide +kernel) (Nat.le_of_ble_eq_true rfl) (fun p e s m args below meth c C hW hS ls hl => kb_X10_pull C hF hW hS hl)

end
