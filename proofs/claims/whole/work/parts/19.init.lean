section
variable {p : Program} {l : Launch} {e : Env} {s : State} {m : MethodId} {args : Array Value} {below : List Frame} {meth : Method} {c : Code} {H : Heap} {locs : List Loc} {ls : Array Slot} {D : va_G} {Y : ps_A} {B : Nat}
abbrev rm_X8_init : Room := { frames := 1, cells := 6, slots := 32, locals := 21 }
set_option maxRecDepth 100000 in
def f_X8_init (M : ps_M) (a0 : Nat) : Option ps_M := ps_pI M a0 7 2 (5 : Int32) (fun M => ps_pI M a0 7 3 (2 : Int32) (fun M => ps_pI M a0 7 4 (0 : Int32) (fun M => ps_pI M a0 7 5 (12 : Int32) (fun M => ps_nA M 21 12 (fun M av1 => ps_pR M a0 7 6 av1 (fun M => ps_nA M 21 4 (fun M av2 => ps_pR M a0 7 7 av2 (fun M => ps_nA M 21 4 (fun M av3 => ps_pR M a0 7 8 av3 (fun M => ps_nA M 21 4 (fun M av4 => ps_pR M a0 7 9 av4 (fun M => ps_nA M 21 4 (fun M av5 => ps_pR M a0 7 10 av5 (fun M => ps_nA M 21 4 (fun M av6 => ps_pR M a0 7 11 av6 (fun M => some M))))))))))))))))
set_option maxRecDepth 100000 in
set_option maxHeartbeats 4000000 in
theorem kb_X8_init (C : ps_C p s m args meth c cX8_init 1 RX8 none "<init>" D Y B) {q : ps_M} {M : ps_M} {a0 : Nat} (hF : f_X8_init M a0 = some q) (hW : ps_W D Y B M H) (hS : va_S (fun q => B ≤ q) s.heap H locs) (hl : lv_has ls 1 [(0, .ref (B + a0))]) : W p l e rm_X8_init s m args below meth c H locs 0 0 (ps_Qv D Y B below args s 6 32 q) (F0 m 0 ls []) := by
  have hx := C.1
  have hb := C.2.1
  have hml := C.2.2.1
  have hown := C.2.2.2.1
  have hts := C.2.2.2.2.1
  unfold f_X8_init at hF
  refine lv_aload_n hx hb dX8_init_0 rfl (lv_at hl 0 rfl) ?_
  refine W.objInit hx hb hown (hts _ tq_87) (hts _ tq_80) (hts _ tq_81) rfl (hl.1.trans hml.symm) rfl dX8_init_1 (Nat.le_of_ble_eq_true rfl) (Nat.le_of_ble_eq_true rfl) ?_
  refine W.eq (g2 := F0 m 4 ls []) rfl ?_
  refine lv_aload_n hx hb dX8_init_4 rfl (lv_at hl 0 rfl) ?_
  refine lv_iconst (v := 5) hx hb dX8_init_5 (by decide) ?_
  refine pw_pI C hW hS pc_7 (k := 2) (by decide) rfl rfl tq_96 rfl dX8_init_6 hF (fun M H locs hW hS hF => ?_)
  refine lv_aload_n hx hb dX8_init_9 rfl (lv_at hl 0 rfl) ?_
  refine lv_iconst (v := 2) hx hb dX8_init_10 (by decide) ?_
  refine pw_pI C hW hS pc_7 (k := 3) (by decide) rfl rfl tq_99 rfl dX8_init_11 hF (fun M H locs hW hS hF => ?_)
  refine lv_aload_n hx hb dX8_init_14 rfl (lv_at hl 0 rfl) ?_
  refine lv_iconst (v := 0) hx hb dX8_init_15 (by decide) ?_
  refine pw_pI C hW hS pc_7 (k := 4) (by decide) rfl rfl tq_103 rfl dX8_init_16 hF (fun M H locs hW hS hF => ?_)
  refine lv_aload_n hx hb dX8_init_19 rfl (lv_at hl 0 rfl) ?_
  refine lv_bipush (v := 12) hx hb dX8_init_20 (by decide) ?_
  refine pw_pI C hW hS pc_7 (k := 5) (by decide) rfl rfl tq_107 rfl dX8_init_22 hF (fun M H locs hW hS hF => ?_)
  refine lv_aload_n hx hb dX8_init_25 rfl (lv_at hl 0 rfl) ?_
  refine lv_bipush (v := 12) hx hb dX8_init_26 (by decide) ?_
  refine pw_nI (N := 12) C hW hS tq_160 (by decide) (by decide) (Nat.le_of_ble_eq_true rfl) (Nat.le_of_ble_eq_true rfl) (Nat.le_of_ble_eq_true rfl) dX8_init_28 hF (fun M av1 H hW hS hF => ?_)
  refine W.widen (k := 1) (n := 12) (Nat.le_of_ble_eq_true rfl) (Nat.le_of_ble_eq_true rfl) ?_
  refine pw_pR C hW hS pc_7 (k := 6) (by decide) (Or.inr ⟨_, rfl⟩) rfl tq_111 (Or.inr ⟨rfl, rfl⟩) dX8_init_30 hF (fun M H locs hW hS hF => ?_)
  refine lv_aload_n hx hb dX8_init_33 rfl (lv_at hl 0 rfl) ?_
  refine lv_iconst (v := 4) hx hb dX8_init_34 (by decide) ?_
  refine pw_nI (N := 4) C hW hS tq_160 (by decide) (by decide) (Nat.le_of_ble_eq_true rfl) (Nat.le_of_ble_eq_true rfl) (Nat.le_of_ble_eq_true rfl) dX8_init_35 hF (fun M av2 H hW hS hF => ?_)
  refine W.widen (k := 2) (n := 16) (Nat.le_of_ble_eq_true rfl) (Nat.le_of_ble_eq_true rfl) ?_
  refine pw_pR C hW hS pc_7 (k := 7) (by decide) (Or.inr ⟨_, rfl⟩) rfl tq_115 (Or.inr ⟨rfl, rfl⟩) dX8_init_37 hF (fun M H locs hW hS hF => ?_)
  refine lv_aload_n hx hb dX8_init_40 rfl (lv_at hl 0 rfl) ?_
  refine lv_iconst (v := 4) hx hb dX8_init_41 (by decide) ?_
  refine pw_nI (N := 4) C hW hS tq_160 (by decide) (by decide) (Nat.le_of_ble_eq_true rfl) (Nat.le_of_ble_eq_true rfl) (Nat.le_of_ble_eq_true rfl) dX8_init_42 hF (fun M av3 H hW hS hF => ?_)
  refine W.widen (k := 3) (n := 20) (Nat.le_of_ble_eq_true rfl) (Nat.le_of_ble_eq_true rfl) ?_
  refine pw_pR C hW hS pc_7 (k := 8) (by decide) (Or.inr ⟨_, rfl⟩) rfl tq_120 (Or.inr ⟨rfl, rfl⟩) dX8_init_44 hF (fun M H locs hW hS hF => ?_)
  refine lv_aload_n hx hb dX8_init_47 rfl (lv_at hl 0 rfl) ?_
  refine lv_iconst (v := 4) hx hb dX8_init_48 (by decide) ?_
  refine pw_nI (N := 4) C hW hS tq_160 (by decide) (by decide) (Nat.le_of_ble_eq_true rfl) (Nat.le_of_ble_eq_true rfl) (Nat.le_of_ble_eq_true rfl) dX8_init_49 hF (fun M av4 H hW hS hF => ?_)
  refine W.widen (k := 4) (n := 24) (Nat.le_of_ble_eq_true rfl) (Nat.le_of_ble_eq_true rfl) ?_
  refine pw_pR C hW hS pc_7 (k := 9) (by decide) (Or.inr ⟨_, rfl⟩) rfl tq_124 (Or.inr ⟨rfl, rfl⟩) dX8_init_51 hF (fun M H locs hW hS hF => ?_)
  refine lv_aload_n hx hb dX8_init_54 rfl (lv_at hl 0 rfl) ?_
  refine lv_iconst (v := 4) hx hb dX8_init_55 (by decide) ?_
  refine pw_nI (N := 4) C hW hS tq_160 (by decide) (by decide) (Nat.le_of_ble_eq_true rfl) (Nat.le_of_ble_eq_true rfl) (Nat.le_of_ble_eq_true rfl) dX8_init_56 hF (fun M av5 H hW hS hF => ?_)
  refine W.widen (k := 5) (n := 28) (Nat.le_of_ble_eq_true rfl) (Nat.le_of_ble_eq_true rfl) ?_
  refine pw_pR C hW hS pc_7 (k := 10) (by decide) (Or.inr ⟨_, rfl⟩) rfl tq_128 (Or.inr ⟨rfl, rfl⟩) dX8_init_58 hF (fun M H locs hW hS hF => ?_)
  refine lv_aload_n hx hb dX8_init_61 rfl (lv_at hl 0 rfl) ?_
  refine lv_iconst (v := 4) hx hb dX8_init_62 (by decide) ?_
  refine pw_nI (N := 4) C hW hS tq_160 (by decide) (by decide) (Nat.le_of_ble_eq_true rfl) (Nat.le_of_ble_eq_true rfl) (Nat.le_of_ble_eq_true rfl) dX8_init_63 hF (fun M av6 H hW hS hF => ?_)
  refine W.widen (k := 6) (n := 32) (Nat.le_of_ble_eq_true rfl) (Nat.le_of_ble_eq_true rfl) ?_
  refine pw_pR C hW hS pc_7 (k := 11) (by decide) (Or.inr ⟨_, rfl⟩) rfl tq_131 (Or.inr ⟨rfl, rfl⟩) dX8_init_65 hF (fun M H locs hW hS hF => ?_)
  exact pw_vret C hW hS dX8_init_68 hF
theorem mf_X8_init : ps_mf yX8_init cX8_init 1 none 0 := ⟨tq_86, tq_62, by decide +kernel, by decide +kernel, by decide +kernel⟩
theorem c_X8_init {l : Launch} {D : va_G} {Y : ps_A} {B : Nat} {M : ps_M} {a0 : Nat} {M' : ps_M} (hF : f_X8_init M a0 = some M') : Met l yX8_init (Cond.code yX8_init cX8_init 1 none :: tb_G) rm_X8_init (ps_PB D Y B M [.ref (B + a0)]) (va_Qv (fun (_ : Unit) => True) (fun _ t => ps_St D Y B M' t) (fun q => B ≤ q)) 6 32 (fun q => B ≤ q) :=
  pm_of (by decide +kernel) (Nat.le_of_ble_eq_true rfl) (fun p e s m args below meth c C hW hS ls hl => kb_X8_init C hF hW hS hl)

abbrev rm_X5_init_250 : Room := { frames := 1, cells := 1, slots := 250, locals := 21 }
set_option maxRecDepth 100000 in
def f_X5_init_250 (M : ps_M) (a0 : Nat) : Option ps_M := ps_nA M 21 250 (fun M av2 => ps_pR M a0 4 0 av2 (fun M => some M))
set_option maxRecDepth 100000 in
set_option maxHeartbeats 4000000 in
theorem kb_X5_init_250 (C : ps_C p s m args meth c cX5_init 2 RX5 none "<init>" D Y B) {q : ps_M} {M : ps_M} {a0 : Nat} (hF : f_X5_init_250 M a0 = some q) (hW : ps_W D Y B M H) (hS : va_S (fun q => B ≤ q) s.heap H locs) (hl : lv_has ls 2 [(0, .ref (B + a0)), (1, .int (250 : Int32))]) : W p l e rm_X5_init_250 s m args below meth c H locs 0 0 (ps_Qv D Y B below args s 1 250 q) (F0 m 0 ls []) := by
  have hx := C.1
  have hb := C.2.1
  have hml := C.2.2.1
  have hown := C.2.2.2.1
  have hts := C.2.2.2.2.1
  unfold f_X5_init_250 at hF
  refine lv_aload_n hx hb dX5_init_0 rfl (lv_at hl 0 rfl) ?_
  refine W.objInit hx hb hown (hts _ tq_172) (hts _ tq_80) (hts _ tq_81) rfl (hl.1.trans hml.symm) rfl dX5_init_1 (Nat.le_of_ble_eq_true rfl) (Nat.le_of_ble_eq_true rfl) ?_
  refine W.eq (g2 := F0 m 4 ls []) rfl ?_
  refine lv_aload_n hx hb dX5_init_4 rfl (lv_at hl 0 rfl) ?_
  refine lv_iconst (v := 0) hx hb dX5_init_5 (by decide) ?_
  refine lv_iload_n hx hb dX5_init_6 rfl (lv_at hl 1 rfl) ?_
  refine va_mmax hx hb (hml.trans hl.1.symm) hown (hts _ tq_173) (hts _ tq_174) (hts _ tq_65) (hts _ tq_175) (Nat.le_of_ble_eq_true rfl) (Nat.le_of_ble_eq_true rfl) (Nat.le_of_ble_eq_true rfl) (Nat.le_of_ble_eq_true rfl) dX5_init_7 ?_
  refine pw_nI (N := 250) C hW hS tq_160 (by decide) (by decide) (Nat.le_of_ble_eq_true rfl) (Nat.le_of_ble_eq_true rfl) (Nat.le_of_ble_eq_true rfl) dX5_init_10 hF (fun M av2 H hW hS hF => ?_)
  refine W.widen (k := 1) (n := 250) (Nat.le_of_ble_eq_true rfl) (Nat.le_of_ble_eq_true rfl) ?_
  refine pw_pR C hW hS pc_4 (k := 0) (by decide) (Or.inr ⟨_, rfl⟩) rfl tq_176 (Or.inr ⟨rfl, rfl⟩) dX5_init_12 hF (fun M H locs hW hS hF => ?_)
  exact pw_vret C hW hS dX5_init_15 hF
theorem mf_X5_init : ps_mf yX5_init cX5_init 2 none 1 := ⟨tq_171, tq_64, by decide +kernel, by decide +kernel, by decide +kernel⟩
theorem c_X5_init_250 {l : Launch} {D : va_G} {Y : ps_A} {B : Nat} {M : ps_M} {a0 : Nat} {M' : ps_M} (hF : f_X5_init_250 M a0 = some M') : Met l yX5_init (Cond.code yX5_init cX5_init 2 none :: tb_G) rm_X5_init_250 (ps_PB D Y B M [.ref (B + a0), .int (250 : Int32)]) (va_Qv (fun (_ : Unit) => True) (fun _ t => ps_St D Y B M' t) (fun q => B ≤ q)) 1 250 (fun q => B ≤ q) :=
  pm_of (by decide +kernel) (Nat.le_of_ble_eq_true rfl) (fun p e s m args below meth c C hW hS ls hl => kb_X5_init_250 C hF hW hS hl)

abbrev rm_X5_init_8 : Room := { frames := 1, cells := 1, slots := 8, locals := 21 }
set_option maxRecDepth 100000 in
def f_X5_init_8 (M : ps_M) (a0 : Nat) : Option ps_M := ps_nA M 21 8 (fun M av2 => ps_pR M a0 4 0 av2 (fun M => some M))
set_option maxRecDepth 100000 in
set_option maxHeartbeats 4000000 in
theorem kb_X5_init_8 (C : ps_C p s m args meth c cX5_init 2 RX5 none "<init>" D Y B) {q : ps_M} {M : ps_M} {a0 : Nat} (hF : f_X5_init_8 M a0 = some q) (hW : ps_W D Y B M H) (hS : va_S (fun q => B ≤ q) s.heap H locs) (hl : lv_has ls 2 [(0, .ref (B + a0)), (1, .int (8 : Int32))]) : W p l e rm_X5_init_8 s m args below meth c H locs 0 0 (ps_Qv D Y B below args s 1 8 q) (F0 m 0 ls []) := by
  have hx := C.1
  have hb := C.2.1
  have hml := C.2.2.1
  have hown := C.2.2.2.1
  have hts := C.2.2.2.2.1
  unfold f_X5_init_8 at hF
  refine lv_aload_n hx hb dX5_init_0 rfl (lv_at hl 0 rfl) ?_
  refine W.objInit hx hb hown (hts _ tq_172) (hts _ tq_80) (hts _ tq_81) rfl (hl.1.trans hml.symm) rfl dX5_init_1 (Nat.le_of_ble_eq_true rfl) (Nat.le_of_ble_eq_true rfl) ?_
  refine W.eq (g2 := F0 m 4 ls []) rfl ?_
  refine lv_aload_n hx hb dX5_init_4 rfl (lv_at hl 0 rfl) ?_
  refine lv_iconst (v := 0) hx hb dX5_init_5 (by decide) ?_
  refine lv_iload_n hx hb dX5_init_6 rfl (lv_at hl 1 rfl) ?_
  refine va_mmax hx hb (hml.trans hl.1.symm) hown (hts _ tq_173) (hts _ tq_174) (hts _ tq_65) (hts _ tq_175) (Nat.le_of_ble_eq_true rfl) (Nat.le_of_ble_eq_true rfl) (Nat.le_of_ble_eq_true rfl) (Nat.le_of_ble_eq_true rfl) dX5_init_7 ?_
  refine pw_nI (N := 8) C hW hS tq_160 (by decide) (by decide) (Nat.le_of_ble_eq_true rfl) (Nat.le_of_ble_eq_true rfl) (Nat.le_of_ble_eq_true rfl) dX5_init_10 hF (fun M av2 H hW hS hF => ?_)
  refine W.widen (k := 1) (n := 8) (Nat.le_of_ble_eq_true rfl) (Nat.le_of_ble_eq_true rfl) ?_
  refine pw_pR C hW hS pc_4 (k := 0) (by decide) (Or.inr ⟨_, rfl⟩) rfl tq_176 (Or.inr ⟨rfl, rfl⟩) dX5_init_12 hF (fun M H locs hW hS hF => ?_)
  exact pw_vret C hW hS dX5_init_15 hF
theorem c_X5_init_8 {l : Launch} {D : va_G} {Y : ps_A} {B : Nat} {M : ps_M} {a0 : Nat} {M' : ps_M} (hF : f_X5_init_8 M a0 = some M') : Met l yX5_init (Cond.code yX5_init cX5_init 2 none :: tb_G) rm_X5_init_8 (ps_PB D Y B M [.ref (B + a0), .int (8 : Int32)]) (va_Qv (fun (_ : Unit) => True) (fun _ t => ps_St D Y B M' t) (fun q => B ≤ q)) 1 8 (fun q => B ≤ q) :=
  pm_of (by decide +kernel) (Nat.le_of_ble_eq_true rfl) (fun p e s m args below meth c C hW hS ls hl => kb_X5_init_8 C hF hW hS hl)

abbrev rm_X5_init_20 : Room := { frames := 1, cells := 1, slots := 20, locals := 21 }
set_option maxRecDepth 100000 in
def f_X5_init_20 (M : ps_M) (a0 : Nat) : Option ps_M := ps_nA M 21 20 (fun M av2 => ps_pR M a0 4 0 av2 (fun M => some M))
set_option maxRecDepth 100000 in
set_option maxHeartbeats 4000000 in
theorem kb_X5_init_20 (C : ps_C p s m args meth c cX5_init 2 RX5 none "<init>" D Y B) {q : ps_M} {M : ps_M} {a0 : Nat} (hF : f_X5_init_20 M a0 = some q) (hW : ps_W D Y B M H) (hS : va_S (fun q => B ≤ q) s.heap H locs) (hl : lv_has ls 2 [(0, .ref (B + a0)), (1, .int (20 : Int32))]) : W p l e rm_X5_init_20 s m args below meth c H locs 0 0 (ps_Qv D Y B below args s 1 20 q) (F0 m 0 ls []) := by
  have hx := C.1
  have hb := C.2.1
  have hml := C.2.2.1
  have hown := C.2.2.2.1
  have hts := C.2.2.2.2.1
  unfold f_X5_init_20 at hF
  refine lv_aload_n hx hb dX5_init_0 rfl (lv_at hl 0 rfl) ?_
  refine W.objInit hx hb hown (hts _ tq_172) (hts _ tq_80) (hts _ tq_81) rfl (hl.1.trans hml.symm) rfl dX5_init_1 (Nat.le_of_ble_eq_true rfl) (Nat.le_of_ble_eq_true rfl) ?_
  refine W.eq (g2 := F0 m 4 ls []) rfl ?_
  refine lv_aload_n hx hb dX5_init_4 rfl (lv_at hl 0 rfl) ?_
  refine lv_iconst (v := 0) hx hb dX5_init_5 (by decide) ?_
  refine lv_iload_n hx hb dX5_init_6 rfl (lv_at hl 1 rfl) ?_
  refine va_mmax hx hb (hml.trans hl.1.symm) hown (hts _ tq_173) (hts _ tq_174) (hts _ tq_65) (hts _ tq_175) (Nat.le_of_ble_eq_true rfl) (Nat.le_of_ble_eq_true rfl) (Nat.le_of_ble_eq_true rfl) (Nat.le_of_ble_eq_true rfl) dX5_init_7 ?_
  refine pw_nI (N := 20) C hW hS tq_160 (by decide) (by decide) (Nat.le_of_ble_eq_true rfl) (Nat.le_of_ble_eq_true rfl) (Nat.le_of_ble_eq_true rfl) dX5_init_10 hF (fun M av2 H hW hS hF => ?_)
  refine W.widen (k := 1) (n := 20) (Nat.le_of_ble_eq_true rfl) (Nat.le_of_ble_eq_true rfl) ?_
  refine pw_pR C hW hS pc_4 (k := 0) (by decide) (Or.inr ⟨_, rfl⟩) rfl tq_176 (Or.inr ⟨rfl, rfl⟩) dX5_init_12 hF (fun M H locs hW hS hF => ?_)
  exact pw_vret C hW hS dX5_init_15 hF
theorem c_X5_init_20 {l : Launch} {D : va_G} {Y : ps_A} {B : Nat} {M : ps_M} {a0 : Nat} {M' : ps_M} (hF : f_X5_init_20 M a0 = some M') : Met l yX5_init (Cond.code yX5_init cX5_init 2 none :: tb_G) rm_X5_init_20 (ps_PB D Y B M [.ref (B + a0), .int (20 : Int32)]) (va_Qv (fun (_ : Unit) => True) (fun _ t => ps_St D Y B M' t) (fun q => B ≤ q)) 1 20 (fun q => B ≤ q) :=
  pm_of (by decide +kernel) (Nat.le_of_ble_eq_true rfl) (fun p e s m args below meth c C hW hS ls hl => kb_X5_init_20 C hF hW hS hl)

abbrev rm_X3_init : Room := { frames := 2, cells := 9, slots := 296, locals := 42 }
set_option maxRecDepth 100000 in
def f_X3_init (M : ps_M) (a0 : Nat) : Option ps_M := ps_nO M 4 (fun M av1 => ps_b1 (f_X5_init_250 M av1) (fun M => ps_pR M a0 3 0 av1 (fun M => ps_nO M 7 (fun M av2 => ps_b1 (f_X8_init M av2) (fun M => ps_pR M a0 3 1 av2 (fun M => ps_pI M a0 3 3 (-1 : Int32) (fun M => some M)))))))
set_option maxRecDepth 100000 in
set_option maxHeartbeats 4000000 in
theorem kb_X3_init (C : ps_C p s m args meth c cX3_init 1 RX3 none "<init>" D Y B) {q : ps_M} {M : ps_M} {a0 : Nat} (hF : f_X3_init M a0 = some q) (hW : ps_W D Y B M H) (hS : va_S (fun q => B ≤ q) s.heap H locs) (hl : lv_has ls 1 [(0, .ref (B + a0))]) : W p l e rm_X3_init s m args below meth c H locs 0 0 (ps_Qv D Y B below args s 9 296 q) (F0 m 0 ls []) := by
  have hx := C.1
  have hb := C.2.1
  have hml := C.2.2.1
  have hown := C.2.2.2.1
  have hts := C.2.2.2.2.1
  unfold f_X3_init at hF
  refine lv_aload_n hx hb dX3_init_0 rfl (lv_at hl 0 rfl) ?_
  refine W.objInit hx hb hown (hts _ tq_166) (hts _ tq_80) (hts _ tq_81) rfl (hl.1.trans hml.symm) rfl dX3_init_1 (Nat.le_of_ble_eq_true rfl) (Nat.le_of_ble_eq_true rfl) ?_
  refine W.eq (g2 := F0 m 4 ls []) rfl ?_
  refine lv_aload_n hx hb dX3_init_4 rfl (lv_at hl 0 rfl) ?_
  refine pw_nO C hW hS pc_4 tq_167 tq_168 tq_64 (Nat.le_of_ble_eq_true rfl) (Nat.le_of_ble_eq_true rfl) dX3_init_5 hF (fun M av1 H hW hS hF => ?_)
  refine W.widen (k := 1) (n := 2) (Nat.le_of_ble_eq_true rfl) (Nat.le_of_ble_eq_true rfl) ?_
  refine lv_dup hx hb dX3_init_8 rfl ?_
  refine lv_sipush (v := 250) hx hb dX3_init_9 (by decide) ?_
  obtain ⟨M9, hc, hF⟩ := ps_b1_some hF
  refine ps_backV (M' := M9) hS (ps_callI C hW mf_X5_init tq_170 rfl tq_169 ⟨Nat.le_of_ble_eq_true rfl, Nat.le_of_ble_eq_true rfl⟩ rfl rfl (As := [.int (250 : Int32)]) (rest := [.ref (B + av1), .ref (B + a0)]) (c_X5_init_250 hc) rfl hl.1 rfl (Nat.le_of_ble_eq_true rfl) dX3_init_12 ⟨Nat.le_of_ble_eq_true rfl, Nat.le_of_ble_eq_true rfl⟩) (fun H locs hW hS => ?_)
  clear hc
  generalize M9 = M at hW hF
  refine W.widen (k := 2) (n := 252) (Nat.le_of_ble_eq_true rfl) (Nat.le_of_ble_eq_true rfl) ?_
  refine pw_pR C hW hS pc_3 (k := 0) (by decide) (Or.inl ⟨_, rfl⟩) rfl tq_188 (Or.inr ⟨rfl, rfl⟩) dX3_init_15 hF (fun M H locs hW hS hF => ?_)
  refine lv_aload_n hx hb dX3_init_18 rfl (lv_at hl 0 rfl) ?_
  refine pw_nO C hW hS pc_7 tq_186 tq_83 tq_62 (Nat.le_of_ble_eq_true rfl) (Nat.le_of_ble_eq_true rfl) dX3_init_19 hF (fun M av2 H hW hS hF => ?_)
  refine W.widen (k := 3) (n := 264) (Nat.le_of_ble_eq_true rfl) (Nat.le_of_ble_eq_true rfl) ?_
  refine lv_dup hx hb dX3_init_22 rfl ?_
  obtain ⟨M9, hc, hF⟩ := ps_b1_some hF
  refine ps_backV (M' := M9) hS (ps_callIN C hW (host := "PullSaw") mf_X8_init tq_85 rfl (by decide +kernel) ⟨Nat.le_of_ble_eq_true rfl, Nat.le_of_ble_eq_true rfl⟩ rfl rfl (As := []) (rest := [.ref (B + av2), .ref (B + a0)]) (c_X8_init hc) rfl hl.1 rfl (Nat.le_of_ble_eq_true rfl) dX3_init_23 ⟨Nat.le_of_ble_eq_true rfl, Nat.le_of_ble_eq_true rfl⟩) (fun H locs hW hS => ?_)
  clear hc
  generalize M9 = M at hW hF
  refine W.widen (k := 9) (n := 296) (Nat.le_of_ble_eq_true rfl) (Nat.le_of_ble_eq_true rfl) ?_
  refine pw_pR C hW hS pc_3 (k := 1) (by decide) (Or.inl ⟨_, rfl⟩) rfl tq_190 (Or.inr ⟨rfl, rfl⟩) dX3_init_26 hF (fun M H locs hW hS hF => ?_)
  refine lv_aload_n hx hb dX3_init_29 rfl (lv_at hl 0 rfl) ?_
  refine lv_iconst (v := -1) hx hb dX3_init_30 (by decide) ?_
  refine pw_pI C hW hS pc_3 (k := 3) (by decide) rfl rfl tq_194 rfl dX3_init_31 hF (fun M H locs hW hS hF => ?_)
  exact pw_vret C hW hS dX3_init_34 hF
theorem mf_X3_init : ps_mf yX3_init cX3_init 1 none 0 := ⟨tq_165, tq_63, by decide +kernel, by decide +kernel, by decide +kernel⟩
theorem c_X3_init {l : Launch} {D : va_G} {Y : ps_A} {B : Nat} {M : ps_M} {a0 : Nat} {M' : ps_M} (hF : f_X3_init M a0 = some M') : Met l yX3_init (Cond.code yX3_init cX3_init 1 none :: tb_G) rm_X3_init (ps_PB D Y B M [.ref (B + a0)]) (va_Qv (fun (_ : Unit) => True) (fun _ t => ps_St D Y B M' t) (fun q => B ≤ q)) 9 296 (fun q => B ≤ q) :=
  pm_of (by decide +kernel) (Nat.le_of_ble_eq_true rfl) (fun p e s m args below meth c C hW hS ls hl => kb_X3_init C hF hW hS hl)

abbrev rm_X7_init : Room := { frames := 1, cells := 4, slots := 16, locals := 21 }
set_option maxRecDepth 100000 in
def f_X7_init (M : ps_M) (a0 : Nat) : Option ps_M := ps_pI M a0 6 0 (-1 : Int32) (fun M => ps_pI M a0 6 1 (-1 : Int32) (fun M => ps_pI M a0 6 2 (-1 : Int32) (fun M => ps_pI M a0 6 7 (5 : Int32) (fun M => ps_nA M 21 4 (fun M av1 => ps_pR M a0 6 9 av1 (fun M => ps_nA M 21 4 (fun M av2 => ps_pR M a0 6 10 av2 (fun M => ps_nA M 21 4 (fun M av3 => ps_pR M a0 6 11 av3 (fun M => ps_nA M 21 4 (fun M av4 => ps_pR M a0 6 12 av4 (fun M => some M))))))))))))
set_option maxRecDepth 100000 in
set_option maxHeartbeats 4000000 in
theorem kb_X7_init (C : ps_C p s m args meth c cX7_init 1 RX7 none "<init>" D Y B) {q : ps_M} {M : ps_M} {a0 : Nat} (hF : f_X7_init M a0 = some q) (hW : ps_W D Y B M H) (hS : va_S (fun q => B ≤ q) s.heap H locs) (hl : lv_has ls 1 [(0, .ref (B + a0))]) : W p l e rm_X7_init s m args below meth c H locs 0 0 (ps_Qv D Y B below args s 4 16 q) (F0 m 0 ls []) := by
  have hx := C.1
  have hb := C.2.1
  have hml := C.2.2.1
  have hown := C.2.2.2.1
  have hts := C.2.2.2.2.1
  unfold f_X7_init at hF
  refine lv_aload_n hx hb dX7_init_0 rfl (lv_at hl 0 rfl) ?_
  refine W.objInit hx hb hown (hts _ tq_219) (hts _ tq_80) (hts _ tq_81) rfl (hl.1.trans hml.symm) rfl dX7_init_1 (Nat.le_of_ble_eq_true rfl) (Nat.le_of_ble_eq_true rfl) ?_
  refine W.eq (g2 := F0 m 4 ls []) rfl ?_
  refine lv_aload_n hx hb dX7_init_4 rfl (lv_at hl 0 rfl) ?_
  refine lv_iconst (v := -1) hx hb dX7_init_5 (by decide) ?_
  refine pw_pI C hW hS pc_6 (k := 0) (by decide) rfl rfl tq_220 rfl dX7_init_6 hF (fun M H locs hW hS hF => ?_)
  refine lv_aload_n hx hb dX7_init_9 rfl (lv_at hl 0 rfl) ?_
  refine lv_iconst (v := -1) hx hb dX7_init_10 (by decide) ?_
  refine pw_pI C hW hS pc_6 (k := 1) (by decide) rfl rfl tq_223 rfl dX7_init_11 hF (fun M H locs hW hS hF => ?_)
  refine lv_aload_n hx hb dX7_init_14 rfl (lv_at hl 0 rfl) ?_
  refine lv_iconst (v := -1) hx hb dX7_init_15 (by decide) ?_
  refine pw_pI C hW hS pc_6 (k := 2) (by decide) rfl rfl tq_226 rfl dX7_init_16 hF (fun M H locs hW hS hF => ?_)
  refine lv_aload_n hx hb dX7_init_19 rfl (lv_at hl 0 rfl) ?_
  refine lv_iconst (v := 5) hx hb dX7_init_20 (by decide) ?_
  refine pw_pI C hW hS pc_6 (k := 7) (by decide) rfl rfl tq_237 rfl dX7_init_21 hF (fun M H locs hW hS hF => ?_)
  refine lv_aload_n hx hb dX7_init_24 rfl (lv_at hl 0 rfl) ?_
  refine lv_iconst (v := 4) hx hb dX7_init_25 (by decide) ?_
  refine pw_nI (N := 4) C hW hS tq_160 (by decide) (by decide) (Nat.le_of_ble_eq_true rfl) (Nat.le_of_ble_eq_true rfl) (Nat.le_of_ble_eq_true rfl) dX7_init_26 hF (fun M av1 H hW hS hF => ?_)
  refine W.widen (k := 1) (n := 4) (Nat.le_of_ble_eq_true rfl) (Nat.le_of_ble_eq_true rfl) ?_
  refine pw_pR C hW hS pc_6 (k := 9) (by decide) (Or.inr ⟨_, rfl⟩) rfl tq_243 (Or.inr ⟨rfl, rfl⟩) dX7_init_28 hF (fun M H locs hW hS hF => ?_)
  refine lv_aload_n hx hb dX7_init_31 rfl (lv_at hl 0 rfl) ?_
  refine lv_iconst (v := 4) hx hb dX7_init_32 (by decide) ?_
  refine pw_nI (N := 4) C hW hS tq_160 (by decide) (by decide) (Nat.le_of_ble_eq_true rfl) (Nat.le_of_ble_eq_true rfl) (Nat.le_of_ble_eq_true rfl) dX7_init_33 hF (fun M av2 H hW hS hF => ?_)
  refine W.widen (k := 2) (n := 8) (Nat.le_of_ble_eq_true rfl) (Nat.le_of_ble_eq_true rfl) ?_
  refine pw_pR C hW hS pc_6 (k := 10) (by decide) (Or.inr ⟨_, rfl⟩) rfl tq_246 (Or.inr ⟨rfl, rfl⟩) dX7_init_35 hF (fun M H locs hW hS hF => ?_)
  refine lv_aload_n hx hb dX7_init_38 rfl (lv_at hl 0 rfl) ?_
  refine lv_iconst (v := 4) hx hb dX7_init_39 (by decide) ?_
  refine pw_nI (N := 4) C hW hS tq_160 (by decide) (by decide) (Nat.le_of_ble_eq_true rfl) (Nat.le_of_ble_eq_true rfl) (Nat.le_of_ble_eq_true rfl) dX7_init_40 hF (fun M av3 H hW hS hF => ?_)
  refine W.widen (k := 3) (n := 12) (Nat.le_of_ble_eq_true rfl) (Nat.le_of_ble_eq_true rfl) ?_
  refine pw_pR C hW hS pc_6 (k := 11) (by decide) (Or.inr ⟨_, rfl⟩) rfl tq_249 (Or.inr ⟨rfl, rfl⟩) dX7_init_42 hF (fun M H locs hW hS hF => ?_)
  refine lv_aload_n hx hb dX7_init_45 rfl (lv_at hl 0 rfl) ?_
  refine lv_iconst (v := 4) hx hb dX7_init_46 (by decide) ?_
  refine pw_nI (N := 4) C hW hS tq_160 (by decide) (by decide) (Nat.le_of_ble_eq_true rfl) (Nat.le_of_ble_eq_true rfl) (Nat.le_of_ble_eq_true rfl) dX7_init_47 hF (fun M av4 H hW hS hF => ?_)
  refine W.widen (k := 4) (n := 16) (Nat.le_of_ble_eq_true rfl) (Nat.le_of_ble_eq_true rfl) ?_
  refine pw_pR C hW hS pc_6 (k := 12) (by decide) (Or.inr ⟨_, rfl⟩) rfl tq_252 (Or.inr ⟨rfl, rfl⟩) dX7_init_49 hF (fun M H locs hW hS hF => ?_)
  exact pw_vret C hW hS dX7_init_52 hF
theorem mf_X7_init : ps_mf yX7_init cX7_init 1 none 0 := ⟨tq_218, tq_66, by decide +kernel, by decide +kernel, by decide +kernel⟩
theorem c_X7_init {l : Launch} {D : va_G} {Y : ps_A} {B : Nat} {M : ps_M} {a0 : Nat} {M' : ps_M} (hF : f_X7_init M a0 = some M') : Met l yX7_init (Cond.code yX7_init cX7_init 1 none :: tb_G) rm_X7_init (ps_PB D Y B M [.ref (B + a0)]) (va_Qv (fun (_ : Unit) => True) (fun _ t => ps_St D Y B M' t) (fun q => B ≤ q)) 4 16 (fun q => B ≤ q) :=
  pm_of (by decide +kernel) (Nat.le_of_ble_eq_true rfl) (fun p e s m args below meth c C hW hS ls hl => kb_X7_init C hF hW hS hl)

abbrev rm_X2_init : Room := { frames := 2, cells := 151, slots := 900, locals := 41 }
set_option maxRecDepth 100000 in
def f_X2_init (M : ps_M) (a0 : Nat) : Option ps_M := ps_nA M 23 30 (fun M av1 => ps_pR M a0 2 2 av1 (fun M => ps_gR M a0 2 2 (fun av2 => ps_aLc M av2 30 (ps_gR M a0 2 2 (fun av3 => ps_nO M 6 (fun M av4 => ps_b1 (f_X7_init M av4) (fun M => ps_xR M av3 (0 : Int32) av4 (fun M => ps_gR M a0 2 2 (fun av5 => ps_aLc M av5 30 (ps_gR M a0 2 2 (fun av6 => ps_nO M 6 (fun M av7 => ps_b1 (f_X7_init M av7) (fun M => ps_xR M av6 (1 : Int32) av7 (fun M => ps_gR M a0 2 2 (fun av8 => ps_aLc M av8 30 (ps_gR M a0 2 2 (fun av9 => ps_nO M 6 (fun M av10 => ps_b1 (f_X7_init M av10) (fun M => ps_xR M av9 (2 : Int32) av10 (fun M => ps_gR M a0 2 2 (fun av11 => ps_aLc M av11 30 (ps_gR M a0 2 2 (fun av12 => ps_nO M 6 (fun M av13 => ps_b1 (f_X7_init M av13) (fun M => ps_xR M av12 (3 : Int32) av13 (fun M => ps_gR M a0 2 2 (fun av14 => ps_aLc M av14 30 (ps_gR M a0 2 2 (fun av15 => ps_nO M 6 (fun M av16 => ps_b1 (f_X7_init M av16) (fun M => ps_xR M av15 (4 : Int32) av16 (fun M => ps_gR M a0 2 2 (fun av17 => ps_aLc M av17 30 (ps_gR M a0 2 2 (fun av18 => ps_nO M 6 (fun M av19 => ps_b1 (f_X7_init M av19) (fun M => ps_xR M av18 (5 : Int32) av19 (fun M => ps_gR M a0 2 2 (fun av20 => ps_aLc M av20 30 (ps_gR M a0 2 2 (fun av21 => ps_nO M 6 (fun M av22 => ps_b1 (f_X7_init M av22) (fun M => ps_xR M av21 (6 : Int32) av22 (fun M => ps_gR M a0 2 2 (fun av23 => ps_aLc M av23 30 (ps_gR M a0 2 2 (fun av24 => ps_nO M 6 (fun M av25 => ps_b1 (f_X7_init M av25) (fun M => ps_xR M av24 (7 : Int32) av25 (fun M => ps_gR M a0 2 2 (fun av26 => ps_aLc M av26 30 (ps_gR M a0 2 2 (fun av27 => ps_nO M 6 (fun M av28 => ps_b1 (f_X7_init M av28) (fun M => ps_xR M av27 (8 : Int32) av28 (fun M => ps_gR M a0 2 2 (fun av29 => ps_aLc M av29 30 (ps_gR M a0 2 2 (fun av30 => ps_nO M 6 (fun M av31 => ps_b1 (f_X7_init M av31) (fun M => ps_xR M av30 (9 : Int32) av31 (fun M => ps_gR M a0 2 2 (fun av32 => ps_aLc M av32 30 (ps_gR M a0 2 2 (fun av33 => ps_nO M 6 (fun M av34 => ps_b1 (f_X7_init M av34) (fun M => ps_xR M av33 (10 : Int32) av34 (fun M => ps_gR M a0 2 2 (fun av35 => ps_aLc M av35 30 (ps_gR M a0 2 2 (fun av36 => ps_nO M 6 (fun M av37 => ps_b1 (f_X7_init M av37) (fun M => ps_xR M av36 (11 : Int32) av37 (fun M => ps_gR M a0 2 2 (fun av38 => ps_aLc M av38 30 (ps_gR M a0 2 2 (fun av39 => ps_nO M 6 (fun M av40 => ps_b1 (f_X7_init M av40) (fun M => ps_xR M av39 (12 : Int32) av40 (fun M => ps_gR M a0 2 2 (fun av41 => ps_aLc M av41 30 (ps_gR M a0 2 2 (fun av42 => ps_nO M 6 (fun M av43 => ps_b1 (f_X7_init M av43) (fun M => ps_xR M av42 (13 : Int32) av43 (fun M => ps_gR M a0 2 2 (fun av44 => ps_aLc M av44 30 (ps_gR M a0 2 2 (fun av45 => ps_nO M 6 (fun M av46 => ps_b1 (f_X7_init M av46) (fun M => ps_xR M av45 (14 : Int32) av46 (fun M => ps_gR M a0 2 2 (fun av47 => ps_aLc M av47 30 (ps_gR M a0 2 2 (fun av48 => ps_nO M 6 (fun M av49 => ps_b1 (f_X7_init M av49) (fun M => ps_xR M av48 (15 : Int32) av49 (fun M => ps_gR M a0 2 2 (fun av50 => ps_aLc M av50 30 (ps_gR M a0 2 2 (fun av51 => ps_nO M 6 (fun M av52 => ps_b1 (f_X7_init M av52) (fun M => ps_xR M av51 (16 : Int32) av52 (fun M => ps_gR M a0 2 2 (fun av53 => ps_aLc M av53 30 (ps_gR M a0 2 2 (fun av54 => ps_nO M 6 (fun M av55 => ps_b1 (f_X7_init M av55) (fun M => ps_xR M av54 (17 : Int32) av55 (fun M => ps_gR M a0 2 2 (fun av56 => ps_aLc M av56 30 (ps_gR M a0 2 2 (fun av57 => ps_nO M 6 (fun M av58 => ps_b1 (f_X7_init M av58) (fun M => ps_xR M av57 (18 : Int32) av58 (fun M => ps_gR M a0 2 2 (fun av59 => ps_aLc M av59 30 (ps_gR M a0 2 2 (fun av60 => ps_nO M 6 (fun M av61 => ps_b1 (f_X7_init M av61) (fun M => ps_xR M av60 (19 : Int32) av61 (fun M => ps_gR M a0 2 2 (fun av62 => ps_aLc M av62 30 (ps_gR M a0 2 2 (fun av63 => ps_nO M 6 (fun M av64 => ps_b1 (f_X7_init M av64) (fun M => ps_xR M av63 (20 : Int32) av64 (fun M => ps_gR M a0 2 2 (fun av65 => ps_aLc M av65 30 (ps_gR M a0 2 2 (fun av66 => ps_nO M 6 (fun M av67 => ps_b1 (f_X7_init M av67) (fun M => ps_xR M av66 (21 : Int32) av67 (fun M => ps_gR M a0 2 2 (fun av68 => ps_aLc M av68 30 (ps_gR M a0 2 2 (fun av69 => ps_nO M 6 (fun M av70 => ps_b1 (f_X7_init M av70) (fun M => ps_xR M av69 (22 : Int32) av70 (fun M => ps_gR M a0 2 2 (fun av71 => ps_aLc M av71 30 (ps_gR M a0 2 2 (fun av72 => ps_nO M 6 (fun M av73 => ps_b1 (f_X7_init M av73) (fun M => ps_xR M av72 (23 : Int32) av73 (fun M => ps_gR M a0 2 2 (fun av74 => ps_aLc M av74 30 (ps_gR M a0 2 2 (fun av75 => ps_nO M 6 (fun M av76 => ps_b1 (f_X7_init M av76) (fun M => ps_xR M av75 (24 : Int32) av76 (fun M => ps_gR M a0 2 2 (fun av77 => ps_aLc M av77 30 (ps_gR M a0 2 2 (fun av78 => ps_nO M 6 (fun M av79 => ps_b1 (f_X7_init M av79) (fun M => ps_xR M av78 (25 : Int32) av79 (fun M => ps_gR M a0 2 2 (fun av80 => ps_aLc M av80 30 (ps_gR M a0 2 2 (fun av81 => ps_nO M 6 (fun M av82 => ps_b1 (f_X7_init M av82) (fun M => ps_xR M av81 (26 : Int32) av82 (fun M => ps_gR M a0 2 2 (fun av83 => ps_aLc M av83 30 (ps_gR M a0 2 2 (fun av84 => ps_nO M 6 (fun M av85 => ps_b1 (f_X7_init M av85) (fun M => ps_xR M av84 (27 : Int32) av85 (fun M => ps_gR M a0 2 2 (fun av86 => ps_aLc M av86 30 (ps_gR M a0 2 2 (fun av87 => ps_nO M 6 (fun M av88 => ps_b1 (f_X7_init M av88) (fun M => ps_xR M av87 (28 : Int32) av88 (fun M => ps_gR M a0 2 2 (fun av89 => ps_aLc M av89 30 (ps_gR M a0 2 2 (fun av90 => ps_nO M 6 (fun M av91 => ps_b1 (f_X7_init M av91) (fun M => ps_xR M av90 (29 : Int32) av91 (fun M => ps_gR M a0 2 2 (fun av92 => ps_aLc M av92 30 (some M))))))))))))))))))))))))))))))))))))))))))))))))))))))))))))))))))))))))))))))))))))))))))))))))))))))))))))))))))))))))))))))))))))))))))))))))))))))))))))))))))))))))))))))))))))))))
set_option maxRecDepth 100000 in
set_option maxHeartbeats 4000000 in
theorem kb_X2_init (C : ps_C p s m args meth c cX2_init 2 RX2 none "<init>" D Y B) {q : ps_M} {M : ps_M} {a0 : Nat} (hF : f_X2_init M a0 = some q) (hW : ps_W D Y B M H) (hS : va_S (fun q => B ≤ q) s.heap H locs) (hl : lv_has ls 2 [(0, .ref (B + a0))]) : W p l e rm_X2_init s m args below meth c H locs 0 0 (ps_Qv D Y B below args s 151 900 q) (F0 m 0 ls []) := by
  have hx := C.1
  have hb := C.2.1
  have hml := C.2.2.1
  have hown := C.2.2.2.1
  have hts := C.2.2.2.2.1
  unfold f_X2_init at hF
  refine lv_aload_n hx hb dX2_init_0 rfl (lv_at hl 0 rfl) ?_
  refine W.objInit hx hb hown (hts _ tq_287) (hts _ tq_80) (hts _ tq_81) rfl (hl.1.trans hml.symm) rfl dX2_init_1 (Nat.le_of_ble_eq_true rfl) (Nat.le_of_ble_eq_true rfl) ?_
  refine W.eq (g2 := F0 m 4 ls []) rfl ?_
  refine lv_aload_n hx hb dX2_init_4 rfl (lv_at hl 0 rfl) ?_
  refine lv_bipush (v := 30) hx hb dX2_init_5 (by decide) ?_
  refine pw_nR (N := 30) C hW hS tq_288 (by decide) (by decide) (Nat.le_of_ble_eq_true rfl) (Nat.le_of_ble_eq_true rfl) (Nat.le_of_ble_eq_true rfl) dX2_init_7 hF (fun M av1 H hW hS hF => ?_)
  refine W.widen (k := 1) (n := 30) (Nat.le_of_ble_eq_true rfl) (Nat.le_of_ble_eq_true rfl) ?_
  refine pw_pR C hW hS pc_2 (k := 2) (by decide) (Or.inr ⟨_, rfl⟩) rfl tq_294 (Or.inr ⟨rfl, rfl⟩) dX2_init_10 hF (fun M H locs hW hS hF => ?_)
  refine lv_iconst (v := 0) hx hb dX2_init_13 (by decide) ?_
  refine lv_istore_n (lv' := [(1, .int (0 : Int32)), (0, .ref (B + a0))]) hx hb dX2_init_14 rfl hl (by decide) rfl (fun ls hl => ?_)
  refine lv_iload_n hx hb dX2_init_15 rfl (lv_at hl 0 rfl) ?_
  refine lv_aload_n hx hb dX2_init_16 rfl (lv_at hl 1 rfl) ?_
  refine pw_gR C hW pc_2 (k := 2) (by decide) rfl tq_294 dX2_init_17 hF (fun av2 hF => ?_)
  refine pw_aLc C hW (v := 30) (by decide) dX2_init_20 hF (fun hF => ?_)
  refine lv_icmp_ge (tgt := 43) hx hb dX2_init_21 (by decide) (fun h => absurd h (by decide)) (fun _ => ?_)
  refine lv_aload_n hx hb dX2_init_24 rfl (lv_at hl 1 rfl) ?_
  refine pw_gR C hW pc_2 (k := 2) (by decide) rfl tq_294 dX2_init_25 hF (fun av3 hF => ?_)
  refine lv_iload_n hx hb dX2_init_28 rfl (lv_at hl 0 rfl) ?_
  refine pw_nO C hW hS pc_6 tq_288 tq_215 tq_66 (Nat.le_of_ble_eq_true rfl) (Nat.le_of_ble_eq_true rfl) dX2_init_29 hF (fun M av4 H hW hS hF => ?_)
  refine W.widen (k := 2) (n := 43) (Nat.le_of_ble_eq_true rfl) (Nat.le_of_ble_eq_true rfl) ?_
  refine lv_dup hx hb dX2_init_32 rfl ?_
  obtain ⟨M9, hc, hF⟩ := ps_b1_some hF
  refine ps_backV (M' := M9) hS (ps_callIN C hW (host := "PullSaw") mf_X7_init tq_217 rfl (by decide +kernel) ⟨Nat.le_of_ble_eq_true rfl, Nat.le_of_ble_eq_true rfl⟩ rfl rfl (As := []) (rest := [.ref (B + av4), .int (0 : Int32), .ref (B + av3)]) (c_X7_init hc) rfl hl.1 rfl (Nat.le_of_ble_eq_true rfl) dX2_init_33 ⟨Nat.le_of_ble_eq_true rfl, Nat.le_of_ble_eq_true rfl⟩) (fun H locs hW hS => ?_)
  clear hc
  generalize M9 = M at hW hF
  refine W.widen (k := 6) (n := 59) (Nat.le_of_ble_eq_true rfl) (Nat.le_of_ble_eq_true rfl) ?_
  refine pw_xR C hW hS dX2_init_36 hF (fun M H locs hW hS hF => ?_)
  refine lv_iinc (v := 1) (lv' := [(1, .int (1 : Int32)), (0, .ref (B + a0))]) hx hb dX2_init_37 hl (k := 0) rfl (by decide) (by decide) rfl (fun ls hl => ?_)
  refine lv_goto (tgt := 15) hx hb dX2_init_40 (by decide) ?_
  refine lv_iload_n hx hb dX2_init_15 rfl (lv_at hl 0 rfl) ?_
  refine lv_aload_n hx hb dX2_init_16 rfl (lv_at hl 1 rfl) ?_
  refine pw_gR C hW pc_2 (k := 2) (by decide) rfl tq_294 dX2_init_17 hF (fun av5 hF => ?_)
  refine pw_aLc C hW (v := 30) (by decide) dX2_init_20 hF (fun hF => ?_)
  refine lv_icmp_ge (tgt := 43) hx hb dX2_init_21 (by decide) (fun h => absurd h (by decide)) (fun _ => ?_)
  refine lv_aload_n hx hb dX2_init_24 rfl (lv_at hl 1 rfl) ?_
  refine pw_gR C hW pc_2 (k := 2) (by decide) rfl tq_294 dX2_init_25 hF (fun av6 hF => ?_)
  refine lv_iload_n hx hb dX2_init_28 rfl (lv_at hl 0 rfl) ?_
  refine pw_nO C hW hS pc_6 tq_288 tq_215 tq_66 (Nat.le_of_ble_eq_true rfl) (Nat.le_of_ble_eq_true rfl) dX2_init_29 hF (fun M av7 H hW hS hF => ?_)
  refine W.widen (k := 7) (n := 72) (Nat.le_of_ble_eq_true rfl) (Nat.le_of_ble_eq_true rfl) ?_
  refine lv_dup hx hb dX2_init_32 rfl ?_
  obtain ⟨M9, hc, hF⟩ := ps_b1_some hF
  refine ps_backV (M' := M9) hS (ps_callIN C hW (host := "PullSaw") mf_X7_init tq_217 rfl (by decide +kernel) ⟨Nat.le_of_ble_eq_true rfl, Nat.le_of_ble_eq_true rfl⟩ rfl rfl (As := []) (rest := [.ref (B + av7), .int (1 : Int32), .ref (B + av6)]) (c_X7_init hc) rfl hl.1 rfl (Nat.le_of_ble_eq_true rfl) dX2_init_33 ⟨Nat.le_of_ble_eq_true rfl, Nat.le_of_ble_eq_true rfl⟩) (fun H locs hW hS => ?_)
  clear hc
  generalize M9 = M at hW hF
  refine W.widen (k := 11) (n := 88) (Nat.le_of_ble_eq_true rfl) (Nat.le_of_ble_eq_true rfl) ?_
  refine pw_xR C hW hS dX2_init_36 hF (fun M H locs hW hS hF => ?_)
  refine lv_iinc (v := 2) (lv' := [(1, .int (2 : Int32)), (0, .ref (B + a0))]) hx hb dX2_init_37 hl (k := 0) rfl (by decide) (by decide) rfl (fun ls hl => ?_)
  refine lv_goto (tgt := 15) hx hb dX2_init_40 (by decide) ?_
  refine lv_iload_n hx hb dX2_init_15 rfl (lv_at hl 0 rfl) ?_
  refine lv_aload_n hx hb dX2_init_16 rfl (lv_at hl 1 rfl) ?_
  refine pw_gR C hW pc_2 (k := 2) (by decide) rfl tq_294 dX2_init_17 hF (fun av8 hF => ?_)
  refine pw_aLc C hW (v := 30) (by decide) dX2_init_20 hF (fun hF => ?_)
  refine lv_icmp_ge (tgt := 43) hx hb dX2_init_21 (by decide) (fun h => absurd h (by decide)) (fun _ => ?_)
  refine lv_aload_n hx hb dX2_init_24 rfl (lv_at hl 1 rfl) ?_
  refine pw_gR C hW pc_2 (k := 2) (by decide) rfl tq_294 dX2_init_25 hF (fun av9 hF => ?_)
  refine lv_iload_n hx hb dX2_init_28 rfl (lv_at hl 0 rfl) ?_
  refine pw_nO C hW hS pc_6 tq_288 tq_215 tq_66 (Nat.le_of_ble_eq_true rfl) (Nat.le_of_ble_eq_true rfl) dX2_init_29 hF (fun M av10 H hW hS hF => ?_)
  refine W.widen (k := 12) (n := 101) (Nat.le_of_ble_eq_true rfl) (Nat.le_of_ble_eq_true rfl) ?_
  refine lv_dup hx hb dX2_init_32 rfl ?_
  obtain ⟨M9, hc, hF⟩ := ps_b1_some hF
  refine ps_backV (M' := M9) hS (ps_callIN C hW (host := "PullSaw") mf_X7_init tq_217 rfl (by decide +kernel) ⟨Nat.le_of_ble_eq_true rfl, Nat.le_of_ble_eq_true rfl⟩ rfl rfl (As := []) (rest := [.ref (B + av10), .int (2 : Int32), .ref (B + av9)]) (c_X7_init hc) rfl hl.1 rfl (Nat.le_of_ble_eq_true rfl) dX2_init_33 ⟨Nat.le_of_ble_eq_true rfl, Nat.le_of_ble_eq_true rfl⟩) (fun H locs hW hS => ?_)
  clear hc
  generalize M9 = M at hW hF
  refine W.widen (k := 16) (n := 117) (Nat.le_of_ble_eq_true rfl) (Nat.le_of_ble_eq_true rfl) ?_
  refine pw_xR C hW hS dX2_init_36 hF (fun M H locs hW hS hF => ?_)
  refine lv_iinc (v := 3) (lv' := [(1, .int (3 : Int32)), (0, .ref (B + a0))]) hx hb dX2_init_37 hl (k := 0) rfl (by decide) (by decide) rfl (fun ls hl => ?_)
  refine lv_goto (tgt := 15) hx hb dX2_init_40 (by decide) ?_
  refine lv_iload_n hx hb dX2_init_15 rfl (lv_at hl 0 rfl) ?_
  refine lv_aload_n hx hb dX2_init_16 rfl (lv_at hl 1 rfl) ?_
  refine pw_gR C hW pc_2 (k := 2) (by decide) rfl tq_294 dX2_init_17 hF (fun av11 hF => ?_)
  refine pw_aLc C hW (v := 30) (by decide) dX2_init_20 hF (fun hF => ?_)
  refine lv_icmp_ge (tgt := 43) hx hb dX2_init_21 (by decide) (fun h => absurd h (by decide)) (fun _ => ?_)
  refine lv_aload_n hx hb dX2_init_24 rfl (lv_at hl 1 rfl) ?_
  refine pw_gR C hW pc_2 (k := 2) (by decide) rfl tq_294 dX2_init_25 hF (fun av12 hF => ?_)
  refine lv_iload_n hx hb dX2_init_28 rfl (lv_at hl 0 rfl) ?_
  refine pw_nO C hW hS pc_6 tq_288 tq_215 tq_66 (Nat.le_of_ble_eq_true rfl) (Nat.le_of_ble_eq_true rfl) dX2_init_29 hF (fun M av13 H hW hS hF => ?_)
  refine W.widen (k := 17) (n := 130) (Nat.le_of_ble_eq_true rfl) (Nat.le_of_ble_eq_true rfl) ?_
  refine lv_dup hx hb dX2_init_32 rfl ?_
  obtain ⟨M9, hc, hF⟩ := ps_b1_some hF
  refine ps_backV (M' := M9) hS (ps_callIN C hW (host := "PullSaw") mf_X7_init tq_217 rfl (by decide +kernel) ⟨Nat.le_of_ble_eq_true rfl, Nat.le_of_ble_eq_true rfl⟩ rfl rfl (As := []) (rest := [.ref (B + av13), .int (3 : Int32), .ref (B + av12)]) (c_X7_init hc) rfl hl.1 rfl (Nat.le_of_ble_eq_true rfl) dX2_init_33 ⟨Nat.le_of_ble_eq_true rfl, Nat.le_of_ble_eq_true rfl⟩) (fun H locs hW hS => ?_)
  clear hc
  generalize M9 = M at hW hF
  refine W.widen (k := 21) (n := 146) (Nat.le_of_ble_eq_true rfl) (Nat.le_of_ble_eq_true rfl) ?_
  refine pw_xR C hW hS dX2_init_36 hF (fun M H locs hW hS hF => ?_)
  refine lv_iinc (v := 4) (lv' := [(1, .int (4 : Int32)), (0, .ref (B + a0))]) hx hb dX2_init_37 hl (k := 0) rfl (by decide) (by decide) rfl (fun ls hl => ?_)
  refine lv_goto (tgt := 15) hx hb dX2_init_40 (by decide) ?_
  refine lv_iload_n hx hb dX2_init_15 rfl (lv_at hl 0 rfl) ?_
  refine lv_aload_n hx hb dX2_init_16 rfl (lv_at hl 1 rfl) ?_
  refine pw_gR C hW pc_2 (k := 2) (by decide) rfl tq_294 dX2_init_17 hF (fun av14 hF => ?_)
  refine pw_aLc C hW (v := 30) (by decide) dX2_init_20 hF (fun hF => ?_)
  refine lv_icmp_ge (tgt := 43) hx hb dX2_init_21 (by decide) (fun h => absurd h (by decide)) (fun _ => ?_)
  refine lv_aload_n hx hb dX2_init_24 rfl (lv_at hl 1 rfl) ?_
  refine pw_gR C hW pc_2 (k := 2) (by decide) rfl tq_294 dX2_init_25 hF (fun av15 hF => ?_)
  refine lv_iload_n hx hb dX2_init_28 rfl (lv_at hl 0 rfl) ?_
  refine pw_nO C hW hS pc_6 tq_288 tq_215 tq_66 (Nat.le_of_ble_eq_true rfl) (Nat.le_of_ble_eq_true rfl) dX2_init_29 hF (fun M av16 H hW hS hF => ?_)
  refine W.widen (k := 22) (n := 159) (Nat.le_of_ble_eq_true rfl) (Nat.le_of_ble_eq_true rfl) ?_
  refine lv_dup hx hb dX2_init_32 rfl ?_
  obtain ⟨M9, hc, hF⟩ := ps_b1_some hF
  refine ps_backV (M' := M9) hS (ps_callIN C hW (host := "PullSaw") mf_X7_init tq_217 rfl (by decide +kernel) ⟨Nat.le_of_ble_eq_true rfl, Nat.le_of_ble_eq_true rfl⟩ rfl rfl (As := []) (rest := [.ref (B + av16), .int (4 : Int32), .ref (B + av15)]) (c_X7_init hc) rfl hl.1 rfl (Nat.le_of_ble_eq_true rfl) dX2_init_33 ⟨Nat.le_of_ble_eq_true rfl, Nat.le_of_ble_eq_true rfl⟩) (fun H locs hW hS => ?_)
  clear hc
  generalize M9 = M at hW hF
  refine W.widen (k := 26) (n := 175) (Nat.le_of_ble_eq_true rfl) (Nat.le_of_ble_eq_true rfl) ?_
  refine pw_xR C hW hS dX2_init_36 hF (fun M H locs hW hS hF => ?_)
  refine lv_iinc (v := 5) (lv' := [(1, .int (5 : Int32)), (0, .ref (B + a0))]) hx hb dX2_init_37 hl (k := 0) rfl (by decide) (by decide) rfl (fun ls hl => ?_)
  refine lv_goto (tgt := 15) hx hb dX2_init_40 (by decide) ?_
  refine lv_iload_n hx hb dX2_init_15 rfl (lv_at hl 0 rfl) ?_
  refine lv_aload_n hx hb dX2_init_16 rfl (lv_at hl 1 rfl) ?_
  refine pw_gR C hW pc_2 (k := 2) (by decide) rfl tq_294 dX2_init_17 hF (fun av17 hF => ?_)
  refine pw_aLc C hW (v := 30) (by decide) dX2_init_20 hF (fun hF => ?_)
  refine lv_icmp_ge (tgt := 43) hx hb dX2_init_21 (by decide) (fun h => absurd h (by decide)) (fun _ => ?_)
  refine lv_aload_n hx hb dX2_init_24 rfl (lv_at hl 1 rfl) ?_
  refine pw_gR C hW pc_2 (k := 2) (by decide) rfl tq_294 dX2_init_25 hF (fun av18 hF => ?_)
  refine lv_iload_n hx hb dX2_init_28 rfl (lv_at hl 0 rfl) ?_
  refine pw_nO C hW hS pc_6 tq_288 tq_215 tq_66 (Nat.le_of_ble_eq_true rfl) (Nat.le_of_ble_eq_true rfl) dX2_init_29 hF (fun M av19 H hW hS hF => ?_)
  refine W.widen (k := 27) (n := 188) (Nat.le_of_ble_eq_true rfl) (Nat.le_of_ble_eq_true rfl) ?_
  refine lv_dup hx hb dX2_init_32 rfl ?_
  obtain ⟨M9, hc, hF⟩ := ps_b1_some hF
  refine ps_backV (M' := M9) hS (ps_callIN C hW (host := "PullSaw") mf_X7_init tq_217 rfl (by decide +kernel) ⟨Nat.le_of_ble_eq_true rfl, Nat.le_of_ble_eq_true rfl⟩ rfl rfl (As := []) (rest := [.ref (B + av19), .int (5 : Int32), .ref (B + av18)]) (c_X7_init hc) rfl hl.1 rfl (Nat.le_of_ble_eq_true rfl) dX2_init_33 ⟨Nat.le_of_ble_eq_true rfl, Nat.le_of_ble_eq_true rfl⟩) (fun H locs hW hS => ?_)
  clear hc
  generalize M9 = M at hW hF
  refine W.widen (k := 31) (n := 204) (Nat.le_of_ble_eq_true rfl) (Nat.le_of_ble_eq_true rfl) ?_
  refine pw_xR C hW hS dX2_init_36 hF (fun M H locs hW hS hF => ?_)
  refine lv_iinc (v := 6) (lv' := [(1, .int (6 : Int32)), (0, .ref (B + a0))]) hx hb dX2_init_37 hl (k := 0) rfl (by decide) (by decide) rfl (fun ls hl => ?_)
  refine lv_goto (tgt := 15) hx hb dX2_init_40 (by decide) ?_
  refine lv_iload_n hx hb dX2_init_15 rfl (lv_at hl 0 rfl) ?_
  refine lv_aload_n hx hb dX2_init_16 rfl (lv_at hl 1 rfl) ?_
  refine pw_gR C hW pc_2 (k := 2) (by decide) rfl tq_294 dX2_init_17 hF (fun av20 hF => ?_)
  refine pw_aLc C hW (v := 30) (by decide) dX2_init_20 hF (fun hF => ?_)
  refine lv_icmp_ge (tgt := 43) hx hb dX2_init_21 (by decide) (fun h => absurd h (by decide)) (fun _ => ?_)
  refine lv_aload_n hx hb dX2_init_24 rfl (lv_at hl 1 rfl) ?_
  refine pw_gR C hW pc_2 (k := 2) (by decide) rfl tq_294 dX2_init_25 hF (fun av21 hF => ?_)
  refine lv_iload_n hx hb dX2_init_28 rfl (lv_at hl 0 rfl) ?_
  refine pw_nO C hW hS pc_6 tq_288 tq_215 tq_66 (Nat.le_of_ble_eq_true rfl) (Nat.le_of_ble_eq_true rfl) dX2_init_29 hF (fun M av22 H hW hS hF => ?_)
  refine W.widen (k := 32) (n := 217) (Nat.le_of_ble_eq_true rfl) (Nat.le_of_ble_eq_true rfl) ?_
  refine lv_dup hx hb dX2_init_32 rfl ?_
  obtain ⟨M9, hc, hF⟩ := ps_b1_some hF
  refine ps_backV (M' := M9) hS (ps_callIN C hW (host := "PullSaw") mf_X7_init tq_217 rfl (by decide +kernel) ⟨Nat.le_of_ble_eq_true rfl, Nat.le_of_ble_eq_true rfl⟩ rfl rfl (As := []) (rest := [.ref (B + av22), .int (6 : Int32), .ref (B + av21)]) (c_X7_init hc) rfl hl.1 rfl (Nat.le_of_ble_eq_true rfl) dX2_init_33 ⟨Nat.le_of_ble_eq_true rfl, Nat.le_of_ble_eq_true rfl⟩) (fun H locs hW hS => ?_)
  clear hc
  generalize M9 = M at hW hF
  refine W.widen (k := 36) (n := 233) (Nat.le_of_ble_eq_true rfl) (Nat.le_of_ble_eq_true rfl) ?_
  refine pw_xR C hW hS dX2_init_36 hF (fun M H locs hW hS hF => ?_)
  refine lv_iinc (v := 7) (lv' := [(1, .int (7 : Int32)), (0, .ref (B + a0))]) hx hb dX2_init_37 hl (k := 0) rfl (by decide) (by decide) rfl (fun ls hl => ?_)
  refine lv_goto (tgt := 15) hx hb dX2_init_40 (by decide) ?_
  refine lv_iload_n hx hb dX2_init_15 rfl (lv_at hl 0 rfl) ?_
  refine lv_aload_n hx hb dX2_init_16 rfl (lv_at hl 1 rfl) ?_
  refine pw_gR C hW pc_2 (k := 2) (by decide) rfl tq_294 dX2_init_17 hF (fun av23 hF => ?_)
  refine pw_aLc C hW (v := 30) (by decide) dX2_init_20 hF (fun hF => ?_)
  refine lv_icmp_ge (tgt := 43) hx hb dX2_init_21 (by decide) (fun h => absurd h (by decide)) (fun _ => ?_)
  refine lv_aload_n hx hb dX2_init_24 rfl (lv_at hl 1 rfl) ?_
  refine pw_gR C hW pc_2 (k := 2) (by decide) rfl tq_294 dX2_init_25 hF (fun av24 hF => ?_)
  refine lv_iload_n hx hb dX2_init_28 rfl (lv_at hl 0 rfl) ?_
  refine pw_nO C hW hS pc_6 tq_288 tq_215 tq_66 (Nat.le_of_ble_eq_true rfl) (Nat.le_of_ble_eq_true rfl) dX2_init_29 hF (fun M av25 H hW hS hF => ?_)
  refine W.widen (k := 37) (n := 246) (Nat.le_of_ble_eq_true rfl) (Nat.le_of_ble_eq_true rfl) ?_
  refine lv_dup hx hb dX2_init_32 rfl ?_
  obtain ⟨M9, hc, hF⟩ := ps_b1_some hF
  refine ps_backV (M' := M9) hS (ps_callIN C hW (host := "PullSaw") mf_X7_init tq_217 rfl (by decide +kernel) ⟨Nat.le_of_ble_eq_true rfl, Nat.le_of_ble_eq_true rfl⟩ rfl rfl (As := []) (rest := [.ref (B + av25), .int (7 : Int32), .ref (B + av24)]) (c_X7_init hc) rfl hl.1 rfl (Nat.le_of_ble_eq_true rfl) dX2_init_33 ⟨Nat.le_of_ble_eq_true rfl, Nat.le_of_ble_eq_true rfl⟩) (fun H locs hW hS => ?_)
  clear hc
  generalize M9 = M at hW hF
  refine W.widen (k := 41) (n := 262) (Nat.le_of_ble_eq_true rfl) (Nat.le_of_ble_eq_true rfl) ?_
  refine pw_xR C hW hS dX2_init_36 hF (fun M H locs hW hS hF => ?_)
  refine lv_iinc (v := 8) (lv' := [(1, .int (8 : Int32)), (0, .ref (B + a0))]) hx hb dX2_init_37 hl (k := 0) rfl (by decide) (by decide) rfl (fun ls hl => ?_)
  refine lv_goto (tgt := 15) hx hb dX2_init_40 (by decide) ?_
  refine lv_iload_n hx hb dX2_init_15 rfl (lv_at hl 0 rfl) ?_
  refine lv_aload_n hx hb dX2_init_16 rfl (lv_at hl 1 rfl) ?_
  refine pw_gR C hW pc_2 (k := 2) (by decide) rfl tq_294 dX2_init_17 hF (fun av26 hF => ?_)
  refine pw_aLc C hW (v := 30) (by decide) dX2_init_20 hF (fun hF => ?_)
  refine lv_icmp_ge (tgt := 43) hx hb dX2_init_21 (by decide) (fun h => absurd h (by decide)) (fun _ => ?_)
  refine lv_aload_n hx hb dX2_init_24 rfl (lv_at hl 1 rfl) ?_
  refine pw_gR C hW pc_2 (k := 2) (by decide) rfl tq_294 dX2_init_25 hF (fun av27 hF => ?_)
  refine lv_iload_n hx hb dX2_init_28 rfl (lv_at hl 0 rfl) ?_
  refine pw_nO C hW hS pc_6 tq_288 tq_215 tq_66 (Nat.le_of_ble_eq_true rfl) (Nat.le_of_ble_eq_true rfl) dX2_init_29 hF (fun M av28 H hW hS hF => ?_)
  refine W.widen (k := 42) (n := 275) (Nat.le_of_ble_eq_true rfl) (Nat.le_of_ble_eq_true rfl) ?_
  refine lv_dup hx hb dX2_init_32 rfl ?_
  obtain ⟨M9, hc, hF⟩ := ps_b1_some hF
  refine ps_backV (M' := M9) hS (ps_callIN C hW (host := "PullSaw") mf_X7_init tq_217 rfl (by decide +kernel) ⟨Nat.le_of_ble_eq_true rfl, Nat.le_of_ble_eq_true rfl⟩ rfl rfl (As := []) (rest := [.ref (B + av28), .int (8 : Int32), .ref (B + av27)]) (c_X7_init hc) rfl hl.1 rfl (Nat.le_of_ble_eq_true rfl) dX2_init_33 ⟨Nat.le_of_ble_eq_true rfl, Nat.le_of_ble_eq_true rfl⟩) (fun H locs hW hS => ?_)
  clear hc
  generalize M9 = M at hW hF
  refine W.widen (k := 46) (n := 291) (Nat.le_of_ble_eq_true rfl) (Nat.le_of_ble_eq_true rfl) ?_
  refine pw_xR C hW hS dX2_init_36 hF (fun M H locs hW hS hF => ?_)
  refine lv_iinc (v := 9) (lv' := [(1, .int (9 : Int32)), (0, .ref (B + a0))]) hx hb dX2_init_37 hl (k := 0) rfl (by decide) (by decide) rfl (fun ls hl => ?_)
  refine lv_goto (tgt := 15) hx hb dX2_init_40 (by decide) ?_
  refine lv_iload_n hx hb dX2_init_15 rfl (lv_at hl 0 rfl) ?_
  refine lv_aload_n hx hb dX2_init_16 rfl (lv_at hl 1 rfl) ?_
  refine pw_gR C hW pc_2 (k := 2) (by decide) rfl tq_294 dX2_init_17 hF (fun av29 hF => ?_)
  refine pw_aLc C hW (v := 30) (by decide) dX2_init_20 hF (fun hF => ?_)
  refine lv_icmp_ge (tgt := 43) hx hb dX2_init_21 (by decide) (fun h => absurd h (by decide)) (fun _ => ?_)
  refine lv_aload_n hx hb dX2_init_24 rfl (lv_at hl 1 rfl) ?_
  refine pw_gR C hW pc_2 (k := 2) (by decide) rfl tq_294 dX2_init_25 hF (fun av30 hF => ?_)
  refine lv_iload_n hx hb dX2_init_28 rfl (lv_at hl 0 rfl) ?_
  refine pw_nO C hW hS pc_6 tq_288 tq_215 tq_66 (Nat.le_of_ble_eq_true rfl) (Nat.le_of_ble_eq_true rfl) dX2_init_29 hF (fun M av31 H hW hS hF => ?_)
  refine W.widen (k := 47) (n := 304) (Nat.le_of_ble_eq_true rfl) (Nat.le_of_ble_eq_true rfl) ?_
  refine lv_dup hx hb dX2_init_32 rfl ?_
  obtain ⟨M9, hc, hF⟩ := ps_b1_some hF
  refine ps_backV (M' := M9) hS (ps_callIN C hW (host := "PullSaw") mf_X7_init tq_217 rfl (by decide +kernel) ⟨Nat.le_of_ble_eq_true rfl, Nat.le_of_ble_eq_true rfl⟩ rfl rfl (As := []) (rest := [.ref (B + av31), .int (9 : Int32), .ref (B + av30)]) (c_X7_init hc) rfl hl.1 rfl (Nat.le_of_ble_eq_true rfl) dX2_init_33 ⟨Nat.le_of_ble_eq_true rfl, Nat.le_of_ble_eq_true rfl⟩) (fun H locs hW hS => ?_)
  clear hc
  generalize M9 = M at hW hF
  refine W.widen (k := 51) (n := 320) (Nat.le_of_ble_eq_true rfl) (Nat.le_of_ble_eq_true rfl) ?_
  refine pw_xR C hW hS dX2_init_36 hF (fun M H locs hW hS hF => ?_)
  refine lv_iinc (v := 10) (lv' := [(1, .int (10 : Int32)), (0, .ref (B + a0))]) hx hb dX2_init_37 hl (k := 0) rfl (by decide) (by decide) rfl (fun ls hl => ?_)
  refine lv_goto (tgt := 15) hx hb dX2_init_40 (by decide) ?_
  refine lv_iload_n hx hb dX2_init_15 rfl (lv_at hl 0 rfl) ?_
  refine lv_aload_n hx hb dX2_init_16 rfl (lv_at hl 1 rfl) ?_
  refine pw_gR C hW pc_2 (k := 2) (by decide) rfl tq_294 dX2_init_17 hF (fun av32 hF => ?_)
  refine pw_aLc C hW (v := 30) (by decide) dX2_init_20 hF (fun hF => ?_)
  refine lv_icmp_ge (tgt := 43) hx hb dX2_init_21 (by decide) (fun h => absurd h (by decide)) (fun _ => ?_)
  refine lv_aload_n hx hb dX2_init_24 rfl (lv_at hl 1 rfl) ?_
  refine pw_gR C hW pc_2 (k := 2) (by decide) rfl tq_294 dX2_init_25 hF (fun av33 hF => ?_)
  refine lv_iload_n hx hb dX2_init_28 rfl (lv_at hl 0 rfl) ?_
  refine pw_nO C hW hS pc_6 tq_288 tq_215 tq_66 (Nat.le_of_ble_eq_true rfl) (Nat.le_of_ble_eq_true rfl) dX2_init_29 hF (fun M av34 H hW hS hF => ?_)
  refine W.widen (k := 52) (n := 333) (Nat.le_of_ble_eq_true rfl) (Nat.le_of_ble_eq_true rfl) ?_
  refine lv_dup hx hb dX2_init_32 rfl ?_
  obtain ⟨M9, hc, hF⟩ := ps_b1_some hF
  refine ps_backV (M' := M9) hS (ps_callIN C hW (host := "PullSaw") mf_X7_init tq_217 rfl (by decide +kernel) ⟨Nat.le_of_ble_eq_true rfl, Nat.le_of_ble_eq_true rfl⟩ rfl rfl (As := []) (rest := [.ref (B + av34), .int (10 : Int32), .ref (B + av33)]) (c_X7_init hc) rfl hl.1 rfl (Nat.le_of_ble_eq_true rfl) dX2_init_33 ⟨Nat.le_of_ble_eq_true rfl, Nat.le_of_ble_eq_true rfl⟩) (fun H locs hW hS => ?_)
  clear hc
  generalize M9 = M at hW hF
  refine W.widen (k := 56) (n := 349) (Nat.le_of_ble_eq_true rfl) (Nat.le_of_ble_eq_true rfl) ?_
  refine pw_xR C hW hS dX2_init_36 hF (fun M H locs hW hS hF => ?_)
  refine lv_iinc (v := 11) (lv' := [(1, .int (11 : Int32)), (0, .ref (B + a0))]) hx hb dX2_init_37 hl (k := 0) rfl (by decide) (by decide) rfl (fun ls hl => ?_)
  refine lv_goto (tgt := 15) hx hb dX2_init_40 (by decide) ?_
  refine lv_iload_n hx hb dX2_init_15 rfl (lv_at hl 0 rfl) ?_
  refine lv_aload_n hx hb dX2_init_16 rfl (lv_at hl 1 rfl) ?_
  refine pw_gR C hW pc_2 (k := 2) (by decide) rfl tq_294 dX2_init_17 hF (fun av35 hF => ?_)
  refine pw_aLc C hW (v := 30) (by decide) dX2_init_20 hF (fun hF => ?_)
  refine lv_icmp_ge (tgt := 43) hx hb dX2_init_21 (by decide) (fun h => absurd h (by decide)) (fun _ => ?_)
  refine lv_aload_n hx hb dX2_init_24 rfl (lv_at hl 1 rfl) ?_
  refine pw_gR C hW pc_2 (k := 2) (by decide) rfl tq_294 dX2_init_25 hF (fun av36 hF => ?_)
  refine lv_iload_n hx hb dX2_init_28 rfl (lv_at hl 0 rfl) ?_
  refine pw_nO C hW hS pc_6 tq_288 tq_215 tq_66 (Nat.le_of_ble_eq_true rfl) (Nat.le_of_ble_eq_true rfl) dX2_init_29 hF (fun M av37 H hW hS hF => ?_)
  refine W.widen (k := 57) (n := 362) (Nat.le_of_ble_eq_true rfl) (Nat.le_of_ble_eq_true rfl) ?_
  refine lv_dup hx hb dX2_init_32 rfl ?_
  obtain ⟨M9, hc, hF⟩ := ps_b1_some hF
  refine ps_backV (M' := M9) hS (ps_callIN C hW (host := "PullSaw") mf_X7_init tq_217 rfl (by decide +kernel) ⟨Nat.le_of_ble_eq_true rfl, Nat.le_of_ble_eq_true rfl⟩ rfl rfl (As := []) (rest := [.ref (B + av37), .int (11 : Int32), .ref (B + av36)]) (c_X7_init hc) rfl hl.1 rfl (Nat.le_of_ble_eq_true rfl) dX2_init_33 ⟨Nat.le_of_ble_eq_true rfl, Nat.le_of_ble_eq_true rfl⟩) (fun H locs hW hS => ?_)
  clear hc
  generalize M9 = M at hW hF
  refine W.widen (k := 61) (n := 378) (Nat.le_of_ble_eq_true rfl) (Nat.le_of_ble_eq_true rfl) ?_
  refine pw_xR C hW hS dX2_init_36 hF (fun M H locs hW hS hF => ?_)
  refine lv_iinc (v := 12) (lv' := [(1, .int (12 : Int32)), (0, .ref (B + a0))]) hx hb dX2_init_37 hl (k := 0) rfl (by decide) (by decide) rfl (fun ls hl => ?_)
  refine lv_goto (tgt := 15) hx hb dX2_init_40 (by decide) ?_
  refine lv_iload_n hx hb dX2_init_15 rfl (lv_at hl 0 rfl) ?_
  refine lv_aload_n hx hb dX2_init_16 rfl (lv_at hl 1 rfl) ?_
  refine pw_gR C hW pc_2 (k := 2) (by decide) rfl tq_294 dX2_init_17 hF (fun av38 hF => ?_)
  refine pw_aLc C hW (v := 30) (by decide) dX2_init_20 hF (fun hF => ?_)
  refine lv_icmp_ge (tgt := 43) hx hb dX2_init_21 (by decide) (fun h => absurd h (by decide)) (fun _ => ?_)
  refine lv_aload_n hx hb dX2_init_24 rfl (lv_at hl 1 rfl) ?_
  refine pw_gR C hW pc_2 (k := 2) (by decide) rfl tq_294 dX2_init_25 hF (fun av39 hF => ?_)
  refine lv_iload_n hx hb dX2_init_28 rfl (lv_at hl 0 rfl) ?_
  refine pw_nO C hW hS pc_6 tq_288 tq_215 tq_66 (Nat.le_of_ble_eq_true rfl) (Nat.le_of_ble_eq_true rfl) dX2_init_29 hF (fun M av40 H hW hS hF => ?_)
  refine W.widen (k := 62) (n := 391) (Nat.le_of_ble_eq_true rfl) (Nat.le_of_ble_eq_true rfl) ?_
  refine lv_dup hx hb dX2_init_32 rfl ?_
  obtain ⟨M9, hc, hF⟩ := ps_b1_some hF
  refine ps_backV (M' := M9) hS (ps_callIN C hW (host := "PullSaw") mf_X7_init tq_217 rfl (by decide +kernel) ⟨Nat.le_of_ble_eq_true rfl, Nat.le_of_ble_eq_true rfl⟩ rfl rfl (As := []) (rest := [.ref (B + av40), .int (12 : Int32), .ref (B + av39)]) (c_X7_init hc) rfl hl.1 rfl (Nat.le_of_ble_eq_true rfl) dX2_init_33 ⟨Nat.le_of_ble_eq_true rfl, Nat.le_of_ble_eq_true rfl⟩) (fun H locs hW hS => ?_)
  clear hc
  generalize M9 = M at hW hF
  refine W.widen (k := 66) (n := 407) (Nat.le_of_ble_eq_true rfl) (Nat.le_of_ble_eq_true rfl) ?_
  refine pw_xR C hW hS dX2_init_36 hF (fun M H locs hW hS hF => ?_)
  refine lv_iinc (v := 13) (lv' := [(1, .int (13 : Int32)), (0, .ref (B + a0))]) hx hb dX2_init_37 hl (k := 0) rfl (by decide) (by decide) rfl (fun ls hl => ?_)
  refine lv_goto (tgt := 15) hx hb dX2_init_40 (by decide) ?_
  refine lv_iload_n hx hb dX2_init_15 rfl (lv_at hl 0 rfl) ?_
  refine lv_aload_n hx hb dX2_init_16 rfl (lv_at hl 1 rfl) ?_
  refine pw_gR C hW pc_2 (k := 2) (by decide) rfl tq_294 dX2_init_17 hF (fun av41 hF => ?_)
  refine pw_aLc C hW (v := 30) (by decide) dX2_init_20 hF (fun hF => ?_)
  refine lv_icmp_ge (tgt := 43) hx hb dX2_init_21 (by decide) (fun h => absurd h (by decide)) (fun _ => ?_)
  refine lv_aload_n hx hb dX2_init_24 rfl (lv_at hl 1 rfl) ?_
  refine pw_gR C hW pc_2 (k := 2) (by decide) rfl tq_294 dX2_init_25 hF (fun av42 hF => ?_)
  refine lv_iload_n hx hb dX2_init_28 rfl (lv_at hl 0 rfl) ?_
  refine pw_nO C hW hS pc_6 tq_288 tq_215 tq_66 (Nat.le_of_ble_eq_true rfl) (Nat.le_of_ble_eq_true rfl) dX2_init_29 hF (fun M av43 H hW hS hF => ?_)
  refine W.widen (k := 67) (n := 420) (Nat.le_of_ble_eq_true rfl) (Nat.le_of_ble_eq_true rfl) ?_
  refine lv_dup hx hb dX2_init_32 rfl ?_
  obtain ⟨M9, hc, hF⟩ := ps_b1_some hF
  refine ps_backV (M' := M9) hS (ps_callIN C hW (host := "PullSaw") mf_X7_init tq_217 rfl (by decide +kernel) ⟨Nat.le_of_ble_eq_true rfl, Nat.le_of_ble_eq_true rfl⟩ rfl rfl (As := []) (rest := [.ref (B + av43), .int (13 : Int32), .ref (B + av42)]) (c_X7_init hc) rfl hl.1 rfl (Nat.le_of_ble_eq_true rfl) dX2_init_33 ⟨Nat.le_of_ble_eq_true rfl, Nat.le_of_ble_eq_true rfl⟩) (fun H locs hW hS => ?_)
  clear hc
  generalize M9 = M at hW hF
  refine W.widen (k := 71) (n := 436) (Nat.le_of_ble_eq_true rfl) (Nat.le_of_ble_eq_true rfl) ?_
  refine pw_xR C hW hS dX2_init_36 hF (fun M H locs hW hS hF => ?_)
  refine lv_iinc (v := 14) (lv' := [(1, .int (14 : Int32)), (0, .ref (B + a0))]) hx hb dX2_init_37 hl (k := 0) rfl (by decide) (by decide) rfl (fun ls hl => ?_)
  refine lv_goto (tgt := 15) hx hb dX2_init_40 (by decide) ?_
  refine lv_iload_n hx hb dX2_init_15 rfl (lv_at hl 0 rfl) ?_
  refine lv_aload_n hx hb dX2_init_16 rfl (lv_at hl 1 rfl) ?_
  refine pw_gR C hW pc_2 (k := 2) (by decide) rfl tq_294 dX2_init_17 hF (fun av44 hF => ?_)
  refine pw_aLc C hW (v := 30) (by decide) dX2_init_20 hF (fun hF => ?_)
  refine lv_icmp_ge (tgt := 43) hx hb dX2_init_21 (by decide) (fun h => absurd h (by decide)) (fun _ => ?_)
  refine lv_aload_n hx hb dX2_init_24 rfl (lv_at hl 1 rfl) ?_
  refine pw_gR C hW pc_2 (k := 2) (by decide) rfl tq_294 dX2_init_25 hF (fun av45 hF => ?_)
  refine lv_iload_n hx hb dX2_init_28 rfl (lv_at hl 0 rfl) ?_
  refine pw_nO C hW hS pc_6 tq_288 tq_215 tq_66 (Nat.le_of_ble_eq_true rfl) (Nat.le_of_ble_eq_true rfl) dX2_init_29 hF (fun M av46 H hW hS hF => ?_)
  refine W.widen (k := 72) (n := 449) (Nat.le_of_ble_eq_true rfl) (Nat.le_of_ble_eq_true rfl) ?_
  refine lv_dup hx hb dX2_init_32 rfl ?_
  obtain ⟨M9, hc, hF⟩ := ps_b1_some hF
  refine ps_backV (M' := M9) hS (ps_callIN C hW (host := "PullSaw") mf_X7_init tq_217 rfl (by decide +kernel) ⟨Nat.le_of_ble_eq_true rfl, Nat.le_of_ble_eq_true rfl⟩ rfl rfl (As := []) (rest := [.ref (B + av46), .int (14 : Int32), .ref (B + av45)]) (c_X7_init hc) rfl hl.1 rfl (Nat.le_of_ble_eq_true rfl) dX2_init_33 ⟨Nat.le_of_ble_eq_true rfl, Nat.le_of_ble_eq_true rfl⟩) (fun H locs hW hS => ?_)
  clear hc
  generalize M9 = M at hW hF
  refine W.widen (k := 76) (n := 465) (Nat.le_of_ble_eq_true rfl) (Nat.le_of_ble_eq_true rfl) ?_
  refine pw_xR C hW hS dX2_init_36 hF (fun M H locs hW hS hF => ?_)
  refine lv_iinc (v := 15) (lv' := [(1, .int (15 : Int32)), (0, .ref (B + a0))]) hx hb dX2_init_37 hl (k := 0) rfl (by decide) (by decide) rfl (fun ls hl => ?_)
  refine lv_goto (tgt := 15) hx hb dX2_init_40 (by decide) ?_
  refine lv_iload_n hx hb dX2_init_15 rfl (lv_at hl 0 rfl) ?_
  refine lv_aload_n hx hb dX2_init_16 rfl (lv_at hl 1 rfl) ?_
  refine pw_gR C hW pc_2 (k := 2) (by decide) rfl tq_294 dX2_init_17 hF (fun av47 hF => ?_)
  refine pw_aLc C hW (v := 30) (by decide) dX2_init_20 hF (fun hF => ?_)
  refine lv_icmp_ge (tgt := 43) hx hb dX2_init_21 (by decide) (fun h => absurd h (by decide)) (fun _ => ?_)
  refine lv_aload_n hx hb dX2_init_24 rfl (lv_at hl 1 rfl) ?_
  refine pw_gR C hW pc_2 (k := 2) (by decide) rfl tq_294 dX2_init_25 hF (fun av48 hF => ?_)
  refine lv_iload_n hx hb dX2_init_28 rfl (lv_at hl 0 rfl) ?_
  refine pw_nO C hW hS pc_6 tq_288 tq_215 tq_66 (Nat.le_of_ble_eq_true rfl) (Nat.le_of_ble_eq_true rfl) dX2_init_29 hF (fun M av49 H hW hS hF => ?_)
  refine W.widen (k := 77) (n := 478) (Nat.le_of_ble_eq_true rfl) (Nat.le_of_ble_eq_true rfl) ?_
  refine lv_dup hx hb dX2_init_32 rfl ?_
  obtain ⟨M9, hc, hF⟩ := ps_b1_some hF
  refine ps_backV (M' := M9) hS (ps_callIN C hW (host := "PullSaw") mf_X7_init tq_217 rfl (by decide +kernel) ⟨Nat.le_of_ble_eq_true rfl, Nat.le_of_ble_eq_true rfl⟩ rfl rfl (As := []) (rest := [.ref (B + av49), .int (15 : Int32), .ref (B + av48)]) (c_X7_init hc) rfl hl.1 rfl (Nat.le_of_ble_eq_true rfl) dX2_init_33 ⟨Nat.le_of_ble_eq_true rfl, Nat.le_of_ble_eq_true rfl⟩) (fun H locs hW hS => ?_)
  clear hc
  generalize M9 = M at hW hF
  refine W.widen (k := 81) (n := 494) (Nat.le_of_ble_eq_true rfl) (Nat.le_of_ble_eq_true rfl) ?_
  refine pw_xR C hW hS dX2_init_36 hF (fun M H locs hW hS hF => ?_)
  refine lv_iinc (v := 16) (lv' := [(1, .int (16 : Int32)), (0, .ref (B + a0))]) hx hb dX2_init_37 hl (k := 0) rfl (by decide) (by decide) rfl (fun ls hl => ?_)
  refine lv_goto (tgt := 15) hx hb dX2_init_40 (by decide) ?_
  refine lv_iload_n hx hb dX2_init_15 rfl (lv_at hl 0 rfl) ?_
  refine lv_aload_n hx hb dX2_init_16 rfl (lv_at hl 1 rfl) ?_
  refine pw_gR C hW pc_2 (k := 2) (by decide) rfl tq_294 dX2_init_17 hF (fun av50 hF => ?_)
  refine pw_aLc C hW (v := 30) (by decide) dX2_init_20 hF (fun hF => ?_)
  refine lv_icmp_ge (tgt := 43) hx hb dX2_init_21 (by decide) (fun h => absurd h (by decide)) (fun _ => ?_)
  refine lv_aload_n hx hb dX2_init_24 rfl (lv_at hl 1 rfl) ?_
  refine pw_gR C hW pc_2 (k := 2) (by decide) rfl tq_294 dX2_init_25 hF (fun av51 hF => ?_)
  refine lv_iload_n hx hb dX2_init_28 rfl (lv_at hl 0 rfl) ?_
  refine pw_nO C hW hS pc_6 tq_288 tq_215 tq_66 (Nat.le_of_ble_eq_true rfl) (Nat.le_of_ble_eq_true rfl) dX2_init_29 hF (fun M av52 H hW hS hF => ?_)
  refine W.widen (k := 82) (n := 507) (Nat.le_of_ble_eq_true rfl) (Nat.le_of_ble_eq_true rfl) ?_
  refine lv_dup hx hb dX2_init_32 rfl ?_
  obtain ⟨M9, hc, hF⟩ := ps_b1_some hF
  refine ps_backV (M' := M9) hS (ps_callIN C hW (host := "PullSaw") mf_X7_init tq_217 rfl (by decide +kernel) ⟨Nat.le_of_ble_eq_true rfl, Nat.le_of_ble_eq_true rfl⟩ rfl rfl (As := []) (rest := [.ref (B + av52), .int (16 : Int32), .ref (B + av51)]) (c_X7_init hc) rfl hl.1 rfl (Nat.le_of_ble_eq_true rfl) dX2_init_33 ⟨Nat.le_of_ble_eq_true rfl, Nat.le_of_ble_eq_true rfl⟩) (fun H locs hW hS => ?_)
  clear hc
  generalize M9 = M at hW hF
  refine W.widen (k := 86) (n := 523) (Nat.le_of_ble_eq_true rfl) (Nat.le_of_ble_eq_true rfl) ?_
  refine pw_xR C hW hS dX2_init_36 hF (fun M H locs hW hS hF => ?_)
  refine lv_iinc (v := 17) (lv' := [(1, .int (17 : Int32)), (0, .ref (B + a0))]) hx hb dX2_init_37 hl (k := 0) rfl (by decide) (by decide) rfl (fun ls hl => ?_)
  refine lv_goto (tgt := 15) hx hb dX2_init_40 (by decide) ?_
  refine lv_iload_n hx hb dX2_init_15 rfl (lv_at hl 0 rfl) ?_
  refine lv_aload_n hx hb dX2_init_16 rfl (lv_at hl 1 rfl) ?_
  refine pw_gR C hW pc_2 (k := 2) (by decide) rfl tq_294 dX2_init_17 hF (fun av53 hF => ?_)
  refine pw_aLc C hW (v := 30) (by decide) dX2_init_20 hF (fun hF => ?_)
  refine lv_icmp_ge (tgt := 43) hx hb dX2_init_21 (by decide) (fun h => absurd h (by decide)) (fun _ => ?_)
  refine lv_aload_n hx hb dX2_init_24 rfl (lv_at hl 1 rfl) ?_
  refine pw_gR C hW pc_2 (k := 2) (by decide) rfl tq_294 dX2_init_25 hF (fun av54 hF => ?_)
  refine lv_iload_n hx hb dX2_init_28 rfl (lv_at hl 0 rfl) ?_
  refine pw_nO C hW hS pc_6 tq_288 tq_215 tq_66 (Nat.le_of_ble_eq_true rfl) (Nat.le_of_ble_eq_true rfl) dX2_init_29 hF (fun M av55 H hW hS hF => ?_)
  refine W.widen (k := 87) (n := 536) (Nat.le_of_ble_eq_true rfl) (Nat.le_of_ble_eq_true rfl) ?_
  refine lv_dup hx hb dX2_init_32 rfl ?_
  obtain ⟨M9, hc, hF⟩ := ps_b1_some hF
  refine ps_backV (M' := M9) hS (ps_callIN C hW (host := "PullSaw") mf_X7_init tq_217 rfl (by decide +kernel) ⟨Nat.le_of_ble_eq_true rfl, Nat.le_of_ble_eq_true rfl⟩ rfl rfl (As := []) (rest := [.ref (B + av55), .int (17 : Int32), .ref (B + av54)]) (c_X7_init hc) rfl hl.1 rfl (Nat.le_of_ble_eq_true rfl) dX2_init_33 ⟨Nat.le_of_ble_eq_true rfl, Nat.le_of_ble_eq_true rfl⟩) (fun H locs hW hS => ?_)
  clear hc
  generalize M9 = M at hW hF
  refine W.widen (k := 91) (n := 552) (Nat.le_of_ble_eq_true rfl) (Nat.le_of_ble_eq_true rfl) ?_
  refine pw_xR C hW hS dX2_init_36 hF (fun M H locs hW hS hF => ?_)
  refine lv_iinc (v := 18) (lv' := [(1, .int (18 : Int32)), (0, .ref (B + a0))]) hx hb dX2_init_37 hl (k := 0) rfl (by decide) (by decide) rfl (fun ls hl => ?_)
  refine lv_goto (tgt := 15) hx hb dX2_init_40 (by decide) ?_
  refine lv_iload_n hx hb dX2_init_15 rfl (lv_at hl 0 rfl) ?_
  refine lv_aload_n hx hb dX2_init_16 rfl (lv_at hl 1 rfl) ?_
  refine pw_gR C hW pc_2 (k := 2) (by decide) rfl tq_294 dX2_init_17 hF (fun av56 hF => ?_)
  refine pw_aLc C hW (v := 30) (by decide) dX2_init_20 hF (fun hF => ?_)
  refine lv_icmp_ge (tgt := 43) hx hb dX2_init_21 (by decide) (fun h => absurd h (by decide)) (fun _ => ?_)
  refine lv_aload_n hx hb dX2_init_24 rfl (lv_at hl 1 rfl) ?_
  refine pw_gR C hW pc_2 (k := 2) (by decide) rfl tq_294 dX2_init_25 hF (fun av57 hF => ?_)
  refine lv_iload_n hx hb dX2_init_28 rfl (lv_at hl 0 rfl) ?_
  refine pw_nO C hW hS pc_6 tq_288 tq_215 tq_66 (Nat.le_of_ble_eq_true rfl) (Nat.le_of_ble_eq_true rfl) dX2_init_29 hF (fun M av58 H hW hS hF => ?_)
  refine W.widen (k := 92) (n := 565) (Nat.le_of_ble_eq_true rfl) (Nat.le_of_ble_eq_true rfl) ?_
  refine lv_dup hx hb dX2_init_32 rfl ?_
  obtain ⟨M9, hc, hF⟩ := ps_b1_some hF
  refine ps_backV (M' := M9) hS (ps_callIN C hW (host := "PullSaw") mf_X7_init tq_217 rfl (by decide +kernel) ⟨Nat.le_of_ble_eq_true rfl, Nat.le_of_ble_eq_true rfl⟩ rfl rfl (As := []) (rest := [.ref (B + av58), .int (18 : Int32), .ref (B + av57)]) (c_X7_init hc) rfl hl.1 rfl (Nat.le_of_ble_eq_true rfl) dX2_init_33 ⟨Nat.le_of_ble_eq_true rfl, Nat.le_of_ble_eq_true rfl⟩) (fun H locs hW hS => ?_)
  clear hc
  generalize M9 = M at hW hF
  refine W.widen (k := 96) (n := 581) (Nat.le_of_ble_eq_true rfl) (Nat.le_of_ble_eq_true rfl) ?_
  refine pw_xR C hW hS dX2_init_36 hF (fun M H locs hW hS hF => ?_)
  refine lv_iinc (v := 19) (lv' := [(1, .int (19 : Int32)), (0, .ref (B + a0))]) hx hb dX2_init_37 hl (k := 0) rfl (by decide) (by decide) rfl (fun ls hl => ?_)
  refine lv_goto (tgt := 15) hx hb dX2_init_40 (by decide) ?_
  refine lv_iload_n hx hb dX2_init_15 rfl (lv_at hl 0 rfl) ?_
  refine lv_aload_n hx hb dX2_init_16 rfl (lv_at hl 1 rfl) ?_
  refine pw_gR C hW pc_2 (k := 2) (by decide) rfl tq_294 dX2_init_17 hF (fun av59 hF => ?_)
  refine pw_aLc C hW (v := 30) (by decide) dX2_init_20 hF (fun hF => ?_)
  refine lv_icmp_ge (tgt := 43) hx hb dX2_init_21 (by decide) (fun h => absurd h (by decide)) (fun _ => ?_)
  refine lv_aload_n hx hb dX2_init_24 rfl (lv_at hl 1 rfl) ?_
  refine pw_gR C hW pc_2 (k := 2) (by decide) rfl tq_294 dX2_init_25 hF (fun av60 hF => ?_)
  refine lv_iload_n hx hb dX2_init_28 rfl (lv_at hl 0 rfl) ?_
  refine pw_nO C hW hS pc_6 tq_288 tq_215 tq_66 (Nat.le_of_ble_eq_true rfl) (Nat.le_of_ble_eq_true rfl) dX2_init_29 hF (fun M av61 H hW hS hF => ?_)
  refine W.widen (k := 97) (n := 594) (Nat.le_of_ble_eq_true rfl) (Nat.le_of_ble_eq_true rfl) ?_
  refine lv_dup hx hb dX2_init_32 rfl ?_
  obtain ⟨M9, hc, hF⟩ := ps_b1_some hF
  refine ps_backV (M' := M9) hS (ps_callIN C hW (host := "PullSaw") mf_X7_init tq_217 rfl (by decide +kernel) ⟨Nat.le_of_ble_eq_true rfl, Nat.le_of_ble_eq_true rfl⟩ rfl rfl (As := []) (rest := [.ref (B + av61), .int (19 : Int32), .ref (B + av60)]) (c_X7_init hc) rfl hl.1 rfl (Nat.le_of_ble_eq_true rfl) dX2_init_33 ⟨Nat.le_of_ble_eq_true rfl, Nat.le_of_ble_eq_true rfl⟩) (fun H locs hW hS => ?_)
  clear hc
  generalize M9 = M at hW hF
  refine W.widen (k := 101) (n := 610) (Nat.le_of_ble_eq_true rfl) (Nat.le_of_ble_eq_true rfl) ?_
  refine pw_xR C hW hS dX2_init_36 hF (fun M H locs hW hS hF => ?_)
  refine lv_iinc (v := 20) (lv' := [(1, .int (20 : Int32)), (0, .ref (B + a0))]) hx hb dX2_init_37 hl (k := 0) rfl (by decide) (by decide) rfl (fun ls hl => ?_)
  refine lv_goto (tgt := 15) hx hb dX2_init_40 (by decide) ?_
  refine lv_iload_n hx hb dX2_init_15 rfl (lv_at hl 0 rfl) ?_
  refine lv_aload_n hx hb dX2_init_16 rfl (lv_at hl 1 rfl) ?_
  refine pw_gR C hW pc_2 (k := 2) (by decide) rfl tq_294 dX2_init_17 hF (fun av62 hF => ?_)
  refine pw_aLc C hW (v := 30) (by decide) dX2_init_20 hF (fun hF => ?_)
  refine lv_icmp_ge (tgt := 43) hx hb dX2_init_21 (by decide) (fun h => absurd h (by decide)) (fun _ => ?_)
  refine lv_aload_n hx hb dX2_init_24 rfl (lv_at hl 1 rfl) ?_
  refine pw_gR C hW pc_2 (k := 2) (by decide) rfl tq_294 dX2_init_25 hF (fun av63 hF => ?_)
  refine lv_iload_n hx hb dX2_init_28 rfl (lv_at hl 0 rfl) ?_
  refine pw_nO C hW hS pc_6 tq_288 tq_215 tq_66 (Nat.le_of_ble_eq_true rfl) (Nat.le_of_ble_eq_true rfl) dX2_init_29 hF (fun M av64 H hW hS hF => ?_)
  refine W.widen (k := 102) (n := 623) (Nat.le_of_ble_eq_true rfl) (Nat.le_of_ble_eq_true rfl) ?_
  refine lv_dup hx hb dX2_init_32 rfl ?_
  obtain ⟨M9, hc, hF⟩ := ps_b1_some hF
  refine ps_backV (M' := M9) hS (ps_callIN C hW (host := "PullSaw") mf_X7_init tq_217 rfl (by decide +kernel) ⟨Nat.le_of_ble_eq_true rfl, Nat.le_of_ble_eq_true rfl⟩ rfl rfl (As := []) (rest := [.ref (B + av64), .int (20 : Int32), .ref (B + av63)]) (c_X7_init hc) rfl hl.1 rfl (Nat.le_of_ble_eq_true rfl) dX2_init_33 ⟨Nat.le_of_ble_eq_true rfl, Nat.le_of_ble_eq_true rfl⟩) (fun H locs hW hS => ?_)
  clear hc
  generalize M9 = M at hW hF
  refine W.widen (k := 106) (n := 639) (Nat.le_of_ble_eq_true rfl) (Nat.le_of_ble_eq_true rfl) ?_
  refine pw_xR C hW hS dX2_init_36 hF (fun M H locs hW hS hF => ?_)
  refine lv_iinc (v := 21) (lv' := [(1, .int (21 : Int32)), (0, .ref (B + a0))]) hx hb dX2_init_37 hl (k := 0) rfl (by decide) (by decide) rfl (fun ls hl => ?_)
  refine lv_goto (tgt := 15) hx hb dX2_init_40 (by decide) ?_
  refine lv_iload_n hx hb dX2_init_15 rfl (lv_at hl 0 rfl) ?_
  refine lv_aload_n hx hb dX2_init_16 rfl (lv_at hl 1 rfl) ?_
  refine pw_gR C hW pc_2 (k := 2) (by decide) rfl tq_294 dX2_init_17 hF (fun av65 hF => ?_)
  refine pw_aLc C hW (v := 30) (by decide) dX2_init_20 hF (fun hF => ?_)
  refine lv_icmp_ge (tgt := 43) hx hb dX2_init_21 (by decide) (fun h => absurd h (by decide)) (fun _ => ?_)
  refine lv_aload_n hx hb dX2_init_24 rfl (lv_at hl 1 rfl) ?_
  refine pw_gR C hW pc_2 (k := 2) (by decide) rfl tq_294 dX2_init_25 hF (fun av66 hF => ?_)
  refine lv_iload_n hx hb dX2_init_28 rfl (lv_at hl 0 rfl) ?_
  refine pw_nO C hW hS pc_6 tq_288 tq_215 tq_66 (Nat.le_of_ble_eq_true rfl) (Nat.le_of_ble_eq_true rfl) dX2_init_29 hF (fun M av67 H hW hS hF => ?_)
  refine W.widen (k := 107) (n := 652) (Nat.le_of_ble_eq_true rfl) (Nat.le_of_ble_eq_true rfl) ?_
  refine lv_dup hx hb dX2_init_32 rfl ?_
  obtain ⟨M9, hc, hF⟩ := ps_b1_some hF
  refine ps_backV (M' := M9) hS (ps_callIN C hW (host := "PullSaw") mf_X7_init tq_217 rfl (by decide +kernel) ⟨Nat.le_of_ble_eq_true rfl, Nat.le_of_ble_eq_true rfl⟩ rfl rfl (As := []) (rest := [.ref (B + av67), .int (21 : Int32), .ref (B + av66)]) (c_X7_init hc) rfl hl.1 rfl (Nat.le_of_ble_eq_true rfl) dX2_init_33 ⟨Nat.le_of_ble_eq_true rfl, Nat.le_of_ble_eq_true rfl⟩) (fun H locs hW hS => ?_)
  clear hc
  generalize M9 = M at hW hF
  refine W.widen (k := 111) (n := 668) (Nat.le_of_ble_eq_true rfl) (Nat.le_of_ble_eq_true rfl) ?_
  refine pw_xR C hW hS dX2_init_36 hF (fun M H locs hW hS hF => ?_)
  refine lv_iinc (v := 22) (lv' := [(1, .int (22 : Int32)), (0, .ref (B + a0))]) hx hb dX2_init_37 hl (k := 0) rfl (by decide) (by decide) rfl (fun ls hl => ?_)
  refine lv_goto (tgt := 15) hx hb dX2_init_40 (by decide) ?_
  refine lv_iload_n hx hb dX2_init_15 rfl (lv_at hl 0 rfl) ?_
  refine lv_aload_n hx hb dX2_init_16 rfl (lv_at hl 1 rfl) ?_
  refine pw_gR C hW pc_2 (k := 2) (by decide) rfl tq_294 dX2_init_17 hF (fun av68 hF => ?_)
  refine pw_aLc C hW (v := 30) (by decide) dX2_init_20 hF (fun hF => ?_)
  refine lv_icmp_ge (tgt := 43) hx hb dX2_init_21 (by decide) (fun h => absurd h (by decide)) (fun _ => ?_)
  refine lv_aload_n hx hb dX2_init_24 rfl (lv_at hl 1 rfl) ?_
  refine pw_gR C hW pc_2 (k := 2) (by decide) rfl tq_294 dX2_init_25 hF (fun av69 hF => ?_)
  refine lv_iload_n hx hb dX2_init_28 rfl (lv_at hl 0 rfl) ?_
  refine pw_nO C hW hS pc_6 tq_288 tq_215 tq_66 (Nat.le_of_ble_eq_true rfl) (Nat.le_of_ble_eq_true rfl) dX2_init_29 hF (fun M av70 H hW hS hF => ?_)
  refine W.widen (k := 112) (n := 681) (Nat.le_of_ble_eq_true rfl) (Nat.le_of_ble_eq_true rfl) ?_
  refine lv_dup hx hb dX2_init_32 rfl ?_
  obtain ⟨M9, hc, hF⟩ := ps_b1_some hF
  refine ps_backV (M' := M9) hS (ps_callIN C hW (host := "PullSaw") mf_X7_init tq_217 rfl (by decide +kernel) ⟨Nat.le_of_ble_eq_true rfl, Nat.le_of_ble_eq_true rfl⟩ rfl rfl (As := []) (rest := [.ref (B + av70), .int (22 : Int32), .ref (B + av69)]) (c_X7_init hc) rfl hl.1 rfl (Nat.le_of_ble_eq_true rfl) dX2_init_33 ⟨Nat.le_of_ble_eq_true rfl, Nat.le_of_ble_eq_true rfl⟩) (fun H locs hW hS => ?_)
  clear hc
  generalize M9 = M at hW hF
  refine W.widen (k := 116) (n := 697) (Nat.le_of_ble_eq_true rfl) (Nat.le_of_ble_eq_true rfl) ?_
  refine pw_xR C hW hS dX2_init_36 hF (fun M H locs hW hS hF => ?_)
  refine lv_iinc (v := 23) (lv' := [(1, .int (23 : Int32)), (0, .ref (B + a0))]) hx hb dX2_init_37 hl (k := 0) rfl (by decide) (by decide) rfl (fun ls hl => ?_)
  refine lv_goto (tgt := 15) hx hb dX2_init_40 (by decide) ?_
  refine lv_iload_n hx hb dX2_init_15 rfl (lv_at hl 0 rfl) ?_
  refine lv_aload_n hx hb dX2_init_16 rfl (lv_at hl 1 rfl) ?_
  refine pw_gR C hW pc_2 (k := 2) (by decide) rfl tq_294 dX2_init_17 hF (fun av71 hF => ?_)
  refine pw_aLc C hW (v := 30) (by decide) dX2_init_20 hF (fun hF => ?_)
  refine lv_icmp_ge (tgt := 43) hx hb dX2_init_21 (by decide) (fun h => absurd h (by decide)) (fun _ => ?_)
  refine lv_aload_n hx hb dX2_init_24 rfl (lv_at hl 1 rfl) ?_
  refine pw_gR C hW pc_2 (k := 2) (by decide) rfl tq_294 dX2_init_25 hF (fun av72 hF => ?_)
  refine lv_iload_n hx hb dX2_init_28 rfl (lv_at hl 0 rfl) ?_
  refine pw_nO C hW hS pc_6 tq_288 tq_215 tq_66 (Nat.le_of_ble_eq_true rfl) (Nat.le_of_ble_eq_true rfl) dX2_init_29 hF (fun M av73 H hW hS hF => ?_)
  refine W.widen (k := 117) (n := 710) (Nat.le_of_ble_eq_true rfl) (Nat.le_of_ble_eq_true rfl) ?_
  refine lv_dup hx hb dX2_init_32 rfl ?_
  obtain ⟨M9, hc, hF⟩ := ps_b1_some hF
  refine ps_backV (M' := M9) hS (ps_callIN C hW (host := "PullSaw") mf_X7_init tq_217 rfl (by decide +kernel) ⟨Nat.le_of_ble_eq_true rfl, Nat.le_of_ble_eq_true rfl⟩ rfl rfl (As := []) (rest := [.ref (B + av73), .int (23 : Int32), .ref (B + av72)]) (c_X7_init hc) rfl hl.1 rfl (Nat.le_of_ble_eq_true rfl) dX2_init_33 ⟨Nat.le_of_ble_eq_true rfl, Nat.le_of_ble_eq_true rfl⟩) (fun H locs hW hS => ?_)
  clear hc
  generalize M9 = M at hW hF
  refine W.widen (k := 121) (n := 726) (Nat.le_of_ble_eq_true rfl) (Nat.le_of_ble_eq_true rfl) ?_
  refine pw_xR C hW hS dX2_init_36 hF (fun M H locs hW hS hF => ?_)
  refine lv_iinc (v := 24) (lv' := [(1, .int (24 : Int32)), (0, .ref (B + a0))]) hx hb dX2_init_37 hl (k := 0) rfl (by decide) (by decide) rfl (fun ls hl => ?_)
  refine lv_goto (tgt := 15) hx hb dX2_init_40 (by decide) ?_
  refine lv_iload_n hx hb dX2_init_15 rfl (lv_at hl 0 rfl) ?_
  refine lv_aload_n hx hb dX2_init_16 rfl (lv_at hl 1 rfl) ?_
  refine pw_gR C hW pc_2 (k := 2) (by decide) rfl tq_294 dX2_init_17 hF (fun av74 hF => ?_)
  refine pw_aLc C hW (v := 30) (by decide) dX2_init_20 hF (fun hF => ?_)
  refine lv_icmp_ge (tgt := 43) hx hb dX2_init_21 (by decide) (fun h => absurd h (by decide)) (fun _ => ?_)
  refine lv_aload_n hx hb dX2_init_24 rfl (lv_at hl 1 rfl) ?_
  refine pw_gR C hW pc_2 (k := 2) (by decide) rfl tq_294 dX2_init_25 hF (fun av75 hF => ?_)
  refine lv_iload_n hx hb dX2_init_28 rfl (lv_at hl 0 rfl) ?_
  refine pw_nO C hW hS pc_6 tq_288 tq_215 tq_66 (Nat.le_of_ble_eq_true rfl) (Nat.le_of_ble_eq_true rfl) dX2_init_29 hF (fun M av76 H hW hS hF => ?_)
  refine W.widen (k := 122) (n := 739) (Nat.le_of_ble_eq_true rfl) (Nat.le_of_ble_eq_true rfl) ?_
  refine lv_dup hx hb dX2_init_32 rfl ?_
  obtain ⟨M9, hc, hF⟩ := ps_b1_some hF
  refine ps_backV (M' := M9) hS (ps_callIN C hW (host := "PullSaw") mf_X7_init tq_217 rfl (by decide +kernel) ⟨Nat.le_of_ble_eq_true rfl, Nat.le_of_ble_eq_true rfl⟩ rfl rfl (As := []) (rest := [.ref (B + av76), .int (24 : Int32), .ref (B + av75)]) (c_X7_init hc) rfl hl.1 rfl (Nat.le_of_ble_eq_true rfl) dX2_init_33 ⟨Nat.le_of_ble_eq_true rfl, Nat.le_of_ble_eq_true rfl⟩) (fun H locs hW hS => ?_)
  clear hc
  generalize M9 = M at hW hF
  refine W.widen (k := 126) (n := 755) (Nat.le_of_ble_eq_true rfl) (Nat.le_of_ble_eq_true rfl) ?_
  refine pw_xR C hW hS dX2_init_36 hF (fun M H locs hW hS hF => ?_)
  refine lv_iinc (v := 25) (lv' := [(1, .int (25 : Int32)), (0, .ref (B + a0))]) hx hb dX2_init_37 hl (k := 0) rfl (by decide) (by decide) rfl (fun ls hl => ?_)
  refine lv_goto (tgt := 15) hx hb dX2_init_40 (by decide) ?_
  refine lv_iload_n hx hb dX2_init_15 rfl (lv_at hl 0 rfl) ?_
  refine lv_aload_n hx hb dX2_init_16 rfl (lv_at hl 1 rfl) ?_
  refine pw_gR C hW pc_2 (k := 2) (by decide) rfl tq_294 dX2_init_17 hF (fun av77 hF => ?_)
  refine pw_aLc C hW (v := 30) (by decide) dX2_init_20 hF (fun hF => ?_)
  refine lv_icmp_ge (tgt := 43) hx hb dX2_init_21 (by decide) (fun h => absurd h (by decide)) (fun _ => ?_)
  refine lv_aload_n hx hb dX2_init_24 rfl (lv_at hl 1 rfl) ?_
  refine pw_gR C hW pc_2 (k := 2) (by decide) rfl tq_294 dX2_init_25 hF (fun av78 hF => ?_)
  refine lv_iload_n hx hb dX2_init_28 rfl (lv_at hl 0 rfl) ?_
  refine pw_nO C hW hS pc_6 tq_288 tq_215 tq_66 (Nat.le_of_ble_eq_true rfl) (Nat.le_of_ble_eq_true rfl) dX2_init_29 hF (fun M av79 H hW hS hF => ?_)
  refine W.widen (k := 127) (n := 768) (Nat.le_of_ble_eq_true rfl) (Nat.le_of_ble_eq_true rfl) ?_
  refine lv_dup hx hb dX2_init_32 rfl ?_
  obtain ⟨M9, hc, hF⟩ := ps_b1_some hF
  refine ps_backV (M' := M9) hS (ps_callIN C hW (host := "PullSaw") mf_X7_init tq_217 rfl (by decide +kernel) ⟨Nat.le_of_ble_eq_true rfl, Nat.le_of_ble_eq_true rfl⟩ rfl rfl (As := []) (rest := [.ref (B + av79), .int (25 : Int32), .ref (B + av78)]) (c_X7_init hc) rfl hl.1 rfl (Nat.le_of_ble_eq_true rfl) dX2_init_33 ⟨Nat.le_of_ble_eq_true rfl, Nat.le_of_ble_eq_true rfl⟩) (fun H locs hW hS => ?_)
  clear hc
  generalize M9 = M at hW hF
  refine W.widen (k := 131) (n := 784) (Nat.le_of_ble_eq_true rfl) (Nat.le_of_ble_eq_true rfl) ?_
  refine pw_xR C hW hS dX2_init_36 hF (fun M H locs hW hS hF => ?_)
  refine lv_iinc (v := 26) (lv' := [(1, .int (26 : Int32)), (0, .ref (B + a0))]) hx hb dX2_init_37 hl (k := 0) rfl (by decide) (by decide) rfl (fun ls hl => ?_)
  refine lv_goto (tgt := 15) hx hb dX2_init_40 (by decide) ?_
  refine lv_iload_n hx hb dX2_init_15 rfl (lv_at hl 0 rfl) ?_
  refine lv_aload_n hx hb dX2_init_16 rfl (lv_at hl 1 rfl) ?_
  refine pw_gR C hW pc_2 (k := 2) (by decide) rfl tq_294 dX2_init_17 hF (fun av80 hF => ?_)
  refine pw_aLc C hW (v := 30) (by decide) dX2_init_20 hF (fun hF => ?_)
  refine lv_icmp_ge (tgt := 43) hx hb dX2_init_21 (by decide) (fun h => absurd h (by decide)) (fun _ => ?_)
  refine lv_aload_n hx hb dX2_init_24 rfl (lv_at hl 1 rfl) ?_
  refine pw_gR C hW pc_2 (k := 2) (by decide) rfl tq_294 dX2_init_25 hF (fun av81 hF => ?_)
  refine lv_iload_n hx hb dX2_init_28 rfl (lv_at hl 0 rfl) ?_
  refine pw_nO C hW hS pc_6 tq_288 tq_215 tq_66 (Nat.le_of_ble_eq_true rfl) (Nat.le_of_ble_eq_true rfl) dX2_init_29 hF (fun M av82 H hW hS hF => ?_)
  refine W.widen (k := 132) (n := 797) (Nat.le_of_ble_eq_true rfl) (Nat.le_of_ble_eq_true rfl) ?_
  refine lv_dup hx hb dX2_init_32 rfl ?_
  obtain ⟨M9, hc, hF⟩ := ps_b1_some hF
  refine ps_backV (M' := M9) hS (ps_callIN C hW (host := "PullSaw") mf_X7_init tq_217 rfl (by decide +kernel) ⟨Nat.le_of_ble_eq_true rfl, Nat.le_of_ble_eq_true rfl⟩ rfl rfl (As := []) (rest := [.ref (B + av82), .int (26 : Int32), .ref (B + av81)]) (c_X7_init hc) rfl hl.1 rfl (Nat.le_of_ble_eq_true rfl) dX2_init_33 ⟨Nat.le_of_ble_eq_true rfl, Nat.le_of_ble_eq_true rfl⟩) (fun H locs hW hS => ?_)
  clear hc
  generalize M9 = M at hW hF
  refine W.widen (k := 136) (n := 813) (Nat.le_of_ble_eq_true rfl) (Nat.le_of_ble_eq_true rfl) ?_
  refine pw_xR C hW hS dX2_init_36 hF (fun M H locs hW hS hF => ?_)
  refine lv_iinc (v := 27) (lv' := [(1, .int (27 : Int32)), (0, .ref (B + a0))]) hx hb dX2_init_37 hl (k := 0) rfl (by decide) (by decide) rfl (fun ls hl => ?_)
  refine lv_goto (tgt := 15) hx hb dX2_init_40 (by decide) ?_
  refine lv_iload_n hx hb dX2_init_15 rfl (lv_at hl 0 rfl) ?_
  refine lv_aload_n hx hb dX2_init_16 rfl (lv_at hl 1 rfl) ?_
  refine pw_gR C hW pc_2 (k := 2) (by decide) rfl tq_294 dX2_init_17 hF (fun av83 hF => ?_)
  refine pw_aLc C hW (v := 30) (by decide) dX2_init_20 hF (fun hF => ?_)
  refine lv_icmp_ge (tgt := 43) hx hb dX2_init_21 (by decide) (fun h => absurd h (by decide)) (fun _ => ?_)
  refine lv_aload_n hx hb dX2_init_24 rfl (lv_at hl 1 rfl) ?_
  refine pw_gR C hW pc_2 (k := 2) (by decide) rfl tq_294 dX2_init_25 hF (fun av84 hF => ?_)
  refine lv_iload_n hx hb dX2_init_28 rfl (lv_at hl 0 rfl) ?_
  refine pw_nO C hW hS pc_6 tq_288 tq_215 tq_66 (Nat.le_of_ble_eq_true rfl) (Nat.le_of_ble_eq_true rfl) dX2_init_29 hF (fun M av85 H hW hS hF => ?_)
  refine W.widen (k := 137) (n := 826) (Nat.le_of_ble_eq_true rfl) (Nat.le_of_ble_eq_true rfl) ?_
  refine lv_dup hx hb dX2_init_32 rfl ?_
  obtain ⟨M9, hc, hF⟩ := ps_b1_some hF
  refine ps_backV (M' := M9) hS (ps_callIN C hW (host := "PullSaw") mf_X7_init tq_217 rfl (by decide +kernel) ⟨Nat.le_of_ble_eq_true rfl, Nat.le_of_ble_eq_true rfl⟩ rfl rfl (As := []) (rest := [.ref (B + av85), .int (27 : Int32), .ref (B + av84)]) (c_X7_init hc) rfl hl.1 rfl (Nat.le_of_ble_eq_true rfl) dX2_init_33 ⟨Nat.le_of_ble_eq_true rfl, Nat.le_of_ble_eq_true rfl⟩) (fun H locs hW hS => ?_)
  clear hc
  generalize M9 = M at hW hF
  refine W.widen (k := 141) (n := 842) (Nat.le_of_ble_eq_true rfl) (Nat.le_of_ble_eq_true rfl) ?_
  refine pw_xR C hW hS dX2_init_36 hF (fun M H locs hW hS hF => ?_)
  refine lv_iinc (v := 28) (lv' := [(1, .int (28 : Int32)), (0, .ref (B + a0))]) hx hb dX2_init_37 hl (k := 0) rfl (by decide) (by decide) rfl (fun ls hl => ?_)
  refine lv_goto (tgt := 15) hx hb dX2_init_40 (by decide) ?_
  refine lv_iload_n hx hb dX2_init_15 rfl (lv_at hl 0 rfl) ?_
  refine lv_aload_n hx hb dX2_init_16 rfl (lv_at hl 1 rfl) ?_
  refine pw_gR C hW pc_2 (k := 2) (by decide) rfl tq_294 dX2_init_17 hF (fun av86 hF => ?_)
  refine pw_aLc C hW (v := 30) (by decide) dX2_init_20 hF (fun hF => ?_)
  refine lv_icmp_ge (tgt := 43) hx hb dX2_init_21 (by decide) (fun h => absurd h (by decide)) (fun _ => ?_)
  refine lv_aload_n hx hb dX2_init_24 rfl (lv_at hl 1 rfl) ?_
  refine pw_gR C hW pc_2 (k := 2) (by decide) rfl tq_294 dX2_init_25 hF (fun av87 hF => ?_)
  refine lv_iload_n hx hb dX2_init_28 rfl (lv_at hl 0 rfl) ?_
  refine pw_nO C hW hS pc_6 tq_288 tq_215 tq_66 (Nat.le_of_ble_eq_true rfl) (Nat.le_of_ble_eq_true rfl) dX2_init_29 hF (fun M av88 H hW hS hF => ?_)
  refine W.widen (k := 142) (n := 855) (Nat.le_of_ble_eq_true rfl) (Nat.le_of_ble_eq_true rfl) ?_
  refine lv_dup hx hb dX2_init_32 rfl ?_
  obtain ⟨M9, hc, hF⟩ := ps_b1_some hF
  refine ps_backV (M' := M9) hS (ps_callIN C hW (host := "PullSaw") mf_X7_init tq_217 rfl (by decide +kernel) ⟨Nat.le_of_ble_eq_true rfl, Nat.le_of_ble_eq_true rfl⟩ rfl rfl (As := []) (rest := [.ref (B + av88), .int (28 : Int32), .ref (B + av87)]) (c_X7_init hc) rfl hl.1 rfl (Nat.le_of_ble_eq_true rfl) dX2_init_33 ⟨Nat.le_of_ble_eq_true rfl, Nat.le_of_ble_eq_true rfl⟩) (fun H locs hW hS => ?_)
  clear hc
  generalize M9 = M at hW hF
  refine W.widen (k := 146) (n := 871) (Nat.le_of_ble_eq_true rfl) (Nat.le_of_ble_eq_true rfl) ?_
  refine pw_xR C hW hS dX2_init_36 hF (fun M H locs hW hS hF => ?_)
  refine lv_iinc (v := 29) (lv' := [(1, .int (29 : Int32)), (0, .ref (B + a0))]) hx hb dX2_init_37 hl (k := 0) rfl (by decide) (by decide) rfl (fun ls hl => ?_)
  refine lv_goto (tgt := 15) hx hb dX2_init_40 (by decide) ?_
  refine lv_iload_n hx hb dX2_init_15 rfl (lv_at hl 0 rfl) ?_
  refine lv_aload_n hx hb dX2_init_16 rfl (lv_at hl 1 rfl) ?_
  refine pw_gR C hW pc_2 (k := 2) (by decide) rfl tq_294 dX2_init_17 hF (fun av89 hF => ?_)
  refine pw_aLc C hW (v := 30) (by decide) dX2_init_20 hF (fun hF => ?_)
  refine lv_icmp_ge (tgt := 43) hx hb dX2_init_21 (by decide) (fun h => absurd h (by decide)) (fun _ => ?_)
  refine lv_aload_n hx hb dX2_init_24 rfl (lv_at hl 1 rfl) ?_
  refine pw_gR C hW pc_2 (k := 2) (by decide) rfl tq_294 dX2_init_25 hF (fun av90 hF => ?_)
  refine lv_iload_n hx hb dX2_init_28 rfl (lv_at hl 0 rfl) ?_
  refine pw_nO C hW hS pc_6 tq_288 tq_215 tq_66 (Nat.le_of_ble_eq_true rfl) (Nat.le_of_ble_eq_true rfl) dX2_init_29 hF (fun M av91 H hW hS hF => ?_)
  refine W.widen (k := 147) (n := 884) (Nat.le_of_ble_eq_true rfl) (Nat.le_of_ble_eq_true rfl) ?_
  refine lv_dup hx hb dX2_init_32 rfl ?_
  obtain ⟨M9, hc, hF⟩ := ps_b1_some hF
  refine ps_backV (M' := M9) hS (ps_callIN C hW (host := "PullSaw") mf_X7_init tq_217 rfl (by decide +kernel) ⟨Nat.le_of_ble_eq_true rfl, Nat.le_of_ble_eq_true rfl⟩ rfl rfl (As := []) (rest := [.ref (B + av91), .int (29 : Int32), .ref (B + av90)]) (c_X7_init hc) rfl hl.1 rfl (Nat.le_of_ble_eq_true rfl) dX2_init_33 ⟨Nat.le_of_ble_eq_true rfl, Nat.le_of_ble_eq_true rfl⟩) (fun H locs hW hS => ?_)
  clear hc
  generalize M9 = M at hW hF
  refine W.widen (k := 151) (n := 900) (Nat.le_of_ble_eq_true rfl) (Nat.le_of_ble_eq_true rfl) ?_
  refine pw_xR C hW hS dX2_init_36 hF (fun M H locs hW hS hF => ?_)
  refine lv_iinc (v := 30) (lv' := [(1, .int (30 : Int32)), (0, .ref (B + a0))]) hx hb dX2_init_37 hl (k := 0) rfl (by decide) (by decide) rfl (fun ls hl => ?_)
  refine lv_goto (tgt := 15) hx hb dX2_init_40 (by decide) ?_
  refine lv_iload_n hx hb dX2_init_15 rfl (lv_at hl 0 rfl) ?_
  refine lv_aload_n hx hb dX2_init_16 rfl (lv_at hl 1 rfl) ?_
  refine pw_gR C hW pc_2 (k := 2) (by decide) rfl tq_294 dX2_init_17 hF (fun av92 hF => ?_)
  refine pw_aLc C hW (v := 30) (by decide) dX2_init_20 hF (fun hF => ?_)
  refine lv_icmp_ge (tgt := 43) hx hb dX2_init_21 (by decide) (fun _ => ?_) (fun h => absurd (by decide) h)
  exact pw_vret C hW hS dX2_init_43 hF
theorem mf_X2_init : ps_mf yX2_init cX2_init 2 none 0 := ⟨tq_286, tq_67, by decide +kernel, by decide +kernel, by decide +kernel⟩
theorem c_X2_init {l : Launch} {D : va_G} {Y : ps_A} {B : Nat} {M : ps_M} {a0 : Nat} {M' : ps_M} (hF : f_X2_init M a0 = some M') : Met l yX2_init (Cond.code yX2_init cX2_init 2 none :: tb_G) rm_X2_init (ps_PB D Y B M [.ref (B + a0)]) (va_Qv (fun (_ : Unit) => True) (fun _ t => ps_St D Y B M' t) (fun q => B ≤ q)) 151 900 (fun q => B ≤ q) :=
  pm_of (by decide +kernel) (Nat.le_of_ble_eq_true rfl) (fun p e s m args below meth c C hW hS ls hl => kb_X2_init C hF hW hS hl)

abbrev rm_X6_init : Room := { frames := 2, cells := 10, slots := 58, locals := 41 }
set_option maxRecDepth 100000 in
def f_X6_init (M : ps_M) (a0 : Nat) : Option ps_M := ps_nO M 6 (fun M av1 => ps_b1 (f_X7_init M av1) (fun M => ps_pR M a0 5 8 av1 (fun M => ps_nO M 6 (fun M av2 => ps_b1 (f_X7_init M av2) (fun M => ps_pR M a0 5 9 av2 (fun M => some M))))))
set_option maxRecDepth 100000 in
set_option maxHeartbeats 4000000 in
theorem kb_X6_init (C : ps_C p s m args meth c cX6_init 1 RX6 none "<init>" D Y B) {q : ps_M} {M : ps_M} {a0 : Nat} (hF : f_X6_init M a0 = some q) (hW : ps_W D Y B M H) (hS : va_S (fun q => B ≤ q) s.heap H locs) (hl : lv_has ls 1 [(0, .ref (B + a0))]) : W p l e rm_X6_init s m args below meth c H locs 0 0 (ps_Qv D Y B below args s 10 58 q) (F0 m 0 ls []) := by
  have hx := C.1
  have hb := C.2.1
  have hml := C.2.2.1
  have hown := C.2.2.2.1
  have hts := C.2.2.2.2.1
  unfold f_X6_init at hF
  refine lv_aload_n hx hb dX6_init_0 rfl (lv_at hl 0 rfl) ?_
  refine W.objInit hx hb hown (hts _ tq_307) (hts _ tq_80) (hts _ tq_81) rfl (hl.1.trans hml.symm) rfl dX6_init_1 (Nat.le_of_ble_eq_true rfl) (Nat.le_of_ble_eq_true rfl) ?_
  refine W.eq (g2 := F0 m 4 ls []) rfl ?_
  refine lv_aload_n hx hb dX6_init_4 rfl (lv_at hl 0 rfl) ?_
  refine pw_nO C hW hS pc_6 tq_308 tq_215 tq_66 (Nat.le_of_ble_eq_true rfl) (Nat.le_of_ble_eq_true rfl) dX6_init_5 hF (fun M av1 H hW hS hF => ?_)
  refine W.widen (k := 1) (n := 13) (Nat.le_of_ble_eq_true rfl) (Nat.le_of_ble_eq_true rfl) ?_
  refine lv_dup hx hb dX6_init_8 rfl ?_
  obtain ⟨M9, hc, hF⟩ := ps_b1_some hF
  refine ps_backV (M' := M9) hS (ps_callIN C hW (host := "PullSaw") mf_X7_init tq_217 rfl (by decide +kernel) ⟨Nat.le_of_ble_eq_true rfl, Nat.le_of_ble_eq_true rfl⟩ rfl rfl (As := []) (rest := [.ref (B + av1), .ref (B + a0)]) (c_X7_init hc) rfl hl.1 rfl (Nat.le_of_ble_eq_true rfl) dX6_init_9 ⟨Nat.le_of_ble_eq_true rfl, Nat.le_of_ble_eq_true rfl⟩) (fun H locs hW hS => ?_)
  clear hc
  generalize M9 = M at hW hF
  refine W.widen (k := 5) (n := 29) (Nat.le_of_ble_eq_true rfl) (Nat.le_of_ble_eq_true rfl) ?_
  refine pw_pR C hW hS pc_5 (k := 8) (by decide) (Or.inl ⟨_, rfl⟩) rfl tq_322 (Or.inr ⟨rfl, rfl⟩) dX6_init_12 hF (fun M H locs hW hS hF => ?_)
  refine lv_aload_n hx hb dX6_init_15 rfl (lv_at hl 0 rfl) ?_
  refine pw_nO C hW hS pc_6 tq_308 tq_215 tq_66 (Nat.le_of_ble_eq_true rfl) (Nat.le_of_ble_eq_true rfl) dX6_init_16 hF (fun M av2 H hW hS hF => ?_)
  refine W.widen (k := 6) (n := 42) (Nat.le_of_ble_eq_true rfl) (Nat.le_of_ble_eq_true rfl) ?_
  refine lv_dup hx hb dX6_init_19 rfl ?_
  obtain ⟨M9, hc, hF⟩ := ps_b1_some hF
  refine ps_backV (M' := M9) hS (ps_callIN C hW (host := "PullSaw") mf_X7_init tq_217 rfl (by decide +kernel) ⟨Nat.le_of_ble_eq_true rfl, Nat.le_of_ble_eq_true rfl⟩ rfl rfl (As := []) (rest := [.ref (B + av2), .ref (B + a0)]) (c_X7_init hc) rfl hl.1 rfl (Nat.le_of_ble_eq_true rfl) dX6_init_20 ⟨Nat.le_of_ble_eq_true rfl, Nat.le_of_ble_eq_true rfl⟩) (fun H locs hW hS => ?_)
  clear hc
  generalize M9 = M at hW hF
  refine W.widen (k := 10) (n := 58) (Nat.le_of_ble_eq_true rfl) (Nat.le_of_ble_eq_true rfl) ?_
  refine pw_pR C hW hS pc_5 (k := 9) (by decide) (Or.inl ⟨_, rfl⟩) rfl tq_323 (Or.inr ⟨rfl, rfl⟩) dX6_init_23 hF (fun M H locs hW hS hF => ?_)
  exact pw_vret C hW hS dX6_init_26 hF
theorem mf_X6_init : ps_mf yX6_init cX6_init 1 none 0 := ⟨tq_306, tq_68, by decide +kernel, by decide +kernel, by decide +kernel⟩
theorem c_X6_init {l : Launch} {D : va_G} {Y : ps_A} {B : Nat} {M : ps_M} {a0 : Nat} {M' : ps_M} (hF : f_X6_init M a0 = some M') : Met l yX6_init (Cond.code yX6_init cX6_init 1 none :: tb_G) rm_X6_init (ps_PB D Y B M [.ref (B + a0)]) (va_Qv (fun (_ : Unit) => True) (fun _ t => ps_St D Y B M' t) (fun q => B ≤ q)) 10 58 (fun q => B ≤ q) :=
  pm_of (by decide +kernel) (Nat.le_of_ble_eq_true rfl) (fun p e s m args below meth c C hW hS ls hl => kb_X6_init C hF hW hS hl)

abbrev rm_X0_init : Room := { frames := 1, cells := 2, slots := 244, locals := 21 }
set_option maxRecDepth 100000 in
def f_X0_init (M : ps_M) (a0 : Nat) : Option ps_M := ps_nA M 21 122 (fun M av1 => ps_pR M a0 0 5 av1 (fun M => ps_nA M 21 122 (fun M av2 => ps_pR M a0 0 6 av2 (fun M => some M))))
set_option maxRecDepth 100000 in
set_option maxHeartbeats 4000000 in
theorem kb_X0_init (C : ps_C p s m args meth c cX0_init 1 RX0 none "<init>" D Y B) {q : ps_M} {M : ps_M} {a0 : Nat} (hF : f_X0_init M a0 = some q) (hW : ps_W D Y B M H) (hS : va_S (fun q => B ≤ q) s.heap H locs) (hl : lv_has ls 1 [(0, .ref (B + a0))]) : W p l e rm_X0_init s m args below meth c H locs 0 0 (ps_Qv D Y B below args s 2 244 q) (F0 m 0 ls []) := by
  have hx := C.1
  have hb := C.2.1
  have hml := C.2.2.1
  have hown := C.2.2.2.1
  have hts := C.2.2.2.2.1
  unfold f_X0_init at hF
  refine lv_aload_n hx hb dX0_init_0 rfl (lv_at hl 0 rfl) ?_
  refine W.objInit hx hb hown (hts _ tq_350) (hts _ tq_80) (hts _ tq_81) rfl (hl.1.trans hml.symm) rfl dX0_init_1 (Nat.le_of_ble_eq_true rfl) (Nat.le_of_ble_eq_true rfl) ?_
  refine W.eq (g2 := F0 m 4 ls []) rfl ?_
  refine lv_aload_n hx hb dX0_init_4 rfl (lv_at hl 0 rfl) ?_
  refine lv_bipush (v := 122) hx hb dX0_init_5 (by decide) ?_
  refine pw_nI (N := 122) C hW hS tq_160 (by decide) (by decide) (Nat.le_of_ble_eq_true rfl) (Nat.le_of_ble_eq_true rfl) (Nat.le_of_ble_eq_true rfl) dX0_init_7 hF (fun M av1 H hW hS hF => ?_)
  refine W.widen (k := 1) (n := 122) (Nat.le_of_ble_eq_true rfl) (Nat.le_of_ble_eq_true rfl) ?_
  refine pw_pR C hW hS pc_0 (k := 5) (by decide) (Or.inr ⟨_, rfl⟩) rfl tq_358 (Or.inl rfl) dX0_init_9 hF (fun M H locs hW hS hF => ?_)
  refine lv_aload_n hx hb dX0_init_12 rfl (lv_at hl 0 rfl) ?_
  refine lv_bipush (v := 122) hx hb dX0_init_13 (by decide) ?_
  refine pw_nI (N := 122) C hW hS tq_160 (by decide) (by decide) (Nat.le_of_ble_eq_true rfl) (Nat.le_of_ble_eq_true rfl) (Nat.le_of_ble_eq_true rfl) dX0_init_15 hF (fun M av2 H hW hS hF => ?_)
  refine W.widen (k := 2) (n := 244) (Nat.le_of_ble_eq_true rfl) (Nat.le_of_ble_eq_true rfl) ?_
  refine pw_pR C hW hS pc_0 (k := 6) (by decide) (Or.inr ⟨_, rfl⟩) rfl tq_359 (Or.inl rfl) dX0_init_17 hF (fun M H locs hW hS hF => ?_)
  exact pw_vret C hW hS dX0_init_20 hF
theorem mf_X0_init : ps_mf yX0_init cX0_init 1 none 0 := ⟨tq_349, tq_69, by decide +kernel, by decide +kernel, by decide +kernel⟩
theorem c_X0_init {l : Launch} {D : va_G} {Y : ps_A} {B : Nat} {M : ps_M} {a0 : Nat} {M' : ps_M} (hF : f_X0_init M a0 = some M') : Met l yX0_init (Cond.code yX0_init cX0_init 1 none :: tb_G) rm_X0_init (ps_PB D Y B M [.ref (B + a0)]) (va_Qv (fun (_ : Unit) => True) (fun _ t => ps_St D Y B M' t) (fun q => B ≤ q)) 2 244 (fun q => B ≤ q) :=
  pm_of (by decide +kernel) (Nat.le_of_ble_eq_true rfl) (fun p e s m args below meth c C hW hS ls hl => kb_X0_init C hF hW hS hl)

abbrev rm_X1_init : Room := { frames := 2, cells := 5, slots := 29, locals := 41 }
set_option maxRecDepth 100000 in
def f_X1_init (M : ps_M) (a0 : Nat) : Option ps_M := ps_nO M 6 (fun M av1 => ps_b1 (f_X7_init M av1) (fun M => ps_pR M a0 1 0 av1 (fun M => some M)))
set_option maxRecDepth 100000 in
set_option maxHeartbeats 4000000 in
theorem kb_X1_init (C : ps_C p s m args meth c cX1_init 1 RX1 none "<init>" D Y B) {q : ps_M} {M : ps_M} {a0 : Nat} (hF : f_X1_init M a0 = some q) (hW : ps_W D Y B M H) (hS : va_S (fun q => B ≤ q) s.heap H locs) (hl : lv_has ls 1 [(0, .ref (B + a0))]) : W p l e rm_X1_init s m args below meth c H locs 0 0 (ps_Qv D Y B below args s 5 29 q) (F0 m 0 ls []) := by
  have hx := C.1
  have hb := C.2.1
  have hml := C.2.2.1
  have hown := C.2.2.2.1
  have hts := C.2.2.2.2.1
  unfold f_X1_init at hF
  refine lv_aload_n hx hb dX1_init_0 rfl (lv_at hl 0 rfl) ?_
  refine W.objInit hx hb hown (hts _ tq_382) (hts _ tq_80) (hts _ tq_81) rfl (hl.1.trans hml.symm) rfl dX1_init_1 (Nat.le_of_ble_eq_true rfl) (Nat.le_of_ble_eq_true rfl) ?_
  refine W.eq (g2 := F0 m 4 ls []) rfl ?_
  refine lv_aload_n hx hb dX1_init_4 rfl (lv_at hl 0 rfl) ?_
  refine pw_nO C hW hS pc_6 tq_383 tq_215 tq_66 (Nat.le_of_ble_eq_true rfl) (Nat.le_of_ble_eq_true rfl) dX1_init_5 hF (fun M av1 H hW hS hF => ?_)
  refine W.widen (k := 1) (n := 13) (Nat.le_of_ble_eq_true rfl) (Nat.le_of_ble_eq_true rfl) ?_
  refine lv_dup hx hb dX1_init_8 rfl ?_
  obtain ⟨M9, hc, hF⟩ := ps_b1_some hF
  refine ps_backV (M' := M9) hS (ps_callIN C hW (host := "PullSaw") mf_X7_init tq_217 rfl (by decide +kernel) ⟨Nat.le_of_ble_eq_true rfl, Nat.le_of_ble_eq_true rfl⟩ rfl rfl (As := []) (rest := [.ref (B + av1), .ref (B + a0)]) (c_X7_init hc) rfl hl.1 rfl (Nat.le_of_ble_eq_true rfl) dX1_init_9 ⟨Nat.le_of_ble_eq_true rfl, Nat.le_of_ble_eq_true rfl⟩) (fun H locs hW hS => ?_)
  clear hc
  generalize M9 = M at hW hF
  refine W.widen (k := 5) (n := 29) (Nat.le_of_ble_eq_true rfl) (Nat.le_of_ble_eq_true rfl) ?_
  refine pw_pR C hW hS pc_1 (k := 0) (by decide) (Or.inl ⟨_, rfl⟩) rfl tq_385 (Or.inr ⟨rfl, rfl⟩) dX1_init_12 hF (fun M H locs hW hS hF => ?_)
  exact pw_vret C hW hS dX1_init_15 hF
theorem mf_X1_init : ps_mf yX1_init cX1_init 1 none 0 := ⟨tq_381, tq_70, by decide +kernel, by decide +kernel, by decide +kernel⟩
theorem c_X1_init {l : Launch} {D : va_G} {Y : ps_A} {B : Nat} {M : ps_M} {a0 : Nat} {M' : ps_M} (hF : f_X1_init M a0 = some M') : Met l yX1_init (Cond.code yX1_init cX1_init 1 none :: tb_G) rm_X1_init (ps_PB D Y B M [.ref (B + a0)]) (va_Qv (fun (_ : Unit) => True) (fun _ t => ps_St D Y B M' t) (fun q => B ≤ q)) 5 29 (fun q => B ≤ q) :=
  pm_of (by decide +kernel) (Nat.le_of_ble_eq_true rfl) (fun p e s m args below meth c C hW hS ls hl => kb_X1_init C hF hW hS hl)

abbrev rm_X9_init : Room := { frames := 3, cells := 204, slots := 1694, locals := 62 }
set_option maxRecDepth 100000 in
def f_X9_init (M : ps_M) (a0 : Nat) : Option ps_M := ps_nO M 7 (fun M av1 => ps_b1 (f_X8_init M av1) (fun M => ps_pR M a0 8 0 av1 (fun M => ps_nO M 3 (fun M av2 => ps_b1 (f_X3_init M av2) (fun M => ps_pR M a0 8 1 av2 (fun M => ps_nO M 6 (fun M av3 => ps_b1 (f_X7_init M av3) (fun M => ps_pR M a0 8 2 av3 (fun M => ps_nO M 2 (fun M av4 => ps_b1 (f_X2_init M av4) (fun M => ps_pR M a0 8 3 av4 (fun M => ps_nO M 5 (fun M av5 => ps_b1 (f_X6_init M av5) (fun M => ps_pR M a0 8 4 av5 (fun M => ps_nO M 0 (fun M av6 => ps_b1 (f_X0_init M av6) (fun M => ps_pR M a0 8 5 av6 (fun M => ps_nO M 4 (fun M av7 => ps_b1 (f_X5_init_8 M av7) (fun M => ps_pR M a0 8 6 av7 (fun M => ps_nO M 4 (fun M av8 => ps_b1 (f_X5_init_20 M av8) (fun M => ps_pR M a0 8 7 av8 (fun M => ps_nO M 1 (fun M av9 => ps_b1 (f_X1_init M av9) (fun M => ps_pR M a0 8 8 av9 (fun M => ps_nO M 1 (fun M av10 => ps_b1 (f_X1_init M av10) (fun M => ps_pR M a0 8 9 av10 (fun M => some M))))))))))))))))))))))))))))))
set_option maxRecDepth 100000 in
set_option maxHeartbeats 4000000 in
theorem kb_X9_init (C : ps_C p s m args meth c cX9_init 1 RX9 none "<init>" D Y B) {q : ps_M} {M : ps_M} {a0 : Nat} (hF : f_X9_init M a0 = some q) (hW : ps_W D Y B M H) (hS : va_S (fun q => B ≤ q) s.heap H locs) (hl : lv_has ls 1 [(0, .ref (B + a0))]) : W p l e rm_X9_init s m args below meth c H locs 0 0 (ps_Qv D Y B below args s 204 1694 q) (F0 m 0 ls []) := by
  have hx := C.1
  have hb := C.2.1
  have hml := C.2.2.1
  have hown := C.2.2.2.1
  have hts := C.2.2.2.2.1
  unfold f_X9_init at hF
  refine lv_aload_n hx hb dX9_init_0 rfl (lv_at hl 0 rfl) ?_
  refine W.objInit hx hb hown (hts _ tq_79) (hts _ tq_80) (hts _ tq_81) rfl (hl.1.trans hml.symm) rfl dX9_init_1 (Nat.le_of_ble_eq_true rfl) (Nat.le_of_ble_eq_true rfl) ?_
  refine W.eq (g2 := F0 m 4 ls []) rfl ?_
  refine lv_aload_n hx hb dX9_init_4 rfl (lv_at hl 0 rfl) ?_
  refine pw_nO C hW hS pc_7 tq_82 tq_83 tq_62 (Nat.le_of_ble_eq_true rfl) (Nat.le_of_ble_eq_true rfl) dX9_init_5 hF (fun M av1 H hW hS hF => ?_)
  refine W.widen (k := 1) (n := 12) (Nat.le_of_ble_eq_true rfl) (Nat.le_of_ble_eq_true rfl) ?_
  refine lv_dup hx hb dX9_init_8 rfl ?_
  obtain ⟨M9, hc, hF⟩ := ps_b1_some hF
  refine ps_backV (M' := M9) hS (ps_callIN C hW (host := "PullSaw") mf_X8_init tq_85 rfl (by decide +kernel) ⟨Nat.le_of_ble_eq_true rfl, Nat.le_of_ble_eq_true rfl⟩ rfl rfl (As := []) (rest := [.ref (B + av1), .ref (B + a0)]) (c_X8_init hc) rfl hl.1 rfl (Nat.le_of_ble_eq_true rfl) dX9_init_9 ⟨Nat.le_of_ble_eq_true rfl, Nat.le_of_ble_eq_true rfl⟩) (fun H locs hW hS => ?_)
  clear hc
  generalize M9 = M at hW hF
  refine W.widen (k := 7) (n := 44) (Nat.le_of_ble_eq_true rfl) (Nat.le_of_ble_eq_true rfl) ?_
  refine pw_pR C hW hS pc_8 (k := 0) (by decide) (Or.inl ⟨_, rfl⟩) rfl tq_396 (Or.inr ⟨rfl, rfl⟩) dX9_init_12 hF (fun M H locs hW hS hF => ?_)
  refine lv_aload_n hx hb dX9_init_15 rfl (lv_at hl 0 rfl) ?_
  refine pw_nO C hW hS pc_3 tq_161 tq_162 tq_63 (Nat.le_of_ble_eq_true rfl) (Nat.le_of_ble_eq_true rfl) dX9_init_16 hF (fun M av2 H hW hS hF => ?_)
  refine W.widen (k := 8) (n := 51) (Nat.le_of_ble_eq_true rfl) (Nat.le_of_ble_eq_true rfl) ?_
  refine lv_dup hx hb dX9_init_19 rfl ?_
  obtain ⟨M9, hc, hF⟩ := ps_b1_some hF
  refine ps_backV (M' := M9) hS (ps_callIN C hW (host := "PullSaw") mf_X3_init tq_164 rfl (by decide +kernel) ⟨Nat.le_of_ble_eq_true rfl, Nat.le_of_ble_eq_true rfl⟩ rfl rfl (As := []) (rest := [.ref (B + av2), .ref (B + a0)]) (c_X3_init hc) rfl hl.1 rfl (Nat.le_of_ble_eq_true rfl) dX9_init_20 ⟨Nat.le_of_ble_eq_true rfl, Nat.le_of_ble_eq_true rfl⟩) (fun H locs hW hS => ?_)
  clear hc
  generalize M9 = M at hW hF
  refine W.widen (k := 17) (n := 347) (Nat.le_of_ble_eq_true rfl) (Nat.le_of_ble_eq_true rfl) ?_
  refine pw_pR C hW hS pc_8 (k := 1) (by decide) (Or.inl ⟨_, rfl⟩) rfl tq_397 (Or.inr ⟨rfl, rfl⟩) dX9_init_23 hF (fun M H locs hW hS hF => ?_)
  refine lv_aload_n hx hb dX9_init_26 rfl (lv_at hl 0 rfl) ?_
  refine pw_nO C hW hS pc_6 tq_214 tq_215 tq_66 (Nat.le_of_ble_eq_true rfl) (Nat.le_of_ble_eq_true rfl) dX9_init_27 hF (fun M av3 H hW hS hF => ?_)
  refine W.widen (k := 18) (n := 360) (Nat.le_of_ble_eq_true rfl) (Nat.le_of_ble_eq_true rfl) ?_
  refine lv_dup hx hb dX9_init_30 rfl ?_
  obtain ⟨M9, hc, hF⟩ := ps_b1_some hF
  refine ps_backV (M' := M9) hS (ps_callIN C hW (host := "PullSaw") mf_X7_init tq_217 rfl (by decide +kernel) ⟨Nat.le_of_ble_eq_true rfl, Nat.le_of_ble_eq_true rfl⟩ rfl rfl (As := []) (rest := [.ref (B + av3), .ref (B + a0)]) (c_X7_init hc) rfl hl.1 rfl (Nat.le_of_ble_eq_true rfl) dX9_init_31 ⟨Nat.le_of_ble_eq_true rfl, Nat.le_of_ble_eq_true rfl⟩) (fun H locs hW hS => ?_)
  clear hc
  generalize M9 = M at hW hF
  refine W.widen (k := 22) (n := 376) (Nat.le_of_ble_eq_true rfl) (Nat.le_of_ble_eq_true rfl) ?_
  refine pw_pR C hW hS pc_8 (k := 2) (by decide) (Or.inl ⟨_, rfl⟩) rfl tq_398 (Or.inr ⟨rfl, rfl⟩) dX9_init_34 hF (fun M H locs hW hS hF => ?_)
  refine lv_aload_n hx hb dX9_init_37 rfl (lv_at hl 0 rfl) ?_
  refine pw_nO C hW hS pc_2 tq_282 tq_283 tq_67 (Nat.le_of_ble_eq_true rfl) (Nat.le_of_ble_eq_true rfl) dX9_init_38 hF (fun M av4 H hW hS hF => ?_)
  refine W.widen (k := 23) (n := 379) (Nat.le_of_ble_eq_true rfl) (Nat.le_of_ble_eq_true rfl) ?_
  refine lv_dup hx hb dX9_init_41 rfl ?_
  obtain ⟨M9, hc, hF⟩ := ps_b1_some hF
  refine ps_backV (M' := M9) hS (ps_callI C hW mf_X2_init tq_285 rfl tq_284 ⟨Nat.le_of_ble_eq_true rfl, Nat.le_of_ble_eq_true rfl⟩ rfl rfl (As := []) (rest := [.ref (B + av4), .ref (B + a0)]) (c_X2_init hc) rfl hl.1 rfl (Nat.le_of_ble_eq_true rfl) dX9_init_42 ⟨Nat.le_of_ble_eq_true rfl, Nat.le_of_ble_eq_true rfl⟩) (fun H locs hW hS => ?_)
  clear hc
  generalize M9 = M at hW hF
  refine W.widen (k := 174) (n := 1279) (Nat.le_of_ble_eq_true rfl) (Nat.le_of_ble_eq_true rfl) ?_
  refine pw_pR C hW hS pc_8 (k := 3) (by decide) (Or.inl ⟨_, rfl⟩) rfl tq_399 (Or.inr ⟨rfl, rfl⟩) dX9_init_45 hF (fun M H locs hW hS hF => ?_)
  refine lv_aload_n hx hb dX9_init_48 rfl (lv_at hl 0 rfl) ?_
  refine pw_nO C hW hS pc_5 tq_302 tq_303 tq_68 (Nat.le_of_ble_eq_true rfl) (Nat.le_of_ble_eq_true rfl) dX9_init_49 hF (fun M av5 H hW hS hF => ?_)
  refine W.widen (k := 175) (n := 1289) (Nat.le_of_ble_eq_true rfl) (Nat.le_of_ble_eq_true rfl) ?_
  refine lv_dup hx hb dX9_init_52 rfl ?_
  obtain ⟨M9, hc, hF⟩ := ps_b1_some hF
  refine ps_backV (M' := M9) hS (ps_callIN C hW (host := "PullSaw") mf_X6_init tq_305 rfl (by decide +kernel) ⟨Nat.le_of_ble_eq_true rfl, Nat.le_of_ble_eq_true rfl⟩ rfl rfl (As := []) (rest := [.ref (B + av5), .ref (B + a0)]) (c_X6_init hc) rfl hl.1 rfl (Nat.le_of_ble_eq_true rfl) dX9_init_53 ⟨Nat.le_of_ble_eq_true rfl, Nat.le_of_ble_eq_true rfl⟩) (fun H locs hW hS => ?_)
  clear hc
  generalize M9 = M at hW hF
  refine W.widen (k := 185) (n := 1347) (Nat.le_of_ble_eq_true rfl) (Nat.le_of_ble_eq_true rfl) ?_
  refine pw_pR C hW hS pc_8 (k := 4) (by decide) (Or.inl ⟨_, rfl⟩) rfl tq_400 (Or.inr ⟨rfl, rfl⟩) dX9_init_56 hF (fun M H locs hW hS hF => ?_)
  refine lv_aload_n hx hb dX9_init_59 rfl (lv_at hl 0 rfl) ?_
  refine pw_nO C hW hS pc_0 tq_345 tq_346 tq_69 (Nat.le_of_ble_eq_true rfl) (Nat.le_of_ble_eq_true rfl) dX9_init_60 hF (fun M av6 H hW hS hF => ?_)
  refine W.widen (k := 186) (n := 1354) (Nat.le_of_ble_eq_true rfl) (Nat.le_of_ble_eq_true rfl) ?_
  refine lv_dup hx hb dX9_init_63 rfl ?_
  obtain ⟨M9, hc, hF⟩ := ps_b1_some hF
  refine ps_backV (M' := M9) hS (ps_callIN C hW (host := "PullSaw") mf_X0_init tq_348 rfl (by decide +kernel) ⟨Nat.le_of_ble_eq_true rfl, Nat.le_of_ble_eq_true rfl⟩ rfl rfl (As := []) (rest := [.ref (B + av6), .ref (B + a0)]) (c_X0_init hc) rfl hl.1 rfl (Nat.le_of_ble_eq_true rfl) dX9_init_64 ⟨Nat.le_of_ble_eq_true rfl, Nat.le_of_ble_eq_true rfl⟩) (fun H locs hW hS => ?_)
  clear hc
  generalize M9 = M at hW hF
  refine W.widen (k := 188) (n := 1598) (Nat.le_of_ble_eq_true rfl) (Nat.le_of_ble_eq_true rfl) ?_
  refine pw_pR C hW hS pc_8 (k := 5) (by decide) (Or.inl ⟨_, rfl⟩) rfl tq_401 (Or.inr ⟨rfl, rfl⟩) dX9_init_67 hF (fun M H locs hW hS hF => ?_)
  refine lv_aload_n hx hb dX9_init_70 rfl (lv_at hl 0 rfl) ?_
  refine pw_nO C hW hS pc_4 tq_375 tq_168 tq_64 (Nat.le_of_ble_eq_true rfl) (Nat.le_of_ble_eq_true rfl) dX9_init_71 hF (fun M av7 H hW hS hF => ?_)
  refine W.widen (k := 189) (n := 1600) (Nat.le_of_ble_eq_true rfl) (Nat.le_of_ble_eq_true rfl) ?_
  refine lv_dup hx hb dX9_init_74 rfl ?_
  refine lv_bipush (v := 8) hx hb dX9_init_75 (by decide) ?_
  obtain ⟨M9, hc, hF⟩ := ps_b1_some hF
  refine ps_backV (M' := M9) hS (ps_callI C hW mf_X5_init tq_170 rfl tq_376 ⟨Nat.le_of_ble_eq_true rfl, Nat.le_of_ble_eq_true rfl⟩ rfl rfl (As := [.int (8 : Int32)]) (rest := [.ref (B + av7), .ref (B + a0)]) (c_X5_init_8 hc) rfl hl.1 rfl (Nat.le_of_ble_eq_true rfl) dX9_init_77 ⟨Nat.le_of_ble_eq_true rfl, Nat.le_of_ble_eq_true rfl⟩) (fun H locs hW hS => ?_)
  clear hc
  generalize M9 = M at hW hF
  refine W.widen (k := 190) (n := 1608) (Nat.le_of_ble_eq_true rfl) (Nat.le_of_ble_eq_true rfl) ?_
  refine pw_pR C hW hS pc_8 (k := 6) (by decide) (Or.inl ⟨_, rfl⟩) rfl tq_402 (Or.inr ⟨rfl, rfl⟩) dX9_init_80 hF (fun M H locs hW hS hF => ?_)
  refine lv_aload_n hx hb dX9_init_83 rfl (lv_at hl 0 rfl) ?_
  refine pw_nO C hW hS pc_4 tq_375 tq_168 tq_64 (Nat.le_of_ble_eq_true rfl) (Nat.le_of_ble_eq_true rfl) dX9_init_84 hF (fun M av8 H hW hS hF => ?_)
  refine W.widen (k := 191) (n := 1610) (Nat.le_of_ble_eq_true rfl) (Nat.le_of_ble_eq_true rfl) ?_
  refine lv_dup hx hb dX9_init_87 rfl ?_
  refine lv_bipush (v := 20) hx hb dX9_init_88 (by decide) ?_
  obtain ⟨M9, hc, hF⟩ := ps_b1_some hF
  refine ps_backV (M' := M9) hS (ps_callI C hW mf_X5_init tq_170 rfl tq_376 ⟨Nat.le_of_ble_eq_true rfl, Nat.le_of_ble_eq_true rfl⟩ rfl rfl (As := [.int (20 : Int32)]) (rest := [.ref (B + av8), .ref (B + a0)]) (c_X5_init_20 hc) rfl hl.1 rfl (Nat.le_of_ble_eq_true rfl) dX9_init_90 ⟨Nat.le_of_ble_eq_true rfl, Nat.le_of_ble_eq_true rfl⟩) (fun H locs hW hS => ?_)
  clear hc
  generalize M9 = M at hW hF
  refine W.widen (k := 192) (n := 1630) (Nat.le_of_ble_eq_true rfl) (Nat.le_of_ble_eq_true rfl) ?_
  refine pw_pR C hW hS pc_8 (k := 7) (by decide) (Or.inl ⟨_, rfl⟩) rfl tq_403 (Or.inr ⟨rfl, rfl⟩) dX9_init_93 hF (fun M H locs hW hS hF => ?_)
  refine lv_aload_n hx hb dX9_init_96 rfl (lv_at hl 0 rfl) ?_
  refine pw_nO C hW hS pc_1 tq_377 tq_378 tq_70 (Nat.le_of_ble_eq_true rfl) (Nat.le_of_ble_eq_true rfl) dX9_init_97 hF (fun M av9 H hW hS hF => ?_)
  refine W.widen (k := 193) (n := 1633) (Nat.le_of_ble_eq_true rfl) (Nat.le_of_ble_eq_true rfl) ?_
  refine lv_dup hx hb dX9_init_100 rfl ?_
  obtain ⟨M9, hc, hF⟩ := ps_b1_some hF
  refine ps_backV (M' := M9) hS (ps_callIN C hW (host := "PullSaw") mf_X1_init tq_380 rfl (by decide +kernel) ⟨Nat.le_of_ble_eq_true rfl, Nat.le_of_ble_eq_true rfl⟩ rfl rfl (As := []) (rest := [.ref (B + av9), .ref (B + a0)]) (c_X1_init hc) rfl hl.1 rfl (Nat.le_of_ble_eq_true rfl) dX9_init_101 ⟨Nat.le_of_ble_eq_true rfl, Nat.le_of_ble_eq_true rfl⟩) (fun H locs hW hS => ?_)
  clear hc
  generalize M9 = M at hW hF
  refine W.widen (k := 198) (n := 1662) (Nat.le_of_ble_eq_true rfl) (Nat.le_of_ble_eq_true rfl) ?_
  refine pw_pR C hW hS pc_8 (k := 8) (by decide) (Or.inl ⟨_, rfl⟩) rfl tq_404 (Or.inr ⟨rfl, rfl⟩) dX9_init_104 hF (fun M H locs hW hS hF => ?_)
  refine lv_aload_n hx hb dX9_init_107 rfl (lv_at hl 0 rfl) ?_
  refine pw_nO C hW hS pc_1 tq_377 tq_378 tq_70 (Nat.le_of_ble_eq_true rfl) (Nat.le_of_ble_eq_true rfl) dX9_init_108 hF (fun M av10 H hW hS hF => ?_)
  refine W.widen (k := 199) (n := 1665) (Nat.le_of_ble_eq_true rfl) (Nat.le_of_ble_eq_true rfl) ?_
  refine lv_dup hx hb dX9_init_111 rfl ?_
  obtain ⟨M9, hc, hF⟩ := ps_b1_some hF
  refine ps_backV (M' := M9) hS (ps_callIN C hW (host := "PullSaw") mf_X1_init tq_380 rfl (by decide +kernel) ⟨Nat.le_of_ble_eq_true rfl, Nat.le_of_ble_eq_true rfl⟩ rfl rfl (As := []) (rest := [.ref (B + av10), .ref (B + a0)]) (c_X1_init hc) rfl hl.1 rfl (Nat.le_of_ble_eq_true rfl) dX9_init_112 ⟨Nat.le_of_ble_eq_true rfl, Nat.le_of_ble_eq_true rfl⟩) (fun H locs hW hS => ?_)
  clear hc
  generalize M9 = M at hW hF
  refine W.widen (k := 204) (n := 1694) (Nat.le_of_ble_eq_true rfl) (Nat.le_of_ble_eq_true rfl) ?_
  refine pw_pR C hW hS pc_8 (k := 9) (by decide) (Or.inl ⟨_, rfl⟩) rfl tq_405 (Or.inr ⟨rfl, rfl⟩) dX9_init_115 hF (fun M H locs hW hS hF => ?_)
  exact pw_vret C hW hS dX9_init_118 hF
theorem mf_X9_init : ps_mf yX9_init cX9_init 1 none 0 := ⟨tq_78, tq_61, by decide +kernel, by decide +kernel, by decide +kernel⟩
theorem c_X9_init {l : Launch} {D : va_G} {Y : ps_A} {B : Nat} {M : ps_M} {a0 : Nat} {M' : ps_M} (hF : f_X9_init M a0 = some M') : Met l yX9_init (Cond.code yX9_init cX9_init 1 none :: tb_G) rm_X9_init (ps_PB D Y B M [.ref (B + a0)]) (va_Qv (fun (_ : Unit) => True) (fun _ t => ps_St D Y B M' t) (fun q => B ≤ q)) 204 1694 (fun q => B ≤ q) :=
  pm_of (by decide +kernel) (Nat.le_of_ble_eq_true rfl) (fun p e s m args below meth c C hW hS ls hl => kb_X9_init C hF hW hS hl)

abbrev rm_X10_init : Room := { frames := 1, cells := 15, slots := 6112, locals := 21 }
set_option maxRecDepth 100000 in
def f_X10_init (M : ps_M) (a0 : Nat) : Option ps_M := ps_nA M 21 952 (fun M av1 => ps_pR M a0 9 0 av1 (fun M => ps_nA M 22 2 (fun M av2 => ps_pR M a0 9 1 av2 (fun M => ps_nA M 21 24 (fun M av3 => ps_pR M a0 9 14 av3 (fun M => ps_nA M 21 8 (fun M av4 => ps_pR M a0 9 15 av4 (fun M => ps_nA M 21 8 (fun M av5 => ps_pR M a0 9 16 av5 (fun M => ps_nA M 21 8 (fun M av6 => ps_pR M a0 9 17 av6 (fun M => ps_nA M 21 8 (fun M av7 => ps_pR M a0 9 18 av7 (fun M => ps_nA M 21 8 (fun M av8 => ps_pR M a0 9 19 av8 (fun M => ps_nA M 21 250 (fun M av9 => ps_pR M a0 9 20 av9 (fun M => ps_pI M a0 9 25 (-1 : Int32) (fun M => ps_nA M 21 1204 (fun M av10 => ps_pR M a0 9 27 av10 (fun M => ps_nA M 21 1204 (fun M av11 => ps_pR M a0 9 28 av11 (fun M => ps_nA M 21 1204 (fun M av12 => ps_pR M a0 9 29 av12 (fun M => ps_nA M 21 1204 (fun M av13 => ps_pR M a0 9 30 av13 (fun M => ps_nA M 21 8 (fun M av14 => ps_pR M a0 9 31 av14 (fun M => ps_nA M 21 20 (fun M av15 => ps_pR M a0 9 33 av15 (fun M => ps_pI M a0 9 4 (2 : Int32) (fun M => ps_pI M a0 9 6 (12 : Int32) (fun M => ps_gR M a0 9 0 (fun av16 => ps_xI M av16 (16 : Int32) (-1 : Int32) (fun M => ps_gR M a0 9 0 (fun av17 => ps_xI M av17 (17 : Int32) (-1 : Int32) (fun M => ps_gR M a0 9 0 (fun av18 => ps_xI M av18 (18 : Int32) (-1 : Int32) (fun M => ps_gR M a0 9 0 (fun av19 => ps_xI M av19 (24 : Int32) (5 : Int32) (fun M => some M)))))))))))))))))))))))))))))))))))))))))
set_option maxRecDepth 100000 in
set_option maxHeartbeats 4000000 in
theorem kb_X10_init (C : ps_C p s m args meth c cX10_init 1 RX10 none "<init>" D Y B) {q : ps_M} {M : ps_M} {a0 : Nat} (hF : f_X10_init M a0 = some q) (hW : ps_W D Y B M H) (hS : va_S (fun q => B ≤ q) s.heap H locs) (hl : lv_has ls 1 [(0, .ref (B + a0))]) : W p l e rm_X10_init s m args below meth c H locs 0 0 (ps_Qv D Y B below args s 15 6112 q) (F0 m 0 ls []) := by
  have hx := C.1
  have hb := C.2.1
  have hml := C.2.2.1
  have hown := C.2.2.2.1
  have hts := C.2.2.2.2.1
  unfold f_X10_init at hF
  refine lv_aload_n hx hb dX10_init_0 rfl (lv_at hl 0 rfl) ?_
  refine W.objInit hx hb hown (hts _ tq_917) (hts _ tq_80) (hts _ tq_81) rfl (hl.1.trans hml.symm) rfl dX10_init_1 (Nat.le_of_ble_eq_true rfl) (Nat.le_of_ble_eq_true rfl) ?_
  refine W.eq (g2 := F0 m 4 ls []) rfl ?_
  refine lv_aload_n hx hb dX10_init_4 rfl (lv_at hl 0 rfl) ?_
  refine lv_sipush (v := 952) hx hb dX10_init_5 (by decide) ?_
  refine pw_nI (N := 952) C hW hS tq_160 (by decide) (by decide) (Nat.le_of_ble_eq_true rfl) (Nat.le_of_ble_eq_true rfl) (Nat.le_of_ble_eq_true rfl) dX10_init_8 hF (fun M av1 H hW hS hF => ?_)
  refine W.widen (k := 1) (n := 952) (Nat.le_of_ble_eq_true rfl) (Nat.le_of_ble_eq_true rfl) ?_
  refine pw_pR C hW hS pc_9 (k := 0) (by decide) (Or.inr ⟨_, rfl⟩) rfl tq_918 (Or.inr ⟨rfl, rfl⟩) dX10_init_10 hF (fun M H locs hW hS hF => ?_)
  refine lv_aload_n hx hb dX10_init_13 rfl (lv_at hl 0 rfl) ?_
  refine lv_iconst (v := 2) hx hb dX10_init_14 (by decide) ?_
  refine pw_nZ (N := 2) C hW hS tq_1024 (by decide) (by decide) (Nat.le_of_ble_eq_true rfl) (Nat.le_of_ble_eq_true rfl) (Nat.le_of_ble_eq_true rfl) dX10_init_15 hF (fun M av2 H hW hS hF => ?_)
  refine W.widen (k := 2) (n := 954) (Nat.le_of_ble_eq_true rfl) (Nat.le_of_ble_eq_true rfl) ?_
  refine pw_pR C hW hS pc_9 (k := 1) (by decide) (Or.inr ⟨_, rfl⟩) rfl tq_919 (Or.inr ⟨rfl, rfl⟩) dX10_init_17 hF (fun M H locs hW hS hF => ?_)
  refine lv_aload_n hx hb dX10_init_20 rfl (lv_at hl 0 rfl) ?_
  refine lv_bipush (v := 24) hx hb dX10_init_21 (by decide) ?_
  refine pw_nI (N := 24) C hW hS tq_160 (by decide) (by decide) (Nat.le_of_ble_eq_true rfl) (Nat.le_of_ble_eq_true rfl) (Nat.le_of_ble_eq_true rfl) dX10_init_23 hF (fun M av3 H hW hS hF => ?_)
  refine W.widen (k := 3) (n := 978) (Nat.le_of_ble_eq_true rfl) (Nat.le_of_ble_eq_true rfl) ?_
  refine pw_pR C hW hS pc_9 (k := 14) (by decide) (Or.inr ⟨_, rfl⟩) rfl tq_932 (Or.inr ⟨rfl, rfl⟩) dX10_init_25 hF (fun M H locs hW hS hF => ?_)
  refine lv_aload_n hx hb dX10_init_28 rfl (lv_at hl 0 rfl) ?_
  refine lv_bipush (v := 8) hx hb dX10_init_29 (by decide) ?_
  refine pw_nI (N := 8) C hW hS tq_160 (by decide) (by decide) (Nat.le_of_ble_eq_true rfl) (Nat.le_of_ble_eq_true rfl) (Nat.le_of_ble_eq_true rfl) dX10_init_31 hF (fun M av4 H hW hS hF => ?_)
  refine W.widen (k := 4) (n := 986) (Nat.le_of_ble_eq_true rfl) (Nat.le_of_ble_eq_true rfl) ?_
  refine pw_pR C hW hS pc_9 (k := 15) (by decide) (Or.inr ⟨_, rfl⟩) rfl tq_933 (Or.inr ⟨rfl, rfl⟩) dX10_init_33 hF (fun M H locs hW hS hF => ?_)
  refine lv_aload_n hx hb dX10_init_36 rfl (lv_at hl 0 rfl) ?_
  refine lv_bipush (v := 8) hx hb dX10_init_37 (by decide) ?_
  refine pw_nI (N := 8) C hW hS tq_160 (by decide) (by decide) (Nat.le_of_ble_eq_true rfl) (Nat.le_of_ble_eq_true rfl) (Nat.le_of_ble_eq_true rfl) dX10_init_39 hF (fun M av5 H hW hS hF => ?_)
  refine W.widen (k := 5) (n := 994) (Nat.le_of_ble_eq_true rfl) (Nat.le_of_ble_eq_true rfl) ?_
  refine pw_pR C hW hS pc_9 (k := 16) (by decide) (Or.inr ⟨_, rfl⟩) rfl tq_934 (Or.inr ⟨rfl, rfl⟩) dX10_init_41 hF (fun M H locs hW hS hF => ?_)
  refine lv_aload_n hx hb dX10_init_44 rfl (lv_at hl 0 rfl) ?_
  refine lv_bipush (v := 8) hx hb dX10_init_45 (by decide) ?_
  refine pw_nI (N := 8) C hW hS tq_160 (by decide) (by decide) (Nat.le_of_ble_eq_true rfl) (Nat.le_of_ble_eq_true rfl) (Nat.le_of_ble_eq_true rfl) dX10_init_47 hF (fun M av6 H hW hS hF => ?_)
  refine W.widen (k := 6) (n := 1002) (Nat.le_of_ble_eq_true rfl) (Nat.le_of_ble_eq_true rfl) ?_
  refine pw_pR C hW hS pc_9 (k := 17) (by decide) (Or.inr ⟨_, rfl⟩) rfl tq_935 (Or.inr ⟨rfl, rfl⟩) dX10_init_49 hF (fun M H locs hW hS hF => ?_)
  refine lv_aload_n hx hb dX10_init_52 rfl (lv_at hl 0 rfl) ?_
  refine lv_bipush (v := 8) hx hb dX10_init_53 (by decide) ?_
  refine pw_nI (N := 8) C hW hS tq_160 (by decide) (by decide) (Nat.le_of_ble_eq_true rfl) (Nat.le_of_ble_eq_true rfl) (Nat.le_of_ble_eq_true rfl) dX10_init_55 hF (fun M av7 H hW hS hF => ?_)
  refine W.widen (k := 7) (n := 1010) (Nat.le_of_ble_eq_true rfl) (Nat.le_of_ble_eq_true rfl) ?_
  refine pw_pR C hW hS pc_9 (k := 18) (by decide) (Or.inr ⟨_, rfl⟩) rfl tq_936 (Or.inr ⟨rfl, rfl⟩) dX10_init_57 hF (fun M H locs hW hS hF => ?_)
  refine lv_aload_n hx hb dX10_init_60 rfl (lv_at hl 0 rfl) ?_
  refine lv_bipush (v := 8) hx hb dX10_init_61 (by decide) ?_
  refine pw_nI (N := 8) C hW hS tq_160 (by decide) (by decide) (Nat.le_of_ble_eq_true rfl) (Nat.le_of_ble_eq_true rfl) (Nat.le_of_ble_eq_true rfl) dX10_init_63 hF (fun M av8 H hW hS hF => ?_)
  refine W.widen (k := 8) (n := 1018) (Nat.le_of_ble_eq_true rfl) (Nat.le_of_ble_eq_true rfl) ?_
  refine pw_pR C hW hS pc_9 (k := 19) (by decide) (Or.inr ⟨_, rfl⟩) rfl tq_937 (Or.inr ⟨rfl, rfl⟩) dX10_init_65 hF (fun M H locs hW hS hF => ?_)
  refine lv_aload_n hx hb dX10_init_68 rfl (lv_at hl 0 rfl) ?_
  refine lv_sipush (v := 250) hx hb dX10_init_69 (by decide) ?_
  refine pw_nI (N := 250) C hW hS tq_160 (by decide) (by decide) (Nat.le_of_ble_eq_true rfl) (Nat.le_of_ble_eq_true rfl) (Nat.le_of_ble_eq_true rfl) dX10_init_72 hF (fun M av9 H hW hS hF => ?_)
  refine W.widen (k := 9) (n := 1268) (Nat.le_of_ble_eq_true rfl) (Nat.le_of_ble_eq_true rfl) ?_
  refine pw_pR C hW hS pc_9 (k := 20) (by decide) (Or.inr ⟨_, rfl⟩) rfl tq_938 (Or.inr ⟨rfl, rfl⟩) dX10_init_74 hF (fun M H locs hW hS hF => ?_)
  refine lv_aload_n hx hb dX10_init_77 rfl (lv_at hl 0 rfl) ?_
  refine lv_iconst (v := -1) hx hb dX10_init_78 (by decide) ?_
  refine pw_pI C hW hS pc_9 (k := 25) (by decide) rfl rfl tq_943 rfl dX10_init_79 hF (fun M H locs hW hS hF => ?_)
  refine lv_aload_n hx hb dX10_init_82 rfl (lv_at hl 0 rfl) ?_
  refine lv_sipush (v := 1204) hx hb dX10_init_83 (by decide) ?_
  refine pw_nI (N := 1204) C hW hS tq_160 (by decide) (by decide) (Nat.le_of_ble_eq_true rfl) (Nat.le_of_ble_eq_true rfl) (Nat.le_of_ble_eq_true rfl) dX10_init_86 hF (fun M av10 H hW hS hF => ?_)
  refine W.widen (k := 10) (n := 2472) (Nat.le_of_ble_eq_true rfl) (Nat.le_of_ble_eq_true rfl) ?_
  refine pw_pR C hW hS pc_9 (k := 27) (by decide) (Or.inr ⟨_, rfl⟩) rfl tq_945 (Or.inr ⟨rfl, rfl⟩) dX10_init_88 hF (fun M H locs hW hS hF => ?_)
  refine lv_aload_n hx hb dX10_init_91 rfl (lv_at hl 0 rfl) ?_
  refine lv_sipush (v := 1204) hx hb dX10_init_92 (by decide) ?_
  refine pw_nI (N := 1204) C hW hS tq_160 (by decide) (by decide) (Nat.le_of_ble_eq_true rfl) (Nat.le_of_ble_eq_true rfl) (Nat.le_of_ble_eq_true rfl) dX10_init_95 hF (fun M av11 H hW hS hF => ?_)
  refine W.widen (k := 11) (n := 3676) (Nat.le_of_ble_eq_true rfl) (Nat.le_of_ble_eq_true rfl) ?_
  refine pw_pR C hW hS pc_9 (k := 28) (by decide) (Or.inr ⟨_, rfl⟩) rfl tq_946 (Or.inr ⟨rfl, rfl⟩) dX10_init_97 hF (fun M H locs hW hS hF => ?_)
  refine lv_aload_n hx hb dX10_init_100 rfl (lv_at hl 0 rfl) ?_
  refine lv_sipush (v := 1204) hx hb dX10_init_101 (by decide) ?_
  refine pw_nI (N := 1204) C hW hS tq_160 (by decide) (by decide) (Nat.le_of_ble_eq_true rfl) (Nat.le_of_ble_eq_true rfl) (Nat.le_of_ble_eq_true rfl) dX10_init_104 hF (fun M av12 H hW hS hF => ?_)
  refine W.widen (k := 12) (n := 4880) (Nat.le_of_ble_eq_true rfl) (Nat.le_of_ble_eq_true rfl) ?_
  refine pw_pR C hW hS pc_9 (k := 29) (by decide) (Or.inr ⟨_, rfl⟩) rfl tq_947 (Or.inr ⟨rfl, rfl⟩) dX10_init_106 hF (fun M H locs hW hS hF => ?_)
  refine lv_aload_n hx hb dX10_init_109 rfl (lv_at hl 0 rfl) ?_
  refine lv_sipush (v := 1204) hx hb dX10_init_110 (by decide) ?_
  refine pw_nI (N := 1204) C hW hS tq_160 (by decide) (by decide) (Nat.le_of_ble_eq_true rfl) (Nat.le_of_ble_eq_true rfl) (Nat.le_of_ble_eq_true rfl) dX10_init_113 hF (fun M av13 H hW hS hF => ?_)
  refine W.widen (k := 13) (n := 6084) (Nat.le_of_ble_eq_true rfl) (Nat.le_of_ble_eq_true rfl) ?_
  refine pw_pR C hW hS pc_9 (k := 30) (by decide) (Or.inr ⟨_, rfl⟩) rfl tq_948 (Or.inr ⟨rfl, rfl⟩) dX10_init_115 hF (fun M H locs hW hS hF => ?_)
  refine lv_aload_n hx hb dX10_init_118 rfl (lv_at hl 0 rfl) ?_
  refine lv_bipush (v := 8) hx hb dX10_init_119 (by decide) ?_
  refine pw_nI (N := 8) C hW hS tq_160 (by decide) (by decide) (Nat.le_of_ble_eq_true rfl) (Nat.le_of_ble_eq_true rfl) (Nat.le_of_ble_eq_true rfl) dX10_init_121 hF (fun M av14 H hW hS hF => ?_)
  refine W.widen (k := 14) (n := 6092) (Nat.le_of_ble_eq_true rfl) (Nat.le_of_ble_eq_true rfl) ?_
  refine pw_pR C hW hS pc_9 (k := 31) (by decide) (Or.inr ⟨_, rfl⟩) rfl tq_949 (Or.inr ⟨rfl, rfl⟩) dX10_init_123 hF (fun M H locs hW hS hF => ?_)
  refine lv_aload_n hx hb dX10_init_126 rfl (lv_at hl 0 rfl) ?_
  refine lv_bipush (v := 20) hx hb dX10_init_127 (by decide) ?_
  refine pw_nI (N := 20) C hW hS tq_160 (by decide) (by decide) (Nat.le_of_ble_eq_true rfl) (Nat.le_of_ble_eq_true rfl) (Nat.le_of_ble_eq_true rfl) dX10_init_129 hF (fun M av15 H hW hS hF => ?_)
  refine W.widen (k := 15) (n := 6112) (Nat.le_of_ble_eq_true rfl) (Nat.le_of_ble_eq_true rfl) ?_
  refine pw_pR C hW hS pc_9 (k := 33) (by decide) (Or.inr ⟨_, rfl⟩) rfl tq_951 (Or.inr ⟨rfl, rfl⟩) dX10_init_131 hF (fun M H locs hW hS hF => ?_)
  refine lv_aload_n hx hb dX10_init_134 rfl (lv_at hl 0 rfl) ?_
  refine lv_iconst (v := 2) hx hb dX10_init_135 (by decide) ?_
  refine pw_pI C hW hS pc_9 (k := 4) (by decide) rfl rfl tq_922 rfl dX10_init_136 hF (fun M H locs hW hS hF => ?_)
  refine lv_aload_n hx hb dX10_init_139 rfl (lv_at hl 0 rfl) ?_
  refine lv_bipush (v := 12) hx hb dX10_init_140 (by decide) ?_
  refine pw_pI C hW hS pc_9 (k := 6) (by decide) rfl rfl tq_924 rfl dX10_init_142 hF (fun M H locs hW hS hF => ?_)
  refine lv_aload_n hx hb dX10_init_145 rfl (lv_at hl 0 rfl) ?_
  refine pw_gR C hW pc_9 (k := 0) (by decide) rfl tq_918 dX10_init_146 hF (fun av16 hF => ?_)
  refine lv_bipush (v := 16) hx hb dX10_init_149 (by decide) ?_
  refine lv_iconst (v := -1) hx hb dX10_init_151 (by decide) ?_
  refine pw_xI C hW hS dX10_init_152 hF (fun M H locs hW hS hF => ?_)
  refine lv_aload_n hx hb dX10_init_153 rfl (lv_at hl 0 rfl) ?_
  refine pw_gR C hW pc_9 (k := 0) (by decide) rfl tq_918 dX10_init_154 hF (fun av17 hF => ?_)
  refine lv_bipush (v := 17) hx hb dX10_init_157 (by decide) ?_
  refine lv_iconst (v := -1) hx hb dX10_init_159 (by decide) ?_
  refine pw_xI C hW hS dX10_init_160 hF (fun M H locs hW hS hF => ?_)
  refine lv_aload_n hx hb dX10_init_161 rfl (lv_at hl 0 rfl) ?_
  refine pw_gR C hW pc_9 (k := 0) (by decide) rfl tq_918 dX10_init_162 hF (fun av18 hF => ?_)
  refine lv_bipush (v := 18) hx hb dX10_init_165 (by decide) ?_
  refine lv_iconst (v := -1) hx hb dX10_init_167 (by decide) ?_
  refine pw_xI C hW hS dX10_init_168 hF (fun M H locs hW hS hF => ?_)
  refine lv_aload_n hx hb dX10_init_169 rfl (lv_at hl 0 rfl) ?_
  refine pw_gR C hW pc_9 (k := 0) (by decide) rfl tq_918 dX10_init_170 hF (fun av19 hF => ?_)
  refine lv_bipush (v := 24) hx hb dX10_init_173 (by decide) ?_
  refine lv_iconst (v := 5) hx hb dX10_init_175 (by decide) ?_
  refine pw_xI C hW hS dX10_init_176 hF (fun M H locs hW hS hF => ?_)
  exact pw_vret C hW hS dX10_init_177 hF
theorem mf_X10_init : ps_mf yX10_init cX10_init 1 none 0 := ⟨tq_916, tq_71, by decide +kernel, by decide +kernel, by decide +kernel⟩
theorem c_X10_init {l : Launch} {D : va_G} {Y : ps_A} {B : Nat} {M : ps_M} {a0 : Nat} {M' : ps_M} (hF : f_X10_init M a0 = some M') : Met l yX10_init (Cond.code yX10_init cX10_init 1 none :: tb_G) rm_X10_init (ps_PB D Y B M [.ref (B + a0)]) (va_Qv (fun (_ : Unit) => True) (fun _ t => ps_St D Y B M' t) (fun q => B ≤ q)) 15 6112 (fun q => B ≤ q) :=
  pm_of (by decide +kernel) (Nat.le_of_ble_eq_true rfl) (fun p e s m args below meth c C hW hS ls hl => kb_X10_init C hF hW hS hl)

end
