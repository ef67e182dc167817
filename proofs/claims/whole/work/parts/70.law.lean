/-! THE LAW, over an invariant -/
def ps_Mz : ps_M := (fun _ _ => 0, fun _ _ => 0, fun _ => 0, fun _ => 0, 0)
def f_law_init : Option (Nat × Nat × ps_M) := ps_nO ps_Mz 8 (fun M a => ps_b1 (f_X9_init M a) (fun M => ps_nO M 9 (fun M a2 => ps_b1 (f_X10_init M a2) (fun M => some (a, a2, M)))))
/-- the two answer alike, and the invariant holds behind -/
def ps_eqv (Inv : Nat → ps_M → Prop) (k : Nat) (M : ps_M) (X : Option (Int32 × ps_M)) (Z : ps_M → Option (Int32 × ps_M)) : Prop := ps_K M 0 = 9 ∧ ∃ r M1 M2, X = some (r, M1) ∧ ps_K M1 205 = 10 ∧ Z M1 = some (r, M2) ∧ Inv (k + 1) M2
section
variable {p : Program} {l : Launch} {e : Env} {s : State} {m : MethodId} {below : List Frame} {meth : Method} {c : Code} {H : Heap} {locs : List Loc} {ls : Array Slot} {D : va_G} {Y : ps_A} {B : Nat} {b L : Nat} {xs : Nat → Int32}

def ps_arm0 (Inv : Nat → ps_M → Prop) : Prop := ∀ (k : Nat) (M : ps_M) (y1 : Int32), k < 512 → Inv k M → ps_eqv Inv k M (f_X9_feed M 0 y1) (fun M => f_X10_feed M 205 y1)
set_option maxRecDepth 100000 in
set_option maxHeartbeats 4000000 in
theorem la_0 {Inv : Nat → ps_M → Prop} (harm : ps_arm0 Inv) (C : ps_C p s m #[Value.ref b] meth c code 4 RL ret meth.name D Y B) (hX : va_X b L xs s s.heap) (hbl : b < s.heap.size) (hbA : ¬ (fun q => B ≤ q) b) {k : Nat} {x3 : Int32} (h1 : vp_in (x3 + 1) L) (h2 : vp_in (x3 + 2) L) (h3 : vp_in (x3 + 3) L) {M : ps_M} (hk : k < 512) (hI : Inv k M) (kk : ∀ (M : ps_M) (H : Heap) (locs : List Loc), Inv (k + 1) M → ps_W D Y B M H → va_S (fun q => B ≤ q) s.heap H locs → W p l e room_1 s m #[Value.ref b] below meth c H locs 221 7852 (lw_Z below #[Value.ref b] s) (F0 m 1013 ls [])) (hW : ps_W D Y B M H) (hS : va_S (fun q => B ≤ q) s.heap H locs) (hl : lv_has ls 4 [(0, .ref b), (1, .ref (B + 0)), (2, .ref (B + 205)), (3, .int x3)]) : W p l e room_1 s m #[Value.ref b] below meth c H locs 221 7852 (lw_Z below #[Value.ref b] s) (F0 m 188 ls []) := by
  have hx := C.1
  have hb := C.2.1
  obtain ⟨hK1, r, M1, M2, hc1, hK2, hc2, hI2⟩ := harm k M (xs (x3 + 1).toNatClampNeg) hk hI
  refine lv_aload_n hx hb dL_law_188 rfl (lv_at hl 1 rfl) ?_
  refine lv_aload_n hx hb dL_law_189 rfl (lv_at hl 0 rfl) ?_
  refine lv_iload_n hx hb dL_law_190 rfl (lv_at hl 3 rfl) ?_
  refine lv_iconst (v := 1) hx hb dL_law_191 (by decide) ?_
  refine lv_iadd hx hb dL_law_192 ?_
  refine va_sld hx hb hX hbl hbA hS h1 dL_law_193 ?_
  refine ps_backI (x0 := r) (M' := M1) hS (ps_callV C hW pc_8 mf_X9_feed tq_431 tq_432 tq_430 ⟨Nat.le_of_ble_eq_true rfl, Nat.le_of_ble_eq_true rfl⟩ rfl rfl (As := [.int (xs (x3 + 1).toNatClampNeg)]) (rest := []) (c_X9_feed hc1) hK1 rfl hl.1 rfl (Nat.le_of_ble_eq_true rfl) dL_law_194 ⟨Nat.le_of_ble_eq_true rfl, Nat.le_of_ble_eq_true rfl⟩) (fun H locs hW hS => ?_)
  refine lv_aload_n hx hb dL_law_197 rfl (lv_at hl 2 rfl) ?_
  refine lv_aload_n hx hb dL_law_198 rfl (lv_at hl 0 rfl) ?_
  refine lv_iload_n hx hb dL_law_199 rfl (lv_at hl 3 rfl) ?_
  refine lv_iconst (v := 1) hx hb dL_law_200 (by decide) ?_
  refine lv_iadd hx hb dL_law_201 ?_
  refine va_sld hx hb hX hbl hbA hS h1 dL_law_202 ?_
  refine ps_backI (x0 := r) (M' := M2) hS (ps_callV C hW pc_9 mf_X10_feed tq_1026 tq_1027 tq_1025 ⟨Nat.le_of_ble_eq_true rfl, Nat.le_of_ble_eq_true rfl⟩ rfl rfl (As := [.int (xs (x3 + 1).toNatClampNeg)]) (rest := [.int r]) (c_X10_feed hc2) hK2 rfl hl.1 rfl (Nat.le_of_ble_eq_true rfl) dL_law_203 ⟨Nat.le_of_ble_eq_true rfl, Nat.le_of_ble_eq_true rfl⟩) (fun H locs hW hS => ?_)
  refine lv_icmp_eq (tgt := 1013) hx hb dL_law_206 (by decide) (fun _ => ?_) (fun h => absurd rfl h)
  exact kk M2 _ _ hI2 hW hS
def ps_arm1 (Inv : Nat → ps_M → Prop) : Prop := ∀ (k : Nat) (M : ps_M), k < 512 → Inv k M → ps_eqv Inv k M (f_X9_yard M 0 ) (fun M => f_X10_yard M 205 )
set_option maxRecDepth 100000 in
set_option maxHeartbeats 4000000 in
theorem la_1 {Inv : Nat → ps_M → Prop} (harm : ps_arm1 Inv) (C : ps_C p s m #[Value.ref b] meth c code 4 RL ret meth.name D Y B) (hX : va_X b L xs s s.heap) (hbl : b < s.heap.size) (hbA : ¬ (fun q => B ≤ q) b) {k : Nat} {x3 : Int32} (h1 : vp_in (x3 + 1) L) (h2 : vp_in (x3 + 2) L) (h3 : vp_in (x3 + 3) L) {M : ps_M} (hk : k < 512) (hI : Inv k M) (kk : ∀ (M : ps_M) (H : Heap) (locs : List Loc), Inv (k + 1) M → ps_W D Y B M H → va_S (fun q => B ≤ q) s.heap H locs → W p l e room_1 s m #[Value.ref b] below meth c H locs 221 7852 (lw_Z below #[Value.ref b] s) (F0 m 1013 ls [])) (hW : ps_W D Y B M H) (hS : va_S (fun q => B ≤ q) s.heap H locs) (hl : lv_has ls 4 [(0, .ref b), (1, .ref (B + 0)), (2, .ref (B + 205)), (3, .int x3)]) : W p l e room_1 s m #[Value.ref b] below meth c H locs 221 7852 (lw_Z below #[Value.ref b] s) (F0 m 211 ls []) := by
  have hx := C.1
  have hb := C.2.1
  obtain ⟨hK1, r, M1, M2, hc1, hK2, hc2, hI2⟩ := harm k M  hk hI
  refine lv_aload_n hx hb dL_law_211 rfl (lv_at hl 1 rfl) ?_
  refine ps_backI (x0 := r) (M' := M1) hS (ps_callV C hW pc_8 mf_X9_yard tq_444 tq_445 tq_443 ⟨Nat.le_of_ble_eq_true rfl, Nat.le_of_ble_eq_true rfl⟩ rfl rfl (As := []) (rest := []) (c_X9_yard hc1) hK1 rfl hl.1 rfl (Nat.le_of_ble_eq_true rfl) dL_law_212 ⟨Nat.le_of_ble_eq_true rfl, Nat.le_of_ble_eq_true rfl⟩) (fun H locs hW hS => ?_)
  refine lv_aload_n hx hb dL_law_215 rfl (lv_at hl 2 rfl) ?_
  refine ps_backI (x0 := r) (M' := M2) hS (ps_callV C hW pc_9 mf_X10_yard tq_1036 tq_1037 tq_1035 ⟨Nat.le_of_ble_eq_true rfl, Nat.le_of_ble_eq_true rfl⟩ rfl rfl (As := []) (rest := [.int r]) (c_X10_yard hc2) hK2 rfl hl.1 rfl (Nat.le_of_ble_eq_true rfl) dL_law_216 ⟨Nat.le_of_ble_eq_true rfl, Nat.le_of_ble_eq_true rfl⟩) (fun H locs hW hS => ?_)
  refine lv_icmp_eq (tgt := 1013) hx hb dL_law_219 (by decide) (fun _ => ?_) (fun h => absurd rfl h)
  exact kk M2 _ _ hI2 hW hS
def ps_arm2 (Inv : Nat → ps_M → Prop) : Prop := ∀ (k : Nat) (M : ps_M), k < 512 → Inv k M → ps_eqv Inv k M (f_X9_fault M 0 ) (fun M => f_X10_fault M 205 )
set_option maxRecDepth 100000 in
set_option maxHeartbeats 4000000 in
theorem la_2 {Inv : Nat → ps_M → Prop} (harm : ps_arm2 Inv) (C : ps_C p s m #[Value.ref b] meth c code 4 RL ret meth.name D Y B) (hX : va_X b L xs s s.heap) (hbl : b < s.heap.size) (hbA : ¬ (fun q => B ≤ q) b) {k : Nat} {x3 : Int32} (h1 : vp_in (x3 + 1) L) (h2 : vp_in (x3 + 2) L) (h3 : vp_in (x3 + 3) L) {M : ps_M} (hk : k < 512) (hI : Inv k M) (kk : ∀ (M : ps_M) (H : Heap) (locs : List Loc), Inv (k + 1) M → ps_W D Y B M H → va_S (fun q => B ≤ q) s.heap H locs → W p l e room_1 s m #[Value.ref b] below meth c H locs 221 7852 (lw_Z below #[Value.ref b] s) (F0 m 1013 ls [])) (hW : ps_W D Y B M H) (hS : va_S (fun q => B ≤ q) s.heap H locs) (hl : lv_has ls 4 [(0, .ref b), (1, .ref (B + 0)), (2, .ref (B + 205)), (3, .int x3)]) : W p l e room_1 s m #[Value.ref b] below meth c H locs 221 7852 (lw_Z below #[Value.ref b] s) (F0 m 224 ls []) := by
  have hx := C.1
  have hb := C.2.1
  obtain ⟨hK1, r, M1, M2, hc1, hK2, hc2, hI2⟩ := harm k M  hk hI
  refine lv_aload_n hx hb dL_law_224 rfl (lv_at hl 1 rfl) ?_
  refine ps_backI (x0 := r) (M' := M1) hS (ps_callV C hW pc_8 mf_X9_fault tq_528 tq_529 tq_527 ⟨Nat.le_of_ble_eq_true rfl, Nat.le_of_ble_eq_true rfl⟩ rfl rfl (As := []) (rest := []) (c_X9_fault hc1) hK1 rfl hl.1 rfl (Nat.le_of_ble_eq_true rfl) dL_law_225 ⟨Nat.le_of_ble_eq_true rfl, Nat.le_of_ble_eq_true rfl⟩) (fun H locs hW hS => ?_)
  refine lv_aload_n hx hb dL_law_228 rfl (lv_at hl 2 rfl) ?_
  refine ps_backI (x0 := r) (M' := M2) hS (ps_callV C hW pc_9 mf_X10_fault tq_1081 tq_1082 tq_1080 ⟨Nat.le_of_ble_eq_true rfl, Nat.le_of_ble_eq_true rfl⟩ rfl rfl (As := []) (rest := [.int r]) (c_X10_fault hc2) hK2 rfl hl.1 rfl (Nat.le_of_ble_eq_true rfl) dL_law_229 ⟨Nat.le_of_ble_eq_true rfl, Nat.le_of_ble_eq_true rfl⟩) (fun H locs hW hS => ?_)
  refine lv_icmp_eq (tgt := 1013) hx hb dL_law_232 (by decide) (fun _ => ?_) (fun h => absurd rfl h)
  exact kk M2 _ _ hI2 hW hS
def ps_arm3 (Inv : Nat → ps_M → Prop) : Prop := ∀ (k : Nat) (M : ps_M) (y1 : Int32), k < 512 → Inv k M → ps_eqv Inv k M (f_X9_told M 0 y1) (fun M => f_X10_told M 205 y1)
set_option maxRecDepth 100000 in
set_option maxHeartbeats 4000000 in
theorem la_3 {Inv : Nat → ps_M → Prop} (harm : ps_arm3 Inv) (C : ps_C p s m #[Value.ref b] meth c code 4 RL ret meth.name D Y B) (hX : va_X b L xs s s.heap) (hbl : b < s.heap.size) (hbA : ¬ (fun q => B ≤ q) b) {k : Nat} {x3 : Int32} (h1 : vp_in (x3 + 1) L) (h2 : vp_in (x3 + 2) L) (h3 : vp_in (x3 + 3) L) {M : ps_M} (hk : k < 512) (hI : Inv k M) (kk : ∀ (M : ps_M) (H : Heap) (locs : List Loc), Inv (k + 1) M → ps_W D Y B M H → va_S (fun q => B ≤ q) s.heap H locs → W p l e room_1 s m #[Value.ref b] below meth c H locs 221 7852 (lw_Z below #[Value.ref b] s) (F0 m 1013 ls [])) (hW : ps_W D Y B M H) (hS : va_S (fun q => B ≤ q) s.heap H locs) (hl : lv_has ls 4 [(0, .ref b), (1, .ref (B + 0)), (2, .ref (B + 205)), (3, .int x3)]) : W p l e room_1 s m #[Value.ref b] below meth c H locs 221 7852 (lw_Z below #[Value.ref b] s) (F0 m 237 ls []) := by
  have hx := C.1
  have hb := C.2.1
  obtain ⟨hK1, r, M1, M2, hc1, hK2, hc2, hI2⟩ := harm k M (xs (x3 + 1).toNatClampNeg) hk hI
  refine lv_aload_n hx hb dL_law_237 rfl (lv_at hl 1 rfl) ?_
  refine lv_aload_n hx hb dL_law_238 rfl (lv_at hl 0 rfl) ?_
  refine lv_iload_n hx hb dL_law_239 rfl (lv_at hl 3 rfl) ?_
  refine lv_iconst (v := 1) hx hb dL_law_240 (by decide) ?_
  refine lv_iadd hx hb dL_law_241 ?_
  refine va_sld hx hb hX hbl hbA hS h1 dL_law_242 ?_
  refine ps_backI (x0 := r) (M' := M1) hS (ps_callV C hW pc_8 mf_X9_told tq_532 tq_533 tq_531 ⟨Nat.le_of_ble_eq_true rfl, Nat.le_of_ble_eq_true rfl⟩ rfl rfl (As := [.int (xs (x3 + 1).toNatClampNeg)]) (rest := []) (c_X9_told hc1) hK1 rfl hl.1 rfl (Nat.le_of_ble_eq_true rfl) dL_law_243 ⟨Nat.le_of_ble_eq_true rfl, Nat.le_of_ble_eq_true rfl⟩) (fun H locs hW hS => ?_)
  refine lv_aload_n hx hb dL_law_246 rfl (lv_at hl 2 rfl) ?_
  refine lv_aload_n hx hb dL_law_247 rfl (lv_at hl 0 rfl) ?_
  refine lv_iload_n hx hb dL_law_248 rfl (lv_at hl 3 rfl) ?_
  refine lv_iconst (v := 1) hx hb dL_law_249 (by decide) ?_
  refine lv_iadd hx hb dL_law_250 ?_
  refine va_sld hx hb hX hbl hbA hS h1 dL_law_251 ?_
  refine ps_backI (x0 := r) (M' := M2) hS (ps_callV C hW pc_9 mf_X10_told tq_1085 tq_1086 tq_1084 ⟨Nat.le_of_ble_eq_true rfl, Nat.le_of_ble_eq_true rfl⟩ rfl rfl (As := [.int (xs (x3 + 1).toNatClampNeg)]) (rest := [.int r]) (c_X10_told hc2) hK2 rfl hl.1 rfl (Nat.le_of_ble_eq_true rfl) dL_law_252 ⟨Nat.le_of_ble_eq_true rfl, Nat.le_of_ble_eq_true rfl⟩) (fun H locs hW hS => ?_)
  refine lv_icmp_eq (tgt := 1013) hx hb dL_law_255 (by decide) (fun _ => ?_) (fun h => absurd rfl h)
  exact kk M2 _ _ hI2 hW hS
def ps_arm4 (Inv : Nat → ps_M → Prop) : Prop := ∀ (k : Nat) (M : ps_M) (y1 : Int32), k < 512 → Inv k M → ps_eqv Inv k M (f_X9_wood M 0 y1) (fun M => f_X10_wood M 205 y1)
set_option maxRecDepth 100000 in
set_option maxHeartbeats 4000000 in
theorem la_4 {Inv : Nat → ps_M → Prop} (harm : ps_arm4 Inv) (C : ps_C p s m #[Value.ref b] meth c code 4 RL ret meth.name D Y B) (hX : va_X b L xs s s.heap) (hbl : b < s.heap.size) (hbA : ¬ (fun q => B ≤ q) b) {k : Nat} {x3 : Int32} (h1 : vp_in (x3 + 1) L) (h2 : vp_in (x3 + 2) L) (h3 : vp_in (x3 + 3) L) {M : ps_M} (hk : k < 512) (hI : Inv k M) (kk : ∀ (M : ps_M) (H : Heap) (locs : List Loc), Inv (k + 1) M → ps_W D Y B M H → va_S (fun q => B ≤ q) s.heap H locs → W p l e room_1 s m #[Value.ref b] below meth c H locs 221 7852 (lw_Z below #[Value.ref b] s) (F0 m 1013 ls [])) (hW : ps_W D Y B M H) (hS : va_S (fun q => B ≤ q) s.heap H locs) (hl : lv_has ls 4 [(0, .ref b), (1, .ref (B + 0)), (2, .ref (B + 205)), (3, .int x3)]) : W p l e room_1 s m #[Value.ref b] below meth c H locs 221 7852 (lw_Z below #[Value.ref b] s) (F0 m 260 ls []) := by
  have hx := C.1
  have hb := C.2.1
  obtain ⟨hK1, r, M1, M2, hc1, hK2, hc2, hI2⟩ := harm k M (xs (x3 + 1).toNatClampNeg) hk hI
  refine lv_aload_n hx hb dL_law_260 rfl (lv_at hl 1 rfl) ?_
  refine lv_aload_n hx hb dL_law_261 rfl (lv_at hl 0 rfl) ?_
  refine lv_iload_n hx hb dL_law_262 rfl (lv_at hl 3 rfl) ?_
  refine lv_iconst (v := 1) hx hb dL_law_263 (by decide) ?_
  refine lv_iadd hx hb dL_law_264 ?_
  refine va_sld hx hb hX hbl hbA hS h1 dL_law_265 ?_
  refine ps_backI (x0 := r) (M' := M1) hS (ps_callV C hW pc_8 mf_X9_wood tq_544 tq_545 tq_543 ⟨Nat.le_of_ble_eq_true rfl, Nat.le_of_ble_eq_true rfl⟩ rfl rfl (As := [.int (xs (x3 + 1).toNatClampNeg)]) (rest := []) (c_X9_wood hc1) hK1 rfl hl.1 rfl (Nat.le_of_ble_eq_true rfl) dL_law_266 ⟨Nat.le_of_ble_eq_true rfl, Nat.le_of_ble_eq_true rfl⟩) (fun H locs hW hS => ?_)
  refine lv_aload_n hx hb dL_law_269 rfl (lv_at hl 2 rfl) ?_
  refine lv_aload_n hx hb dL_law_270 rfl (lv_at hl 0 rfl) ?_
  refine lv_iload_n hx hb dL_law_271 rfl (lv_at hl 3 rfl) ?_
  refine lv_iconst (v := 1) hx hb dL_law_272 (by decide) ?_
  refine lv_iadd hx hb dL_law_273 ?_
  refine va_sld hx hb hX hbl hbA hS h1 dL_law_274 ?_
  refine ps_backI (x0 := r) (M' := M2) hS (ps_callV C hW pc_9 mf_X10_wood tq_1096 tq_1097 tq_1095 ⟨Nat.le_of_ble_eq_true rfl, Nat.le_of_ble_eq_true rfl⟩ rfl rfl (As := [.int (xs (x3 + 1).toNatClampNeg)]) (rest := [.int r]) (c_X10_wood hc2) hK2 rfl hl.1 rfl (Nat.le_of_ble_eq_true rfl) dL_law_275 ⟨Nat.le_of_ble_eq_true rfl, Nat.le_of_ble_eq_true rfl⟩) (fun H locs hW hS => ?_)
  refine lv_icmp_eq (tgt := 1013) hx hb dL_law_278 (by decide) (fun _ => ?_) (fun h => absurd rfl h)
  exact kk M2 _ _ hI2 hW hS
def ps_arm5 (Inv : Nat → ps_M → Prop) : Prop := ∀ (k : Nat) (M : ps_M) (y1 : Int32) (y2 : Int32), k < 512 → Inv k M → ps_eqv Inv k M (f_X9_person M 0 y1 y2) (fun M => f_X10_person M 205 y1 y2)
set_option maxRecDepth 100000 in
set_option maxHeartbeats 4000000 in
theorem la_5 {Inv : Nat → ps_M → Prop} (harm : ps_arm5 Inv) (C : ps_C p s m #[Value.ref b] meth c code 4 RL ret meth.name D Y B) (hX : va_X b L xs s s.heap) (hbl : b < s.heap.size) (hbA : ¬ (fun q => B ≤ q) b) {k : Nat} {x3 : Int32} (h1 : vp_in (x3 + 1) L) (h2 : vp_in (x3 + 2) L) (h3 : vp_in (x3 + 3) L) {M : ps_M} (hk : k < 512) (hI : Inv k M) (kk : ∀ (M : ps_M) (H : Heap) (locs : List Loc), Inv (k + 1) M → ps_W D Y B M H → va_S (fun q => B ≤ q) s.heap H locs → W p l e room_1 s m #[Value.ref b] below meth c H locs 221 7852 (lw_Z below #[Value.ref b] s) (F0 m 1013 ls [])) (hW : ps_W D Y B M H) (hS : va_S (fun q => B ≤ q) s.heap H locs) (hl : lv_has ls 4 [(0, .ref b), (1, .ref (B + 0)), (2, .ref (B + 205)), (3, .int x3)]) : W p l e room_1 s m #[Value.ref b] below meth c H locs 221 7852 (lw_Z below #[Value.ref b] s) (F0 m 283 ls []) := by
  have hx := C.1
  have hb := C.2.1
  obtain ⟨hK1, r, M1, M2, hc1, hK2, hc2, hI2⟩ := harm k M (xs (x3 + 1).toNatClampNeg) (xs (x3 + 2).toNatClampNeg) hk hI
  refine lv_aload_n hx hb dL_law_283 rfl (lv_at hl 1 rfl) ?_
  refine lv_aload_n hx hb dL_law_284 rfl (lv_at hl 0 rfl) ?_
  refine lv_iload_n hx hb dL_law_285 rfl (lv_at hl 3 rfl) ?_
  refine lv_iconst (v := 1) hx hb dL_law_286 (by decide) ?_
  refine lv_iadd hx hb dL_law_287 ?_
  refine va_sld hx hb hX hbl hbA hS h1 dL_law_288 ?_
  refine lv_aload_n hx hb dL_law_289 rfl (lv_at hl 0 rfl) ?_
  refine lv_iload_n hx hb dL_law_290 rfl (lv_at hl 3 rfl) ?_
  refine lv_iconst (v := 2) hx hb dL_law_291 (by decide) ?_
  refine lv_iadd hx hb dL_law_292 ?_
  refine va_sld hx hb hX hbl hbA hS h2 dL_law_293 ?_
  refine ps_backI (x0 := r) (M' := M1) hS (ps_callV C hW pc_8 mf_X9_person tq_552 tq_553 tq_551 ⟨Nat.le_of_ble_eq_true rfl, Nat.le_of_ble_eq_true rfl⟩ rfl rfl (As := [.int (xs (x3 + 1).toNatClampNeg), .int (xs (x3 + 2).toNatClampNeg)]) (rest := []) (c_X9_person hc1) hK1 rfl hl.1 rfl (Nat.le_of_ble_eq_true rfl) dL_law_294 ⟨Nat.le_of_ble_eq_true rfl, Nat.le_of_ble_eq_true rfl⟩) (fun H locs hW hS => ?_)
  refine lv_aload_n hx hb dL_law_297 rfl (lv_at hl 2 rfl) ?_
  refine lv_aload_n hx hb dL_law_298 rfl (lv_at hl 0 rfl) ?_
  refine lv_iload_n hx hb dL_law_299 rfl (lv_at hl 3 rfl) ?_
  refine lv_iconst (v := 1) hx hb dL_law_300 (by decide) ?_
  refine lv_iadd hx hb dL_law_301 ?_
  refine va_sld hx hb hX hbl hbA hS h1 dL_law_302 ?_
  refine lv_aload_n hx hb dL_law_303 rfl (lv_at hl 0 rfl) ?_
  refine lv_iload_n hx hb dL_law_304 rfl (lv_at hl 3 rfl) ?_
  refine lv_iconst (v := 2) hx hb dL_law_305 (by decide) ?_
  refine lv_iadd hx hb dL_law_306 ?_
  refine va_sld hx hb hX hbl hbA hS h2 dL_law_307 ?_
  refine ps_backI (x0 := r) (M' := M2) hS (ps_callV C hW pc_9 mf_X10_person tq_1101 tq_1102 tq_1100 ⟨Nat.le_of_ble_eq_true rfl, Nat.le_of_ble_eq_true rfl⟩ rfl rfl (As := [.int (xs (x3 + 1).toNatClampNeg), .int (xs (x3 + 2).toNatClampNeg)]) (rest := [.int r]) (c_X10_person hc2) hK2 rfl hl.1 rfl (Nat.le_of_ble_eq_true rfl) dL_law_308 ⟨Nat.le_of_ble_eq_true rfl, Nat.le_of_ble_eq_true rfl⟩) (fun H locs hW hS => ?_)
  refine lv_icmp_eq (tgt := 1013) hx hb dL_law_311 (by decide) (fun _ => ?_) (fun h => absurd rfl h)
  exact kk M2 _ _ hI2 hW hS
def ps_arm6 (Inv : Nat → ps_M → Prop) : Prop := ∀ (k : Nat) (M : ps_M) (y1 : Int32) (y2 : Int32), k < 512 → Inv k M → ps_eqv Inv k M (f_X9_log M 0 y1 y2) (fun M => f_X10_log M 205 y1 y2)
set_option maxRecDepth 100000 in
set_option maxHeartbeats 4000000 in
theorem la_6 {Inv : Nat → ps_M → Prop} (harm : ps_arm6 Inv) (C : ps_C p s m #[Value.ref b] meth c code 4 RL ret meth.name D Y B) (hX : va_X b L xs s s.heap) (hbl : b < s.heap.size) (hbA : ¬ (fun q => B ≤ q) b) {k : Nat} {x3 : Int32} (h1 : vp_in (x3 + 1) L) (h2 : vp_in (x3 + 2) L) (h3 : vp_in (x3 + 3) L) {M : ps_M} (hk : k < 512) (hI : Inv k M) (kk : ∀ (M : ps_M) (H : Heap) (locs : List Loc), Inv (k + 1) M → ps_W D Y B M H → va_S (fun q => B ≤ q) s.heap H locs → W p l e room_1 s m #[Value.ref b] below meth c H locs 221 7852 (lw_Z below #[Value.ref b] s) (F0 m 1013 ls [])) (hW : ps_W D Y B M H) (hS : va_S (fun q => B ≤ q) s.heap H locs) (hl : lv_has ls 4 [(0, .ref b), (1, .ref (B + 0)), (2, .ref (B + 205)), (3, .int x3)]) : W p l e room_1 s m #[Value.ref b] below meth c H locs 221 7852 (lw_Z below #[Value.ref b] s) (F0 m 316 ls []) := by
  have hx := C.1
  have hb := C.2.1
  obtain ⟨hK1, r, M1, M2, hc1, hK2, hc2, hI2⟩ := harm k M (xs (x3 + 1).toNatClampNeg) (xs (x3 + 2).toNatClampNeg) hk hI
  refine lv_aload_n hx hb dL_law_316 rfl (lv_at hl 1 rfl) ?_
  refine lv_aload_n hx hb dL_law_317 rfl (lv_at hl 0 rfl) ?_
  refine lv_iload_n hx hb dL_law_318 rfl (lv_at hl 3 rfl) ?_
  refine lv_iconst (v := 1) hx hb dL_law_319 (by decide) ?_
  refine lv_iadd hx hb dL_law_320 ?_
  refine va_sld hx hb hX hbl hbA hS h1 dL_law_321 ?_
  refine lv_aload_n hx hb dL_law_322 rfl (lv_at hl 0 rfl) ?_
  refine lv_iload_n hx hb dL_law_323 rfl (lv_at hl 3 rfl) ?_
  refine lv_iconst (v := 2) hx hb dL_law_324 (by decide) ?_
  refine lv_iadd hx hb dL_law_325 ?_
  refine va_sld hx hb hX hbl hbA hS h2 dL_law_326 ?_
  refine ps_backI (x0 := r) (M' := M1) hS (ps_callV C hW pc_8 mf_X9_log tq_560 tq_561 tq_559 ⟨Nat.le_of_ble_eq_true rfl, Nat.le_of_ble_eq_true rfl⟩ rfl rfl (As := [.int (xs (x3 + 1).toNatClampNeg), .int (xs (x3 + 2).toNatClampNeg)]) (rest := []) (c_X9_log hc1) hK1 rfl hl.1 rfl (Nat.le_of_ble_eq_true rfl) dL_law_327 ⟨Nat.le_of_ble_eq_true rfl, Nat.le_of_ble_eq_true rfl⟩) (fun H locs hW hS => ?_)
  refine lv_aload_n hx hb dL_law_330 rfl (lv_at hl 2 rfl) ?_
  refine lv_aload_n hx hb dL_law_331 rfl (lv_at hl 0 rfl) ?_
  refine lv_iload_n hx hb dL_law_332 rfl (lv_at hl 3 rfl) ?_
  refine lv_iconst (v := 1) hx hb dL_law_333 (by decide) ?_
  refine lv_iadd hx hb dL_law_334 ?_
  refine va_sld hx hb hX hbl hbA hS h1 dL_law_335 ?_
  refine lv_aload_n hx hb dL_law_336 rfl (lv_at hl 0 rfl) ?_
  refine lv_iload_n hx hb dL_law_337 rfl (lv_at hl 3 rfl) ?_
  refine lv_iconst (v := 2) hx hb dL_law_338 (by decide) ?_
  refine lv_iadd hx hb dL_law_339 ?_
  refine va_sld hx hb hX hbl hbA hS h2 dL_law_340 ?_
  refine ps_backI (x0 := r) (M' := M2) hS (ps_callV C hW pc_9 mf_X10_log tq_1109 tq_1110 tq_1108 ⟨Nat.le_of_ble_eq_true rfl, Nat.le_of_ble_eq_true rfl⟩ rfl rfl (As := [.int (xs (x3 + 1).toNatClampNeg), .int (xs (x3 + 2).toNatClampNeg)]) (rest := [.int r]) (c_X10_log hc2) hK2 rfl hl.1 rfl (Nat.le_of_ble_eq_true rfl) dL_law_341 ⟨Nat.le_of_ble_eq_true rfl, Nat.le_of_ble_eq_true rfl⟩) (fun H locs hW hS => ?_)
  refine lv_icmp_eq (tgt := 1013) hx hb dL_law_344 (by decide) (fun _ => ?_) (fun h => absurd rfl h)
  exact kk M2 _ _ hI2 hW hS
def ps_arm7 (Inv : Nat → ps_M → Prop) : Prop := ∀ (k : Nat) (M : ps_M) (y1 : Int32), k < 512 → Inv k M → ps_eqv Inv k M (f_X9_stroke M 0 y1) (fun M => f_X10_stroke M 205 y1)
set_option maxRecDepth 100000 in
set_option maxHeartbeats 4000000 in
theorem la_7 {Inv : Nat → ps_M → Prop} (harm : ps_arm7 Inv) (C : ps_C p s m #[Value.ref b] meth c code 4 RL ret meth.name D Y B) (hX : va_X b L xs s s.heap) (hbl : b < s.heap.size) (hbA : ¬ (fun q => B ≤ q) b) {k : Nat} {x3 : Int32} (h1 : vp_in (x3 + 1) L) (h2 : vp_in (x3 + 2) L) (h3 : vp_in (x3 + 3) L) {M : ps_M} (hk : k < 512) (hI : Inv k M) (kk : ∀ (M : ps_M) (H : Heap) (locs : List Loc), Inv (k + 1) M → ps_W D Y B M H → va_S (fun q => B ≤ q) s.heap H locs → W p l e room_1 s m #[Value.ref b] below meth c H locs 221 7852 (lw_Z below #[Value.ref b] s) (F0 m 1013 ls [])) (hW : ps_W D Y B M H) (hS : va_S (fun q => B ≤ q) s.heap H locs) (hl : lv_has ls 4 [(0, .ref b), (1, .ref (B + 0)), (2, .ref (B + 205)), (3, .int x3)]) : W p l e room_1 s m #[Value.ref b] below meth c H locs 221 7852 (lw_Z below #[Value.ref b] s) (F0 m 349 ls []) := by
  have hx := C.1
  have hb := C.2.1
  obtain ⟨hK1, r, M1, M2, hc1, hK2, hc2, hI2⟩ := harm k M (xs (x3 + 1).toNatClampNeg) hk hI
  refine lv_aload_n hx hb dL_law_349 rfl (lv_at hl 1 rfl) ?_
  refine lv_aload_n hx hb dL_law_350 rfl (lv_at hl 0 rfl) ?_
  refine lv_iload_n hx hb dL_law_351 rfl (lv_at hl 3 rfl) ?_
  refine lv_iconst (v := 1) hx hb dL_law_352 (by decide) ?_
  refine lv_iadd hx hb dL_law_353 ?_
  refine va_sld hx hb hX hbl hbA hS h1 dL_law_354 ?_
  refine ps_backI (x0 := r) (M' := M1) hS (ps_callV C hW pc_8 mf_X9_stroke tq_575 tq_576 tq_574 ⟨Nat.le_of_ble_eq_true rfl, Nat.le_of_ble_eq_true rfl⟩ rfl rfl (As := [.int (xs (x3 + 1).toNatClampNeg)]) (rest := []) (c_X9_stroke hc1) hK1 rfl hl.1 rfl (Nat.le_of_ble_eq_true rfl) dL_law_355 ⟨Nat.le_of_ble_eq_true rfl, Nat.le_of_ble_eq_true rfl⟩) (fun H locs hW hS => ?_)
  refine lv_aload_n hx hb dL_law_358 rfl (lv_at hl 2 rfl) ?_
  refine lv_aload_n hx hb dL_law_359 rfl (lv_at hl 0 rfl) ?_
  refine lv_iload_n hx hb dL_law_360 rfl (lv_at hl 3 rfl) ?_
  refine lv_iconst (v := 1) hx hb dL_law_361 (by decide) ?_
  refine lv_iadd hx hb dL_law_362 ?_
  refine va_sld hx hb hX hbl hbA hS h1 dL_law_363 ?_
  refine ps_backI (x0 := r) (M' := M2) hS (ps_callV C hW pc_9 mf_X10_stroke tq_1114 tq_1115 tq_1113 ⟨Nat.le_of_ble_eq_true rfl, Nat.le_of_ble_eq_true rfl⟩ rfl rfl (As := [.int (xs (x3 + 1).toNatClampNeg)]) (rest := [.int r]) (c_X10_stroke hc2) hK2 rfl hl.1 rfl (Nat.le_of_ble_eq_true rfl) dL_law_364 ⟨Nat.le_of_ble_eq_true rfl, Nat.le_of_ble_eq_true rfl⟩) (fun H locs hW hS => ?_)
  refine lv_icmp_eq (tgt := 1013) hx hb dL_law_367 (by decide) (fun _ => ?_) (fun h => absurd rfl h)
  exact kk M2 _ _ hI2 hW hS
def ps_arm8 (Inv : Nat → ps_M → Prop) : Prop := ∀ (k : Nat) (M : ps_M) (y1 : Int32), k < 512 → Inv k M → ps_eqv Inv k M (f_X9_rest M 0 y1) (fun M => f_X10_rest M 205 y1)
set_option maxRecDepth 100000 in
set_option maxHeartbeats 4000000 in
theorem la_8 {Inv : Nat → ps_M → Prop} (harm : ps_arm8 Inv) (C : ps_C p s m #[Value.ref b] meth c code 4 RL ret meth.name D Y B) (hX : va_X b L xs s s.heap) (hbl : b < s.heap.size) (hbA : ¬ (fun q => B ≤ q) b) {k : Nat} {x3 : Int32} (h1 : vp_in (x3 + 1) L) (h2 : vp_in (x3 + 2) L) (h3 : vp_in (x3 + 3) L) {M : ps_M} (hk : k < 512) (hI : Inv k M) (kk : ∀ (M : ps_M) (H : Heap) (locs : List Loc), Inv (k + 1) M → ps_W D Y B M H → va_S (fun q => B ≤ q) s.heap H locs → W p l e room_1 s m #[Value.ref b] below meth c H locs 221 7852 (lw_Z below #[Value.ref b] s) (F0 m 1013 ls [])) (hW : ps_W D Y B M H) (hS : va_S (fun q => B ≤ q) s.heap H locs) (hl : lv_has ls 4 [(0, .ref b), (1, .ref (B + 0)), (2, .ref (B + 205)), (3, .int x3)]) : W p l e room_1 s m #[Value.ref b] below meth c H locs 221 7852 (lw_Z below #[Value.ref b] s) (F0 m 372 ls []) := by
  have hx := C.1
  have hb := C.2.1
  obtain ⟨hK1, r, M1, M2, hc1, hK2, hc2, hI2⟩ := harm k M (xs (x3 + 1).toNatClampNeg) hk hI
  refine lv_aload_n hx hb dL_law_372 rfl (lv_at hl 1 rfl) ?_
  refine lv_aload_n hx hb dL_law_373 rfl (lv_at hl 0 rfl) ?_
  refine lv_iload_n hx hb dL_law_374 rfl (lv_at hl 3 rfl) ?_
  refine lv_iconst (v := 1) hx hb dL_law_375 (by decide) ?_
  refine lv_iadd hx hb dL_law_376 ?_
  refine va_sld hx hb hX hbl hbA hS h1 dL_law_377 ?_
  refine ps_backI (x0 := r) (M' := M1) hS (ps_callV C hW pc_8 mf_X9_rest tq_636 tq_637 tq_635 ⟨Nat.le_of_ble_eq_true rfl, Nat.le_of_ble_eq_true rfl⟩ rfl rfl (As := [.int (xs (x3 + 1).toNatClampNeg)]) (rest := []) (c_X9_rest hc1) hK1 rfl hl.1 rfl (Nat.le_of_ble_eq_true rfl) dL_law_378 ⟨Nat.le_of_ble_eq_true rfl, Nat.le_of_ble_eq_true rfl⟩) (fun H locs hW hS => ?_)
  refine lv_aload_n hx hb dL_law_381 rfl (lv_at hl 2 rfl) ?_
  refine lv_aload_n hx hb dL_law_382 rfl (lv_at hl 0 rfl) ?_
  refine lv_iload_n hx hb dL_law_383 rfl (lv_at hl 3 rfl) ?_
  refine lv_iconst (v := 1) hx hb dL_law_384 (by decide) ?_
  refine lv_iadd hx hb dL_law_385 ?_
  refine va_sld hx hb hX hbl hbA hS h1 dL_law_386 ?_
  refine ps_backI (x0 := r) (M' := M2) hS (ps_callV C hW pc_9 mf_X10_rest tq_1148 tq_1149 tq_1147 ⟨Nat.le_of_ble_eq_true rfl, Nat.le_of_ble_eq_true rfl⟩ rfl rfl (As := [.int (xs (x3 + 1).toNatClampNeg)]) (rest := [.int r]) (c_X10_rest hc2) hK2 rfl hl.1 rfl (Nat.le_of_ble_eq_true rfl) dL_law_387 ⟨Nat.le_of_ble_eq_true rfl, Nat.le_of_ble_eq_true rfl⟩) (fun H locs hW hS => ?_)
  refine lv_icmp_eq (tgt := 1013) hx hb dL_law_390 (by decide) (fun _ => ?_) (fun h => absurd rfl h)
  exact kk M2 _ _ hI2 hW hS
def ps_arm9 (Inv : Nat → ps_M → Prop) : Prop := ∀ (k : Nat) (M : ps_M), k < 512 → Inv k M → ps_eqv Inv k M (f_X9_sides M 0 ) (fun M => f_X10_sides M 205 )
set_option maxRecDepth 100000 in
set_option maxHeartbeats 4000000 in
theorem la_9 {Inv : Nat → ps_M → Prop} (harm : ps_arm9 Inv) (C : ps_C p s m #[Value.ref b] meth c code 4 RL ret meth.name D Y B) (hX : va_X b L xs s s.heap) (hbl : b < s.heap.size) (hbA : ¬ (fun q => B ≤ q) b) {k : Nat} {x3 : Int32} (h1 : vp_in (x3 + 1) L) (h2 : vp_in (x3 + 2) L) (h3 : vp_in (x3 + 3) L) {M : ps_M} (hk : k < 512) (hI : Inv k M) (kk : ∀ (M : ps_M) (H : Heap) (locs : List Loc), Inv (k + 1) M → ps_W D Y B M H → va_S (fun q => B ≤ q) s.heap H locs → W p l e room_1 s m #[Value.ref b] below meth c H locs 221 7852 (lw_Z below #[Value.ref b] s) (F0 m 1013 ls [])) (hW : ps_W D Y B M H) (hS : va_S (fun q => B ≤ q) s.heap H locs) (hl : lv_has ls 4 [(0, .ref b), (1, .ref (B + 0)), (2, .ref (B + 205)), (3, .int x3)]) : W p l e room_1 s m #[Value.ref b] below meth c H locs 221 7852 (lw_Z below #[Value.ref b] s) (F0 m 395 ls []) := by
  have hx := C.1
  have hb := C.2.1
  obtain ⟨hK1, r, M1, M2, hc1, hK2, hc2, hI2⟩ := harm k M  hk hI
  refine lv_aload_n hx hb dL_law_395 rfl (lv_at hl 1 rfl) ?_
  refine ps_backI (x0 := r) (M' := M1) hS (ps_callV C hW pc_8 mf_X9_sides tq_644 tq_645 tq_643 ⟨Nat.le_of_ble_eq_true rfl, Nat.le_of_ble_eq_true rfl⟩ rfl rfl (As := []) (rest := []) (c_X9_sides hc1) hK1 rfl hl.1 rfl (Nat.le_of_ble_eq_true rfl) dL_law_396 ⟨Nat.le_of_ble_eq_true rfl, Nat.le_of_ble_eq_true rfl⟩) (fun H locs hW hS => ?_)
  refine lv_aload_n hx hb dL_law_399 rfl (lv_at hl 2 rfl) ?_
  refine ps_backI (x0 := r) (M' := M2) hS (ps_callV C hW pc_9 mf_X10_sides tq_1156 tq_1157 tq_1155 ⟨Nat.le_of_ble_eq_true rfl, Nat.le_of_ble_eq_true rfl⟩ rfl rfl (As := []) (rest := [.int r]) (c_X10_sides hc2) hK2 rfl hl.1 rfl (Nat.le_of_ble_eq_true rfl) dL_law_400 ⟨Nat.le_of_ble_eq_true rfl, Nat.le_of_ble_eq_true rfl⟩) (fun H locs hW hS => ?_)
  refine lv_icmp_eq (tgt := 1013) hx hb dL_law_403 (by decide) (fun _ => ?_) (fun h => absurd rfl h)
  exact kk M2 _ _ hI2 hW hS
def ps_arm10 (Inv : Nat → ps_M → Prop) : Prop := ∀ (k : Nat) (M : ps_M), k < 512 → Inv k M → ps_eqv Inv k M (f_X9_oil M 0 ) (fun M => f_X10_oil M 205 )
set_option maxRecDepth 100000 in
set_option maxHeartbeats 4000000 in
theorem la_10 {Inv : Nat → ps_M → Prop} (harm : ps_arm10 Inv) (C : ps_C p s m #[Value.ref b] meth c code 4 RL ret meth.name D Y B) (hX : va_X b L xs s s.heap) (hbl : b < s.heap.size) (hbA : ¬ (fun q => B ≤ q) b) {k : Nat} {x3 : Int32} (h1 : vp_in (x3 + 1) L) (h2 : vp_in (x3 + 2) L) (h3 : vp_in (x3 + 3) L) {M : ps_M} (hk : k < 512) (hI : Inv k M) (kk : ∀ (M : ps_M) (H : Heap) (locs : List Loc), Inv (k + 1) M → ps_W D Y B M H → va_S (fun q => B ≤ q) s.heap H locs → W p l e room_1 s m #[Value.ref b] below meth c H locs 221 7852 (lw_Z below #[Value.ref b] s) (F0 m 1013 ls [])) (hW : ps_W D Y B M H) (hS : va_S (fun q => B ≤ q) s.heap H locs) (hl : lv_has ls 4 [(0, .ref b), (1, .ref (B + 0)), (2, .ref (B + 205)), (3, .int x3)]) : W p l e room_1 s m #[Value.ref b] below meth c H locs 221 7852 (lw_Z below #[Value.ref b] s) (F0 m 408 ls []) := by
  have hx := C.1
  have hb := C.2.1
  obtain ⟨hK1, r, M1, M2, hc1, hK2, hc2, hI2⟩ := harm k M  hk hI
  refine lv_aload_n hx hb dL_law_408 rfl (lv_at hl 1 rfl) ?_
  refine ps_backI (x0 := r) (M' := M1) hS (ps_callV C hW pc_8 mf_X9_oil tq_652 tq_653 tq_651 ⟨Nat.le_of_ble_eq_true rfl, Nat.le_of_ble_eq_true rfl⟩ rfl rfl (As := []) (rest := []) (c_X9_oil hc1) hK1 rfl hl.1 rfl (Nat.le_of_ble_eq_true rfl) dL_law_409 ⟨Nat.le_of_ble_eq_true rfl, Nat.le_of_ble_eq_true rfl⟩) (fun H locs hW hS => ?_)
  refine lv_aload_n hx hb dL_law_412 rfl (lv_at hl 2 rfl) ?_
  refine ps_backI (x0 := r) (M' := M2) hS (ps_callV C hW pc_9 mf_X10_oil tq_1160 tq_1161 tq_1159 ⟨Nat.le_of_ble_eq_true rfl, Nat.le_of_ble_eq_true rfl⟩ rfl rfl (As := []) (rest := [.int r]) (c_X10_oil hc2) hK2 rfl hl.1 rfl (Nat.le_of_ble_eq_true rfl) dL_law_413 ⟨Nat.le_of_ble_eq_true rfl, Nat.le_of_ble_eq_true rfl⟩) (fun H locs hW hS => ?_)
  refine lv_icmp_eq (tgt := 1013) hx hb dL_law_416 (by decide) (fun _ => ?_) (fun h => absurd rfl h)
  exact kk M2 _ _ hI2 hW hS
def ps_arm11 (Inv : Nat → ps_M → Prop) : Prop := ∀ (k : Nat) (M : ps_M), k < 512 → Inv k M → ps_eqv Inv k M (f_X9_wedge M 0 ) (fun M => f_X10_wedge M 205 )
set_option maxRecDepth 100000 in
set_option maxHeartbeats 4000000 in
theorem la_11 {Inv : Nat → ps_M → Prop} (harm : ps_arm11 Inv) (C : ps_C p s m #[Value.ref b] meth c code 4 RL ret meth.name D Y B) (hX : va_X b L xs s s.heap) (hbl : b < s.heap.size) (hbA : ¬ (fun q => B ≤ q) b) {k : Nat} {x3 : Int32} (h1 : vp_in (x3 + 1) L) (h2 : vp_in (x3 + 2) L) (h3 : vp_in (x3 + 3) L) {M : ps_M} (hk : k < 512) (hI : Inv k M) (kk : ∀ (M : ps_M) (H : Heap) (locs : List Loc), Inv (k + 1) M → ps_W D Y B M H → va_S (fun q => B ≤ q) s.heap H locs → W p l e room_1 s m #[Value.ref b] below meth c H locs 221 7852 (lw_Z below #[Value.ref b] s) (F0 m 1013 ls [])) (hW : ps_W D Y B M H) (hS : va_S (fun q => B ≤ q) s.heap H locs) (hl : lv_has ls 4 [(0, .ref b), (1, .ref (B + 0)), (2, .ref (B + 205)), (3, .int x3)]) : W p l e room_1 s m #[Value.ref b] below meth c H locs 221 7852 (lw_Z below #[Value.ref b] s) (F0 m 421 ls []) := by
  have hx := C.1
  have hb := C.2.1
  obtain ⟨hK1, r, M1, M2, hc1, hK2, hc2, hI2⟩ := harm k M  hk hI
  refine lv_aload_n hx hb dL_law_421 rfl (lv_at hl 1 rfl) ?_
  refine ps_backI (x0 := r) (M' := M1) hS (ps_callV C hW pc_8 mf_X9_wedge tq_656 tq_657 tq_655 ⟨Nat.le_of_ble_eq_true rfl, Nat.le_of_ble_eq_true rfl⟩ rfl rfl (As := []) (rest := []) (c_X9_wedge hc1) hK1 rfl hl.1 rfl (Nat.le_of_ble_eq_true rfl) dL_law_422 ⟨Nat.le_of_ble_eq_true rfl, Nat.le_of_ble_eq_true rfl⟩) (fun H locs hW hS => ?_)
  refine lv_aload_n hx hb dL_law_425 rfl (lv_at hl 2 rfl) ?_
  refine ps_backI (x0 := r) (M' := M2) hS (ps_callV C hW pc_9 mf_X10_wedge tq_1164 tq_1165 tq_1163 ⟨Nat.le_of_ble_eq_true rfl, Nat.le_of_ble_eq_true rfl⟩ rfl rfl (As := []) (rest := [.int r]) (c_X10_wedge hc2) hK2 rfl hl.1 rfl (Nat.le_of_ble_eq_true rfl) dL_law_426 ⟨Nat.le_of_ble_eq_true rfl, Nat.le_of_ble_eq_true rfl⟩) (fun H locs hW hS => ?_)
  refine lv_icmp_eq (tgt := 1013) hx hb dL_law_429 (by decide) (fun _ => ?_) (fun h => absurd rfl h)
  exact kk M2 _ _ hI2 hW hS
def ps_arm12 (Inv : Nat → ps_M → Prop) : Prop := ∀ (k : Nat) (M : ps_M), k < 512 → Inv k M → ps_eqv Inv k M (f_X9_file M 0 ) (fun M => f_X10_file M 205 )
set_option maxRecDepth 100000 in
set_option maxHeartbeats 4000000 in
theorem la_12 {Inv : Nat → ps_M → Prop} (harm : ps_arm12 Inv) (C : ps_C p s m #[Value.ref b] meth c code 4 RL ret meth.name D Y B) (hX : va_X b L xs s s.heap) (hbl : b < s.heap.size) (hbA : ¬ (fun q => B ≤ q) b) {k : Nat} {x3 : Int32} (h1 : vp_in (x3 + 1) L) (h2 : vp_in (x3 + 2) L) (h3 : vp_in (x3 + 3) L) {M : ps_M} (hk : k < 512) (hI : Inv k M) (kk : ∀ (M : ps_M) (H : Heap) (locs : List Loc), Inv (k + 1) M → ps_W D Y B M H → va_S (fun q => B ≤ q) s.heap H locs → W p l e room_1 s m #[Value.ref b] below meth c H locs 221 7852 (lw_Z below #[Value.ref b] s) (F0 m 1013 ls [])) (hW : ps_W D Y B M H) (hS : va_S (fun q => B ≤ q) s.heap H locs) (hl : lv_has ls 4 [(0, .ref b), (1, .ref (B + 0)), (2, .ref (B + 205)), (3, .int x3)]) : W p l e room_1 s m #[Value.ref b] below meth c H locs 221 7852 (lw_Z below #[Value.ref b] s) (F0 m 434 ls []) := by
  have hx := C.1
  have hb := C.2.1
  obtain ⟨hK1, r, M1, M2, hc1, hK2, hc2, hI2⟩ := harm k M  hk hI
  refine lv_aload_n hx hb dL_law_434 rfl (lv_at hl 1 rfl) ?_
  refine ps_backI (x0 := r) (M' := M1) hS (ps_callV C hW pc_8 mf_X9_file tq_660 tq_661 tq_659 ⟨Nat.le_of_ble_eq_true rfl, Nat.le_of_ble_eq_true rfl⟩ rfl rfl (As := []) (rest := []) (c_X9_file hc1) hK1 rfl hl.1 rfl (Nat.le_of_ble_eq_true rfl) dL_law_435 ⟨Nat.le_of_ble_eq_true rfl, Nat.le_of_ble_eq_true rfl⟩) (fun H locs hW hS => ?_)
  refine lv_aload_n hx hb dL_law_438 rfl (lv_at hl 2 rfl) ?_
  refine ps_backI (x0 := r) (M' := M2) hS (ps_callV C hW pc_9 mf_X10_file tq_1168 tq_1169 tq_1167 ⟨Nat.le_of_ble_eq_true rfl, Nat.le_of_ble_eq_true rfl⟩ rfl rfl (As := []) (rest := [.int r]) (c_X10_file hc2) hK2 rfl hl.1 rfl (Nat.le_of_ble_eq_true rfl) dL_law_439 ⟨Nat.le_of_ble_eq_true rfl, Nat.le_of_ble_eq_true rfl⟩) (fun H locs hW hS => ?_)
  refine lv_icmp_eq (tgt := 1013) hx hb dL_law_442 (by decide) (fun _ => ?_) (fun h => absurd rfl h)
  exact kk M2 _ _ hI2 hW hS
def ps_arm13 (Inv : Nat → ps_M → Prop) : Prop := ∀ (k : Nat) (M : ps_M) (y1 : Int32) (y2 : Int32), k < 512 → Inv k M → ps_eqv Inv k M (f_X9_wish M 0 y1 y2) (fun M => f_X10_wish M 205 y1 y2)
set_option maxRecDepth 100000 in
set_option maxHeartbeats 4000000 in
theorem la_13 {Inv : Nat → ps_M → Prop} (harm : ps_arm13 Inv) (C : ps_C p s m #[Value.ref b] meth c code 4 RL ret meth.name D Y B) (hX : va_X b L xs s s.heap) (hbl : b < s.heap.size) (hbA : ¬ (fun q => B ≤ q) b) {k : Nat} {x3 : Int32} (h1 : vp_in (x3 + 1) L) (h2 : vp_in (x3 + 2) L) (h3 : vp_in (x3 + 3) L) {M : ps_M} (hk : k < 512) (hI : Inv k M) (kk : ∀ (M : ps_M) (H : Heap) (locs : List Loc), Inv (k + 1) M → ps_W D Y B M H → va_S (fun q => B ≤ q) s.heap H locs → W p l e room_1 s m #[Value.ref b] below meth c H locs 221 7852 (lw_Z below #[Value.ref b] s) (F0 m 1013 ls [])) (hW : ps_W D Y B M H) (hS : va_S (fun q => B ≤ q) s.heap H locs) (hl : lv_has ls 4 [(0, .ref b), (1, .ref (B + 0)), (2, .ref (B + 205)), (3, .int x3)]) : W p l e room_1 s m #[Value.ref b] below meth c H locs 221 7852 (lw_Z below #[Value.ref b] s) (F0 m 447 ls []) := by
  have hx := C.1
  have hb := C.2.1
  obtain ⟨hK1, r, M1, M2, hc1, hK2, hc2, hI2⟩ := harm k M (xs (x3 + 1).toNatClampNeg) (xs (x3 + 2).toNatClampNeg) hk hI
  refine lv_aload_n hx hb dL_law_447 rfl (lv_at hl 1 rfl) ?_
  refine lv_aload_n hx hb dL_law_448 rfl (lv_at hl 0 rfl) ?_
  refine lv_iload_n hx hb dL_law_449 rfl (lv_at hl 3 rfl) ?_
  refine lv_iconst (v := 1) hx hb dL_law_450 (by decide) ?_
  refine lv_iadd hx hb dL_law_451 ?_
  refine va_sld hx hb hX hbl hbA hS h1 dL_law_452 ?_
  refine lv_aload_n hx hb dL_law_453 rfl (lv_at hl 0 rfl) ?_
  refine lv_iload_n hx hb dL_law_454 rfl (lv_at hl 3 rfl) ?_
  refine lv_iconst (v := 2) hx hb dL_law_455 (by decide) ?_
  refine lv_iadd hx hb dL_law_456 ?_
  refine va_sld hx hb hX hbl hbA hS h2 dL_law_457 ?_
  refine ps_backI (x0 := r) (M' := M1) hS (ps_callV C hW pc_8 mf_X9_wish tq_664 tq_665 tq_663 ⟨Nat.le_of_ble_eq_true rfl, Nat.le_of_ble_eq_true rfl⟩ rfl rfl (As := [.int (xs (x3 + 1).toNatClampNeg), .int (xs (x3 + 2).toNatClampNeg)]) (rest := []) (c_X9_wish hc1) hK1 rfl hl.1 rfl (Nat.le_of_ble_eq_true rfl) dL_law_458 ⟨Nat.le_of_ble_eq_true rfl, Nat.le_of_ble_eq_true rfl⟩) (fun H locs hW hS => ?_)
  refine lv_aload_n hx hb dL_law_461 rfl (lv_at hl 2 rfl) ?_
  refine lv_aload_n hx hb dL_law_462 rfl (lv_at hl 0 rfl) ?_
  refine lv_iload_n hx hb dL_law_463 rfl (lv_at hl 3 rfl) ?_
  refine lv_iconst (v := 1) hx hb dL_law_464 (by decide) ?_
  refine lv_iadd hx hb dL_law_465 ?_
  refine va_sld hx hb hX hbl hbA hS h1 dL_law_466 ?_
  refine lv_aload_n hx hb dL_law_467 rfl (lv_at hl 0 rfl) ?_
  refine lv_iload_n hx hb dL_law_468 rfl (lv_at hl 3 rfl) ?_
  refine lv_iconst (v := 2) hx hb dL_law_469 (by decide) ?_
  refine lv_iadd hx hb dL_law_470 ?_
  refine va_sld hx hb hX hbl hbA hS h2 dL_law_471 ?_
  refine ps_backI (x0 := r) (M' := M2) hS (ps_callV C hW pc_9 mf_X10_wish tq_1172 tq_1173 tq_1171 ⟨Nat.le_of_ble_eq_true rfl, Nat.le_of_ble_eq_true rfl⟩ rfl rfl (As := [.int (xs (x3 + 1).toNatClampNeg), .int (xs (x3 + 2).toNatClampNeg)]) (rest := [.int r]) (c_X10_wish hc2) hK2 rfl hl.1 rfl (Nat.le_of_ble_eq_true rfl) dL_law_472 ⟨Nat.le_of_ble_eq_true rfl, Nat.le_of_ble_eq_true rfl⟩) (fun H locs hW hS => ?_)
  refine lv_icmp_eq (tgt := 1013) hx hb dL_law_475 (by decide) (fun _ => ?_) (fun h => absurd rfl h)
  exact kk M2 _ _ hI2 hW hS
def ps_arm14 (Inv : Nat → ps_M → Prop) : Prop := ∀ (k : Nat) (M : ps_M) (y1 : Int32) (y2 : Int32), k < 512 → Inv k M → ps_eqv Inv k M (f_X9_habit M 0 y1 y2) (fun M => f_X10_habit M 205 y1 y2)
set_option maxRecDepth 100000 in
set_option maxHeartbeats 4000000 in
theorem la_14 {Inv : Nat → ps_M → Prop} (harm : ps_arm14 Inv) (C : ps_C p s m #[Value.ref b] meth c code 4 RL ret meth.name D Y B) (hX : va_X b L xs s s.heap) (hbl : b < s.heap.size) (hbA : ¬ (fun q => B ≤ q) b) {k : Nat} {x3 : Int32} (h1 : vp_in (x3 + 1) L) (h2 : vp_in (x3 + 2) L) (h3 : vp_in (x3 + 3) L) {M : ps_M} (hk : k < 512) (hI : Inv k M) (kk : ∀ (M : ps_M) (H : Heap) (locs : List Loc), Inv (k + 1) M → ps_W D Y B M H → va_S (fun q => B ≤ q) s.heap H locs → W p l e room_1 s m #[Value.ref b] below meth c H locs 221 7852 (lw_Z below #[Value.ref b] s) (F0 m 1013 ls [])) (hW : ps_W D Y B M H) (hS : va_S (fun q => B ≤ q) s.heap H locs) (hl : lv_has ls 4 [(0, .ref b), (1, .ref (B + 0)), (2, .ref (B + 205)), (3, .int x3)]) : W p l e room_1 s m #[Value.ref b] below meth c H locs 221 7852 (lw_Z below #[Value.ref b] s) (F0 m 480 ls []) := by
  have hx := C.1
  have hb := C.2.1
  obtain ⟨hK1, r, M1, M2, hc1, hK2, hc2, hI2⟩ := harm k M (xs (x3 + 1).toNatClampNeg) (xs (x3 + 2).toNatClampNeg) hk hI
  refine lv_aload_n hx hb dL_law_480 rfl (lv_at hl 1 rfl) ?_
  refine lv_aload_n hx hb dL_law_481 rfl (lv_at hl 0 rfl) ?_
  refine lv_iload_n hx hb dL_law_482 rfl (lv_at hl 3 rfl) ?_
  refine lv_iconst (v := 1) hx hb dL_law_483 (by decide) ?_
  refine lv_iadd hx hb dL_law_484 ?_
  refine va_sld hx hb hX hbl hbA hS h1 dL_law_485 ?_
  refine lv_aload_n hx hb dL_law_486 rfl (lv_at hl 0 rfl) ?_
  refine lv_iload_n hx hb dL_law_487 rfl (lv_at hl 3 rfl) ?_
  refine lv_iconst (v := 2) hx hb dL_law_488 (by decide) ?_
  refine lv_iadd hx hb dL_law_489 ?_
  refine va_sld hx hb hX hbl hbA hS h2 dL_law_490 ?_
  refine ps_backI (x0 := r) (M' := M1) hS (ps_callV C hW pc_8 mf_X9_habit tq_673 tq_674 tq_672 ⟨Nat.le_of_ble_eq_true rfl, Nat.le_of_ble_eq_true rfl⟩ rfl rfl (As := [.int (xs (x3 + 1).toNatClampNeg), .int (xs (x3 + 2).toNatClampNeg)]) (rest := []) (c_X9_habit hc1) hK1 rfl hl.1 rfl (Nat.le_of_ble_eq_true rfl) dL_law_491 ⟨Nat.le_of_ble_eq_true rfl, Nat.le_of_ble_eq_true rfl⟩) (fun H locs hW hS => ?_)
  refine lv_aload_n hx hb dL_law_494 rfl (lv_at hl 2 rfl) ?_
  refine lv_aload_n hx hb dL_law_495 rfl (lv_at hl 0 rfl) ?_
  refine lv_iload_n hx hb dL_law_496 rfl (lv_at hl 3 rfl) ?_
  refine lv_iconst (v := 1) hx hb dL_law_497 (by decide) ?_
  refine lv_iadd hx hb dL_law_498 ?_
  refine va_sld hx hb hX hbl hbA hS h1 dL_law_499 ?_
  refine lv_aload_n hx hb dL_law_500 rfl (lv_at hl 0 rfl) ?_
  refine lv_iload_n hx hb dL_law_501 rfl (lv_at hl 3 rfl) ?_
  refine lv_iconst (v := 2) hx hb dL_law_502 (by decide) ?_
  refine lv_iadd hx hb dL_law_503 ?_
  refine va_sld hx hb hX hbl hbA hS h2 dL_law_504 ?_
  refine ps_backI (x0 := r) (M' := M2) hS (ps_callV C hW pc_9 mf_X10_habit tq_1181 tq_1182 tq_1180 ⟨Nat.le_of_ble_eq_true rfl, Nat.le_of_ble_eq_true rfl⟩ rfl rfl (As := [.int (xs (x3 + 1).toNatClampNeg), .int (xs (x3 + 2).toNatClampNeg)]) (rest := [.int r]) (c_X10_habit hc2) hK2 rfl hl.1 rfl (Nat.le_of_ble_eq_true rfl) dL_law_505 ⟨Nat.le_of_ble_eq_true rfl, Nat.le_of_ble_eq_true rfl⟩) (fun H locs hW hS => ?_)
  refine lv_icmp_eq (tgt := 1013) hx hb dL_law_508 (by decide) (fun _ => ?_) (fun h => absurd rfl h)
  exact kk M2 _ _ hI2 hW hS
def ps_arm15 (Inv : Nat → ps_M → Prop) : Prop := ∀ (k : Nat) (M : ps_M) (y1 : Int32), k < 512 → Inv k M → ps_eqv Inv k M (f_X9_drift M 0 y1) (fun M => f_X10_drift M 205 y1)
set_option maxRecDepth 100000 in
set_option maxHeartbeats 4000000 in
theorem la_15 {Inv : Nat → ps_M → Prop} (harm : ps_arm15 Inv) (C : ps_C p s m #[Value.ref b] meth c code 4 RL ret meth.name D Y B) (hX : va_X b L xs s s.heap) (hbl : b < s.heap.size) (hbA : ¬ (fun q => B ≤ q) b) {k : Nat} {x3 : Int32} (h1 : vp_in (x3 + 1) L) (h2 : vp_in (x3 + 2) L) (h3 : vp_in (x3 + 3) L) {M : ps_M} (hk : k < 512) (hI : Inv k M) (kk : ∀ (M : ps_M) (H : Heap) (locs : List Loc), Inv (k + 1) M → ps_W D Y B M H → va_S (fun q => B ≤ q) s.heap H locs → W p l e room_1 s m #[Value.ref b] below meth c H locs 221 7852 (lw_Z below #[Value.ref b] s) (F0 m 1013 ls [])) (hW : ps_W D Y B M H) (hS : va_S (fun q => B ≤ q) s.heap H locs) (hl : lv_has ls 4 [(0, .ref b), (1, .ref (B + 0)), (2, .ref (B + 205)), (3, .int x3)]) : W p l e room_1 s m #[Value.ref b] below meth c H locs 221 7852 (lw_Z below #[Value.ref b] s) (F0 m 513 ls []) := by
  have hx := C.1
  have hb := C.2.1
  obtain ⟨hK1, r, M1, M2, hc1, hK2, hc2, hI2⟩ := harm k M (xs (x3 + 1).toNatClampNeg) hk hI
  refine lv_aload_n hx hb dL_law_513 rfl (lv_at hl 1 rfl) ?_
  refine lv_aload_n hx hb dL_law_514 rfl (lv_at hl 0 rfl) ?_
  refine lv_iload_n hx hb dL_law_515 rfl (lv_at hl 3 rfl) ?_
  refine lv_iconst (v := 1) hx hb dL_law_516 (by decide) ?_
  refine lv_iadd hx hb dL_law_517 ?_
  refine va_sld hx hb hX hbl hbA hS h1 dL_law_518 ?_
  refine ps_backI (x0 := r) (M' := M1) hS (ps_callV C hW pc_8 mf_X9_drift tq_677 tq_678 tq_676 ⟨Nat.le_of_ble_eq_true rfl, Nat.le_of_ble_eq_true rfl⟩ rfl rfl (As := [.int (xs (x3 + 1).toNatClampNeg)]) (rest := []) (c_X9_drift hc1) hK1 rfl hl.1 rfl (Nat.le_of_ble_eq_true rfl) dL_law_519 ⟨Nat.le_of_ble_eq_true rfl, Nat.le_of_ble_eq_true rfl⟩) (fun H locs hW hS => ?_)
  refine lv_aload_n hx hb dL_law_522 rfl (lv_at hl 2 rfl) ?_
  refine lv_aload_n hx hb dL_law_523 rfl (lv_at hl 0 rfl) ?_
  refine lv_iload_n hx hb dL_law_524 rfl (lv_at hl 3 rfl) ?_
  refine lv_iconst (v := 1) hx hb dL_law_525 (by decide) ?_
  refine lv_iadd hx hb dL_law_526 ?_
  refine va_sld hx hb hX hbl hbA hS h1 dL_law_527 ?_
  refine ps_backI (x0 := r) (M' := M2) hS (ps_callV C hW pc_9 mf_X10_drift tq_1186 tq_1187 tq_1185 ⟨Nat.le_of_ble_eq_true rfl, Nat.le_of_ble_eq_true rfl⟩ rfl rfl (As := [.int (xs (x3 + 1).toNatClampNeg)]) (rest := [.int r]) (c_X10_drift hc2) hK2 rfl hl.1 rfl (Nat.le_of_ble_eq_true rfl) dL_law_528 ⟨Nat.le_of_ble_eq_true rfl, Nat.le_of_ble_eq_true rfl⟩) (fun H locs hW hS => ?_)
  refine lv_icmp_eq (tgt := 1013) hx hb dL_law_531 (by decide) (fun _ => ?_) (fun h => absurd rfl h)
  exact kk M2 _ _ hI2 hW hS
def ps_arm16 (Inv : Nat → ps_M → Prop) : Prop := ∀ (k : Nat) (M : ps_M) (y1 : Int32), k < 512 → Inv k M → ps_eqv Inv k M (f_X9_undo M 0 y1) (fun M => f_X10_undo M 205 y1)
set_option maxRecDepth 100000 in
set_option maxHeartbeats 4000000 in
theorem la_16 {Inv : Nat → ps_M → Prop} (harm : ps_arm16 Inv) (C : ps_C p s m #[Value.ref b] meth c code 4 RL ret meth.name D Y B) (hX : va_X b L xs s s.heap) (hbl : b < s.heap.size) (hbA : ¬ (fun q => B ≤ q) b) {k : Nat} {x3 : Int32} (h1 : vp_in (x3 + 1) L) (h2 : vp_in (x3 + 2) L) (h3 : vp_in (x3 + 3) L) {M : ps_M} (hk : k < 512) (hI : Inv k M) (kk : ∀ (M : ps_M) (H : Heap) (locs : List Loc), Inv (k + 1) M → ps_W D Y B M H → va_S (fun q => B ≤ q) s.heap H locs → W p l e room_1 s m #[Value.ref b] below meth c H locs 221 7852 (lw_Z below #[Value.ref b] s) (F0 m 1013 ls [])) (hW : ps_W D Y B M H) (hS : va_S (fun q => B ≤ q) s.heap H locs) (hl : lv_has ls 4 [(0, .ref b), (1, .ref (B + 0)), (2, .ref (B + 205)), (3, .int x3)]) : W p l e room_1 s m #[Value.ref b] below meth c H locs 221 7852 (lw_Z below #[Value.ref b] s) (F0 m 536 ls []) := by
  have hx := C.1
  have hb := C.2.1
  obtain ⟨hK1, r, M1, M2, hc1, hK2, hc2, hI2⟩ := harm k M (xs (x3 + 1).toNatClampNeg) hk hI
  refine lv_aload_n hx hb dL_law_536 rfl (lv_at hl 1 rfl) ?_
  refine lv_aload_n hx hb dL_law_537 rfl (lv_at hl 0 rfl) ?_
  refine lv_iload_n hx hb dL_law_538 rfl (lv_at hl 3 rfl) ?_
  refine lv_iconst (v := 1) hx hb dL_law_539 (by decide) ?_
  refine lv_iadd hx hb dL_law_540 ?_
  refine va_sld hx hb hX hbl hbA hS h1 dL_law_541 ?_
  refine ps_backI (x0 := r) (M' := M1) hS (ps_callV C hW pc_8 mf_X9_undo tq_692 tq_693 tq_691 ⟨Nat.le_of_ble_eq_true rfl, Nat.le_of_ble_eq_true rfl⟩ rfl rfl (As := [.int (xs (x3 + 1).toNatClampNeg)]) (rest := []) (c_X9_undo hc1) hK1 rfl hl.1 rfl (Nat.le_of_ble_eq_true rfl) dL_law_542 ⟨Nat.le_of_ble_eq_true rfl, Nat.le_of_ble_eq_true rfl⟩) (fun H locs hW hS => ?_)
  refine lv_aload_n hx hb dL_law_545 rfl (lv_at hl 2 rfl) ?_
  refine lv_aload_n hx hb dL_law_546 rfl (lv_at hl 0 rfl) ?_
  refine lv_iload_n hx hb dL_law_547 rfl (lv_at hl 3 rfl) ?_
  refine lv_iconst (v := 1) hx hb dL_law_548 (by decide) ?_
  refine lv_iadd hx hb dL_law_549 ?_
  refine va_sld hx hb hX hbl hbA hS h1 dL_law_550 ?_
  refine ps_backI (x0 := r) (M' := M2) hS (ps_callV C hW pc_9 mf_X10_undo tq_1198 tq_1199 tq_1197 ⟨Nat.le_of_ble_eq_true rfl, Nat.le_of_ble_eq_true rfl⟩ rfl rfl (As := [.int (xs (x3 + 1).toNatClampNeg)]) (rest := [.int r]) (c_X10_undo hc2) hK2 rfl hl.1 rfl (Nat.le_of_ble_eq_true rfl) dL_law_551 ⟨Nat.le_of_ble_eq_true rfl, Nat.le_of_ble_eq_true rfl⟩) (fun H locs hW hS => ?_)
  refine lv_icmp_eq (tgt := 1013) hx hb dL_law_554 (by decide) (fun _ => ?_) (fun h => absurd rfl h)
  exact kk M2 _ _ hI2 hW hS
def ps_arm17 (Inv : Nat → ps_M → Prop) : Prop := ∀ (k : Nat) (M : ps_M), k < 512 → Inv k M → ps_eqv Inv k M (f_X9_toGo M 0 ) (fun M => f_X10_toGo M 205 )
set_option maxRecDepth 100000 in
set_option maxHeartbeats 4000000 in
theorem la_17 {Inv : Nat → ps_M → Prop} (harm : ps_arm17 Inv) (C : ps_C p s m #[Value.ref b] meth c code 4 RL ret meth.name D Y B) (hX : va_X b L xs s s.heap) (hbl : b < s.heap.size) (hbA : ¬ (fun q => B ≤ q) b) {k : Nat} {x3 : Int32} (h1 : vp_in (x3 + 1) L) (h2 : vp_in (x3 + 2) L) (h3 : vp_in (x3 + 3) L) {M : ps_M} (hk : k < 512) (hI : Inv k M) (kk : ∀ (M : ps_M) (H : Heap) (locs : List Loc), Inv (k + 1) M → ps_W D Y B M H → va_S (fun q => B ≤ q) s.heap H locs → W p l e room_1 s m #[Value.ref b] below meth c H locs 221 7852 (lw_Z below #[Value.ref b] s) (F0 m 1013 ls [])) (hW : ps_W D Y B M H) (hS : va_S (fun q => B ≤ q) s.heap H locs) (hl : lv_has ls 4 [(0, .ref b), (1, .ref (B + 0)), (2, .ref (B + 205)), (3, .int x3)]) : W p l e room_1 s m #[Value.ref b] below meth c H locs 221 7852 (lw_Z below #[Value.ref b] s) (F0 m 559 ls []) := by
  have hx := C.1
  have hb := C.2.1
  obtain ⟨hK1, r, M1, M2, hc1, hK2, hc2, hI2⟩ := harm k M  hk hI
  refine lv_aload_n hx hb dL_law_559 rfl (lv_at hl 1 rfl) ?_
  refine ps_backI (x0 := r) (M' := M1) hS (ps_callV C hW pc_8 mf_X9_toGo tq_700 tq_701 tq_699 ⟨Nat.le_of_ble_eq_true rfl, Nat.le_of_ble_eq_true rfl⟩ rfl rfl (As := []) (rest := []) (c_X9_toGo hc1) hK1 rfl hl.1 rfl (Nat.le_of_ble_eq_true rfl) dL_law_560 ⟨Nat.le_of_ble_eq_true rfl, Nat.le_of_ble_eq_true rfl⟩) (fun H locs hW hS => ?_)
  refine lv_aload_n hx hb dL_law_563 rfl (lv_at hl 2 rfl) ?_
  refine ps_backI (x0 := r) (M' := M2) hS (ps_callV C hW pc_9 mf_X10_toGo tq_1203 tq_1204 tq_1202 ⟨Nat.le_of_ble_eq_true rfl, Nat.le_of_ble_eq_true rfl⟩ rfl rfl (As := []) (rest := [.int r]) (c_X10_toGo hc2) hK2 rfl hl.1 rfl (Nat.le_of_ble_eq_true rfl) dL_law_564 ⟨Nat.le_of_ble_eq_true rfl, Nat.le_of_ble_eq_true rfl⟩) (fun H locs hW hS => ?_)
  refine lv_icmp_eq (tgt := 1013) hx hb dL_law_567 (by decide) (fun _ => ?_) (fun h => absurd rfl h)
  exact kk M2 _ _ hI2 hW hS
def ps_arm18 (Inv : Nat → ps_M → Prop) : Prop := ∀ (k : Nat) (M : ps_M) (y1 : Int32) (y2 : Int32), k < 512 → Inv k M → ps_eqv Inv k M (f_X9_fresh M 0 y1 y2) (fun M => f_X10_fresh M 205 y1 y2)
set_option maxRecDepth 100000 in
set_option maxHeartbeats 4000000 in
theorem la_18 {Inv : Nat → ps_M → Prop} (harm : ps_arm18 Inv) (C : ps_C p s m #[Value.ref b] meth c code 4 RL ret meth.name D Y B) (hX : va_X b L xs s s.heap) (hbl : b < s.heap.size) (hbA : ¬ (fun q => B ≤ q) b) {k : Nat} {x3 : Int32} (h1 : vp_in (x3 + 1) L) (h2 : vp_in (x3 + 2) L) (h3 : vp_in (x3 + 3) L) {M : ps_M} (hk : k < 512) (hI : Inv k M) (kk : ∀ (M : ps_M) (H : Heap) (locs : List Loc), Inv (k + 1) M → ps_W D Y B M H → va_S (fun q => B ≤ q) s.heap H locs → W p l e room_1 s m #[Value.ref b] below meth c H locs 221 7852 (lw_Z below #[Value.ref b] s) (F0 m 1013 ls [])) (hW : ps_W D Y B M H) (hS : va_S (fun q => B ≤ q) s.heap H locs) (hl : lv_has ls 4 [(0, .ref b), (1, .ref (B + 0)), (2, .ref (B + 205)), (3, .int x3)]) : W p l e room_1 s m #[Value.ref b] below meth c H locs 221 7852 (lw_Z below #[Value.ref b] s) (F0 m 572 ls []) := by
  have hx := C.1
  have hb := C.2.1
  obtain ⟨hK1, r, M1, M2, hc1, hK2, hc2, hI2⟩ := harm k M (xs (x3 + 1).toNatClampNeg) (xs (x3 + 2).toNatClampNeg) hk hI
  refine lv_aload_n hx hb dL_law_572 rfl (lv_at hl 1 rfl) ?_
  refine lv_aload_n hx hb dL_law_573 rfl (lv_at hl 0 rfl) ?_
  refine lv_iload_n hx hb dL_law_574 rfl (lv_at hl 3 rfl) ?_
  refine lv_iconst (v := 1) hx hb dL_law_575 (by decide) ?_
  refine lv_iadd hx hb dL_law_576 ?_
  refine va_sld hx hb hX hbl hbA hS h1 dL_law_577 ?_
  refine lv_aload_n hx hb dL_law_578 rfl (lv_at hl 0 rfl) ?_
  refine lv_iload_n hx hb dL_law_579 rfl (lv_at hl 3 rfl) ?_
  refine lv_iconst (v := 2) hx hb dL_law_580 (by decide) ?_
  refine lv_iadd hx hb dL_law_581 ?_
  refine va_sld hx hb hX hbl hbA hS h2 dL_law_582 ?_
  refine ps_backI (x0 := r) (M' := M1) hS (ps_callV C hW pc_8 mf_X9_fresh tq_727 tq_728 tq_726 ⟨Nat.le_of_ble_eq_true rfl, Nat.le_of_ble_eq_true rfl⟩ rfl rfl (As := [.int (xs (x3 + 1).toNatClampNeg), .int (xs (x3 + 2).toNatClampNeg)]) (rest := []) (c_X9_fresh hc1) hK1 rfl hl.1 rfl (Nat.le_of_ble_eq_true rfl) dL_law_583 ⟨Nat.le_of_ble_eq_true rfl, Nat.le_of_ble_eq_true rfl⟩) (fun H locs hW hS => ?_)
  refine lv_aload_n hx hb dL_law_586 rfl (lv_at hl 2 rfl) ?_
  refine lv_aload_n hx hb dL_law_587 rfl (lv_at hl 0 rfl) ?_
  refine lv_iload_n hx hb dL_law_588 rfl (lv_at hl 3 rfl) ?_
  refine lv_iconst (v := 1) hx hb dL_law_589 (by decide) ?_
  refine lv_iadd hx hb dL_law_590 ?_
  refine va_sld hx hb hX hbl hbA hS h1 dL_law_591 ?_
  refine lv_aload_n hx hb dL_law_592 rfl (lv_at hl 0 rfl) ?_
  refine lv_iload_n hx hb dL_law_593 rfl (lv_at hl 3 rfl) ?_
  refine lv_iconst (v := 2) hx hb dL_law_594 (by decide) ?_
  refine lv_iadd hx hb dL_law_595 ?_
  refine va_sld hx hb hX hbl hbA hS h2 dL_law_596 ?_
  refine ps_backI (x0 := r) (M' := M2) hS (ps_callV C hW pc_9 mf_X10_fresh tq_1216 tq_1217 tq_1215 ⟨Nat.le_of_ble_eq_true rfl, Nat.le_of_ble_eq_true rfl⟩ rfl rfl (As := [.int (xs (x3 + 1).toNatClampNeg), .int (xs (x3 + 2).toNatClampNeg)]) (rest := [.int r]) (c_X10_fresh hc2) hK2 rfl hl.1 rfl (Nat.le_of_ble_eq_true rfl) dL_law_597 ⟨Nat.le_of_ble_eq_true rfl, Nat.le_of_ble_eq_true rfl⟩) (fun H locs hW hS => ?_)
  refine lv_icmp_eq (tgt := 1013) hx hb dL_law_600 (by decide) (fun _ => ?_) (fun h => absurd rfl h)
  exact kk M2 _ _ hI2 hW hS
def ps_arm19 (Inv : Nat → ps_M → Prop) : Prop := ∀ (k : Nat) (M : ps_M) (y1 : Int32) (y2 : Int32) (y3 : Int32), k < 512 → Inv k M → ps_eqv Inv k M (f_X9_wishes M 0 y1 y2 y3) (fun M => f_X10_wishes M 205 y1 y2 y3)
set_option maxRecDepth 100000 in
set_option maxHeartbeats 4000000 in
theorem la_19 {Inv : Nat → ps_M → Prop} (harm : ps_arm19 Inv) (C : ps_C p s m #[Value.ref b] meth c code 4 RL ret meth.name D Y B) (hX : va_X b L xs s s.heap) (hbl : b < s.heap.size) (hbA : ¬ (fun q => B ≤ q) b) {k : Nat} {x3 : Int32} (h1 : vp_in (x3 + 1) L) (h2 : vp_in (x3 + 2) L) (h3 : vp_in (x3 + 3) L) {M : ps_M} (hk : k < 512) (hI : Inv k M) (kk : ∀ (M : ps_M) (H : Heap) (locs : List Loc), Inv (k + 1) M → ps_W D Y B M H → va_S (fun q => B ≤ q) s.heap H locs → W p l e room_1 s m #[Value.ref b] below meth c H locs 221 7852 (lw_Z below #[Value.ref b] s) (F0 m 1013 ls [])) (hW : ps_W D Y B M H) (hS : va_S (fun q => B ≤ q) s.heap H locs) (hl : lv_has ls 4 [(0, .ref b), (1, .ref (B + 0)), (2, .ref (B + 205)), (3, .int x3)]) : W p l e room_1 s m #[Value.ref b] below meth c H locs 221 7852 (lw_Z below #[Value.ref b] s) (F0 m 605 ls []) := by
  have hx := C.1
  have hb := C.2.1
  obtain ⟨hK1, r, M1, M2, hc1, hK2, hc2, hI2⟩ := harm k M (xs (x3 + 1).toNatClampNeg) (xs (x3 + 2).toNatClampNeg) (xs (x3 + 3).toNatClampNeg) hk hI
  refine lv_aload_n hx hb dL_law_605 rfl (lv_at hl 1 rfl) ?_
  refine lv_aload_n hx hb dL_law_606 rfl (lv_at hl 0 rfl) ?_
  refine lv_iload_n hx hb dL_law_607 rfl (lv_at hl 3 rfl) ?_
  refine lv_iconst (v := 1) hx hb dL_law_608 (by decide) ?_
  refine lv_iadd hx hb dL_law_609 ?_
  refine va_sld hx hb hX hbl hbA hS h1 dL_law_610 ?_
  refine lv_aload_n hx hb dL_law_611 rfl (lv_at hl 0 rfl) ?_
  refine lv_iload_n hx hb dL_law_612 rfl (lv_at hl 3 rfl) ?_
  refine lv_iconst (v := 2) hx hb dL_law_613 (by decide) ?_
  refine lv_iadd hx hb dL_law_614 ?_
  refine va_sld hx hb hX hbl hbA hS h2 dL_law_615 ?_
  refine lv_aload_n hx hb dL_law_616 rfl (lv_at hl 0 rfl) ?_
  refine lv_iload_n hx hb dL_law_617 rfl (lv_at hl 3 rfl) ?_
  refine lv_iconst (v := 3) hx hb dL_law_618 (by decide) ?_
  refine lv_iadd hx hb dL_law_619 ?_
  refine va_sld hx hb hX hbl hbA hS h3 dL_law_620 ?_
  refine ps_backI (x0 := r) (M' := M1) hS (ps_callV C hW pc_8 mf_X9_wishes tq_741 tq_742 tq_740 ⟨Nat.le_of_ble_eq_true rfl, Nat.le_of_ble_eq_true rfl⟩ rfl rfl (As := [.int (xs (x3 + 1).toNatClampNeg), .int (xs (x3 + 2).toNatClampNeg), .int (xs (x3 + 3).toNatClampNeg)]) (rest := []) (c_X9_wishes hc1) hK1 rfl hl.1 rfl (Nat.le_of_ble_eq_true rfl) dL_law_621 ⟨Nat.le_of_ble_eq_true rfl, Nat.le_of_ble_eq_true rfl⟩) (fun H locs hW hS => ?_)
  refine lv_aload_n hx hb dL_law_624 rfl (lv_at hl 2 rfl) ?_
  refine lv_aload_n hx hb dL_law_625 rfl (lv_at hl 0 rfl) ?_
  refine lv_iload_n hx hb dL_law_626 rfl (lv_at hl 3 rfl) ?_
  refine lv_iconst (v := 1) hx hb dL_law_627 (by decide) ?_
  refine lv_iadd hx hb dL_law_628 ?_
  refine va_sld hx hb hX hbl hbA hS h1 dL_law_629 ?_
  refine lv_aload_n hx hb dL_law_630 rfl (lv_at hl 0 rfl) ?_
  refine lv_iload_n hx hb dL_law_631 rfl (lv_at hl 3 rfl) ?_
  refine lv_iconst (v := 2) hx hb dL_law_632 (by decide) ?_
  refine lv_iadd hx hb dL_law_633 ?_
  refine va_sld hx hb hX hbl hbA hS h2 dL_law_634 ?_
  refine lv_aload_n hx hb dL_law_635 rfl (lv_at hl 0 rfl) ?_
  refine lv_iload_n hx hb dL_law_636 rfl (lv_at hl 3 rfl) ?_
  refine lv_iconst (v := 3) hx hb dL_law_637 (by decide) ?_
  refine lv_iadd hx hb dL_law_638 ?_
  refine va_sld hx hb hX hbl hbA hS h3 dL_law_639 ?_
  refine ps_backI (x0 := r) (M' := M2) hS (ps_callV C hW pc_9 mf_X10_wishes tq_1232 tq_1233 tq_1231 ⟨Nat.le_of_ble_eq_true rfl, Nat.le_of_ble_eq_true rfl⟩ rfl rfl (As := [.int (xs (x3 + 1).toNatClampNeg), .int (xs (x3 + 2).toNatClampNeg), .int (xs (x3 + 3).toNatClampNeg)]) (rest := [.int r]) (c_X10_wishes hc2) hK2 rfl hl.1 rfl (Nat.le_of_ble_eq_true rfl) dL_law_640 ⟨Nat.le_of_ble_eq_true rfl, Nat.le_of_ble_eq_true rfl⟩) (fun H locs hW hS => ?_)
  refine lv_icmp_eq (tgt := 1013) hx hb dL_law_643 (by decide) (fun _ => ?_) (fun h => absurd rfl h)
  exact kk M2 _ _ hI2 hW hS
def ps_arm20 (Inv : Nat → ps_M → Prop) : Prop := ∀ (k : Nat) (M : ps_M) (y1 : Int32) (y2 : Int32), k < 512 → Inv k M → ps_eqv Inv k M (f_X9_quarrel M 0 y1 y2) (fun M => f_X10_quarrel M 205 y1 y2)
set_option maxRecDepth 100000 in
set_option maxHeartbeats 4000000 in
theorem la_20 {Inv : Nat → ps_M → Prop} (harm : ps_arm20 Inv) (C : ps_C p s m #[Value.ref b] meth c code 4 RL ret meth.name D Y B) (hX : va_X b L xs s s.heap) (hbl : b < s.heap.size) (hbA : ¬ (fun q => B ≤ q) b) {k : Nat} {x3 : Int32} (h1 : vp_in (x3 + 1) L) (h2 : vp_in (x3 + 2) L) (h3 : vp_in (x3 + 3) L) {M : ps_M} (hk : k < 512) (hI : Inv k M) (kk : ∀ (M : ps_M) (H : Heap) (locs : List Loc), Inv (k + 1) M → ps_W D Y B M H → va_S (fun q => B ≤ q) s.heap H locs → W p l e room_1 s m #[Value.ref b] below meth c H locs 221 7852 (lw_Z below #[Value.ref b] s) (F0 m 1013 ls [])) (hW : ps_W D Y B M H) (hS : va_S (fun q => B ≤ q) s.heap H locs) (hl : lv_has ls 4 [(0, .ref b), (1, .ref (B + 0)), (2, .ref (B + 205)), (3, .int x3)]) : W p l e room_1 s m #[Value.ref b] below meth c H locs 221 7852 (lw_Z below #[Value.ref b] s) (F0 m 648 ls []) := by
  have hx := C.1
  have hb := C.2.1
  obtain ⟨hK1, r, M1, M2, hc1, hK2, hc2, hI2⟩ := harm k M (xs (x3 + 1).toNatClampNeg) (xs (x3 + 2).toNatClampNeg) hk hI
  refine lv_aload_n hx hb dL_law_648 rfl (lv_at hl 1 rfl) ?_
  refine lv_aload_n hx hb dL_law_649 rfl (lv_at hl 0 rfl) ?_
  refine lv_iload_n hx hb dL_law_650 rfl (lv_at hl 3 rfl) ?_
  refine lv_iconst (v := 1) hx hb dL_law_651 (by decide) ?_
  refine lv_iadd hx hb dL_law_652 ?_
  refine va_sld hx hb hX hbl hbA hS h1 dL_law_653 ?_
  refine lv_aload_n hx hb dL_law_654 rfl (lv_at hl 0 rfl) ?_
  refine lv_iload_n hx hb dL_law_655 rfl (lv_at hl 3 rfl) ?_
  refine lv_iconst (v := 2) hx hb dL_law_656 (by decide) ?_
  refine lv_iadd hx hb dL_law_657 ?_
  refine va_sld hx hb hX hbl hbA hS h2 dL_law_658 ?_
  refine ps_backI (x0 := r) (M' := M1) hS (ps_callV C hW pc_8 mf_X9_quarrel tq_751 tq_752 tq_750 ⟨Nat.le_of_ble_eq_true rfl, Nat.le_of_ble_eq_true rfl⟩ rfl rfl (As := [.int (xs (x3 + 1).toNatClampNeg), .int (xs (x3 + 2).toNatClampNeg)]) (rest := []) (c_X9_quarrel hc1) hK1 rfl hl.1 rfl (Nat.le_of_ble_eq_true rfl) dL_law_659 ⟨Nat.le_of_ble_eq_true rfl, Nat.le_of_ble_eq_true rfl⟩) (fun H locs hW hS => ?_)
  refine lv_aload_n hx hb dL_law_662 rfl (lv_at hl 2 rfl) ?_
  refine lv_aload_n hx hb dL_law_663 rfl (lv_at hl 0 rfl) ?_
  refine lv_iload_n hx hb dL_law_664 rfl (lv_at hl 3 rfl) ?_
  refine lv_iconst (v := 1) hx hb dL_law_665 (by decide) ?_
  refine lv_iadd hx hb dL_law_666 ?_
  refine va_sld hx hb hX hbl hbA hS h1 dL_law_667 ?_
  refine lv_aload_n hx hb dL_law_668 rfl (lv_at hl 0 rfl) ?_
  refine lv_iload_n hx hb dL_law_669 rfl (lv_at hl 3 rfl) ?_
  refine lv_iconst (v := 2) hx hb dL_law_670 (by decide) ?_
  refine lv_iadd hx hb dL_law_671 ?_
  refine va_sld hx hb hX hbl hbA hS h2 dL_law_672 ?_
  refine ps_backI (x0 := r) (M' := M2) hS (ps_callV C hW pc_9 mf_X10_quarrel tq_1237 tq_1238 tq_1236 ⟨Nat.le_of_ble_eq_true rfl, Nat.le_of_ble_eq_true rfl⟩ rfl rfl (As := [.int (xs (x3 + 1).toNatClampNeg), .int (xs (x3 + 2).toNatClampNeg)]) (rest := [.int r]) (c_X10_quarrel hc2) hK2 rfl hl.1 rfl (Nat.le_of_ble_eq_true rfl) dL_law_673 ⟨Nat.le_of_ble_eq_true rfl, Nat.le_of_ble_eq_true rfl⟩) (fun H locs hW hS => ?_)
  refine lv_icmp_eq (tgt := 1013) hx hb dL_law_676 (by decide) (fun _ => ?_) (fun h => absurd rfl h)
  exact kk M2 _ _ hI2 hW hS
def ps_arm21 (Inv : Nat → ps_M → Prop) : Prop := ∀ (k : Nat) (M : ps_M) (y1 : Int32), k < 512 → Inv k M → ps_eqv Inv k M (f_X9_withWhom M 0 y1) (fun M => f_X10_withWhom M 205 y1)
set_option maxRecDepth 100000 in
set_option maxHeartbeats 4000000 in
theorem la_21 {Inv : Nat → ps_M → Prop} (harm : ps_arm21 Inv) (C : ps_C p s m #[Value.ref b] meth c code 4 RL ret meth.name D Y B) (hX : va_X b L xs s s.heap) (hbl : b < s.heap.size) (hbA : ¬ (fun q => B ≤ q) b) {k : Nat} {x3 : Int32} (h1 : vp_in (x3 + 1) L) (h2 : vp_in (x3 + 2) L) (h3 : vp_in (x3 + 3) L) {M : ps_M} (hk : k < 512) (hI : Inv k M) (kk : ∀ (M : ps_M) (H : Heap) (locs : List Loc), Inv (k + 1) M → ps_W D Y B M H → va_S (fun q => B ≤ q) s.heap H locs → W p l e room_1 s m #[Value.ref b] below meth c H locs 221 7852 (lw_Z below #[Value.ref b] s) (F0 m 1013 ls [])) (hW : ps_W D Y B M H) (hS : va_S (fun q => B ≤ q) s.heap H locs) (hl : lv_has ls 4 [(0, .ref b), (1, .ref (B + 0)), (2, .ref (B + 205)), (3, .int x3)]) : W p l e room_1 s m #[Value.ref b] below meth c H locs 221 7852 (lw_Z below #[Value.ref b] s) (F0 m 681 ls []) := by
  have hx := C.1
  have hb := C.2.1
  obtain ⟨hK1, r, M1, M2, hc1, hK2, hc2, hI2⟩ := harm k M (xs (x3 + 1).toNatClampNeg) hk hI
  refine lv_aload_n hx hb dL_law_681 rfl (lv_at hl 1 rfl) ?_
  refine lv_aload_n hx hb dL_law_682 rfl (lv_at hl 0 rfl) ?_
  refine lv_iload_n hx hb dL_law_683 rfl (lv_at hl 3 rfl) ?_
  refine lv_iconst (v := 1) hx hb dL_law_684 (by decide) ?_
  refine lv_iadd hx hb dL_law_685 ?_
  refine va_sld hx hb hX hbl hbA hS h1 dL_law_686 ?_
  refine ps_backI (x0 := r) (M' := M1) hS (ps_callV C hW pc_8 mf_X9_withWhom tq_766 tq_767 tq_765 ⟨Nat.le_of_ble_eq_true rfl, Nat.le_of_ble_eq_true rfl⟩ rfl rfl (As := [.int (xs (x3 + 1).toNatClampNeg)]) (rest := []) (c_X9_withWhom hc1) hK1 rfl hl.1 rfl (Nat.le_of_ble_eq_true rfl) dL_law_687 ⟨Nat.le_of_ble_eq_true rfl, Nat.le_of_ble_eq_true rfl⟩) (fun H locs hW hS => ?_)
  refine lv_aload_n hx hb dL_law_690 rfl (lv_at hl 2 rfl) ?_
  refine lv_aload_n hx hb dL_law_691 rfl (lv_at hl 0 rfl) ?_
  refine lv_iload_n hx hb dL_law_692 rfl (lv_at hl 3 rfl) ?_
  refine lv_iconst (v := 1) hx hb dL_law_693 (by decide) ?_
  refine lv_iadd hx hb dL_law_694 ?_
  refine va_sld hx hb hX hbl hbA hS h1 dL_law_695 ?_
  refine ps_backI (x0 := r) (M' := M2) hS (ps_callV C hW pc_9 mf_X10_withWhom tq_1245 tq_1246 tq_1244 ⟨Nat.le_of_ble_eq_true rfl, Nat.le_of_ble_eq_true rfl⟩ rfl rfl (As := [.int (xs (x3 + 1).toNatClampNeg)]) (rest := [.int r]) (c_X10_withWhom hc2) hK2 rfl hl.1 rfl (Nat.le_of_ble_eq_true rfl) dL_law_696 ⟨Nat.le_of_ble_eq_true rfl, Nat.le_of_ble_eq_true rfl⟩) (fun H locs hW hS => ?_)
  refine lv_icmp_eq (tgt := 1013) hx hb dL_law_699 (by decide) (fun _ => ?_) (fun h => absurd rfl h)
  exact kk M2 _ _ hI2 hW hS
def ps_arm22 (Inv : Nat → ps_M → Prop) : Prop := ∀ (k : Nat) (M : ps_M) (y1 : Int32) (y2 : Int32) (y3 : Int32), k < 512 → Inv k M → ps_eqv Inv k M (f_X9_changes M 0 y1 y2 y3) (fun M => f_X10_changes M 205 y1 y2 y3)
set_option maxRecDepth 100000 in
set_option maxHeartbeats 4000000 in
theorem la_22 {Inv : Nat → ps_M → Prop} (harm : ps_arm22 Inv) (C : ps_C p s m #[Value.ref b] meth c code 4 RL ret meth.name D Y B) (hX : va_X b L xs s s.heap) (hbl : b < s.heap.size) (hbA : ¬ (fun q => B ≤ q) b) {k : Nat} {x3 : Int32} (h1 : vp_in (x3 + 1) L) (h2 : vp_in (x3 + 2) L) (h3 : vp_in (x3 + 3) L) {M : ps_M} (hk : k < 512) (hI : Inv k M) (kk : ∀ (M : ps_M) (H : Heap) (locs : List Loc), Inv (k + 1) M → ps_W D Y B M H → va_S (fun q => B ≤ q) s.heap H locs → W p l e room_1 s m #[Value.ref b] below meth c H locs 221 7852 (lw_Z below #[Value.ref b] s) (F0 m 1013 ls [])) (hW : ps_W D Y B M H) (hS : va_S (fun q => B ≤ q) s.heap H locs) (hl : lv_has ls 4 [(0, .ref b), (1, .ref (B + 0)), (2, .ref (B + 205)), (3, .int x3)]) : W p l e room_1 s m #[Value.ref b] below meth c H locs 221 7852 (lw_Z below #[Value.ref b] s) (F0 m 704 ls []) := by
  have hx := C.1
  have hb := C.2.1
  obtain ⟨hK1, r, M1, M2, hc1, hK2, hc2, hI2⟩ := harm k M (xs (x3 + 1).toNatClampNeg) (xs (x3 + 2).toNatClampNeg) (xs (x3 + 3).toNatClampNeg) hk hI
  refine lv_aload_n hx hb dL_law_704 rfl (lv_at hl 1 rfl) ?_
  refine lv_aload_n hx hb dL_law_705 rfl (lv_at hl 0 rfl) ?_
  refine lv_iload_n hx hb dL_law_706 rfl (lv_at hl 3 rfl) ?_
  refine lv_iconst (v := 1) hx hb dL_law_707 (by decide) ?_
  refine lv_iadd hx hb dL_law_708 ?_
  refine va_sld hx hb hX hbl hbA hS h1 dL_law_709 ?_
  refine lv_aload_n hx hb dL_law_710 rfl (lv_at hl 0 rfl) ?_
  refine lv_iload_n hx hb dL_law_711 rfl (lv_at hl 3 rfl) ?_
  refine lv_iconst (v := 2) hx hb dL_law_712 (by decide) ?_
  refine lv_iadd hx hb dL_law_713 ?_
  refine va_sld hx hb hX hbl hbA hS h2 dL_law_714 ?_
  refine lv_aload_n hx hb dL_law_715 rfl (lv_at hl 0 rfl) ?_
  refine lv_iload_n hx hb dL_law_716 rfl (lv_at hl 3 rfl) ?_
  refine lv_iconst (v := 3) hx hb dL_law_717 (by decide) ?_
  refine lv_iadd hx hb dL_law_718 ?_
  refine va_sld hx hb hX hbl hbA hS h3 dL_law_719 ?_
  refine ps_backI (x0 := r) (M' := M1) hS (ps_callV C hW pc_8 mf_X9_changes tq_776 tq_777 tq_775 ⟨Nat.le_of_ble_eq_true rfl, Nat.le_of_ble_eq_true rfl⟩ rfl rfl (As := [.int (xs (x3 + 1).toNatClampNeg), .int (xs (x3 + 2).toNatClampNeg), .int (xs (x3 + 3).toNatClampNeg)]) (rest := []) (c_X9_changes hc1) hK1 rfl hl.1 rfl (Nat.le_of_ble_eq_true rfl) dL_law_720 ⟨Nat.le_of_ble_eq_true rfl, Nat.le_of_ble_eq_true rfl⟩) (fun H locs hW hS => ?_)
  refine lv_aload_n hx hb dL_law_723 rfl (lv_at hl 2 rfl) ?_
  refine lv_aload_n hx hb dL_law_724 rfl (lv_at hl 0 rfl) ?_
  refine lv_iload_n hx hb dL_law_725 rfl (lv_at hl 3 rfl) ?_
  refine lv_iconst (v := 1) hx hb dL_law_726 (by decide) ?_
  refine lv_iadd hx hb dL_law_727 ?_
  refine va_sld hx hb hX hbl hbA hS h1 dL_law_728 ?_
  refine lv_aload_n hx hb dL_law_729 rfl (lv_at hl 0 rfl) ?_
  refine lv_iload_n hx hb dL_law_730 rfl (lv_at hl 3 rfl) ?_
  refine lv_iconst (v := 2) hx hb dL_law_731 (by decide) ?_
  refine lv_iadd hx hb dL_law_732 ?_
  refine va_sld hx hb hX hbl hbA hS h2 dL_law_733 ?_
  refine lv_aload_n hx hb dL_law_734 rfl (lv_at hl 0 rfl) ?_
  refine lv_iload_n hx hb dL_law_735 rfl (lv_at hl 3 rfl) ?_
  refine lv_iconst (v := 3) hx hb dL_law_736 (by decide) ?_
  refine lv_iadd hx hb dL_law_737 ?_
  refine va_sld hx hb hX hbl hbA hS h3 dL_law_738 ?_
  refine ps_backI (x0 := r) (M' := M2) hS (ps_callV C hW pc_9 mf_X10_changes tq_1249 tq_1250 tq_1248 ⟨Nat.le_of_ble_eq_true rfl, Nat.le_of_ble_eq_true rfl⟩ rfl rfl (As := [.int (xs (x3 + 1).toNatClampNeg), .int (xs (x3 + 2).toNatClampNeg), .int (xs (x3 + 3).toNatClampNeg)]) (rest := [.int r]) (c_X10_changes hc2) hK2 rfl hl.1 rfl (Nat.le_of_ble_eq_true rfl) dL_law_739 ⟨Nat.le_of_ble_eq_true rfl, Nat.le_of_ble_eq_true rfl⟩) (fun H locs hW hS => ?_)
  refine lv_icmp_eq (tgt := 1013) hx hb dL_law_742 (by decide) (fun _ => ?_) (fun h => absurd rfl h)
  exact kk M2 _ _ hI2 hW hS
def ps_arm23 (Inv : Nat → ps_M → Prop) : Prop := ∀ (k : Nat) (M : ps_M) (y1 : Int32), k < 512 → Inv k M → ps_eqv Inv k M (f_X9_whenWedge M 0 y1) (fun M => f_X10_whenWedge M 205 y1)
set_option maxRecDepth 100000 in
set_option maxHeartbeats 4000000 in
theorem la_23 {Inv : Nat → ps_M → Prop} (harm : ps_arm23 Inv) (C : ps_C p s m #[Value.ref b] meth c code 4 RL ret meth.name D Y B) (hX : va_X b L xs s s.heap) (hbl : b < s.heap.size) (hbA : ¬ (fun q => B ≤ q) b) {k : Nat} {x3 : Int32} (h1 : vp_in (x3 + 1) L) (h2 : vp_in (x3 + 2) L) (h3 : vp_in (x3 + 3) L) {M : ps_M} (hk : k < 512) (hI : Inv k M) (kk : ∀ (M : ps_M) (H : Heap) (locs : List Loc), Inv (k + 1) M → ps_W D Y B M H → va_S (fun q => B ≤ q) s.heap H locs → W p l e room_1 s m #[Value.ref b] below meth c H locs 221 7852 (lw_Z below #[Value.ref b] s) (F0 m 1013 ls [])) (hW : ps_W D Y B M H) (hS : va_S (fun q => B ≤ q) s.heap H locs) (hl : lv_has ls 4 [(0, .ref b), (1, .ref (B + 0)), (2, .ref (B + 205)), (3, .int x3)]) : W p l e room_1 s m #[Value.ref b] below meth c H locs 221 7852 (lw_Z below #[Value.ref b] s) (F0 m 747 ls []) := by
  have hx := C.1
  have hb := C.2.1
  obtain ⟨hK1, r, M1, M2, hc1, hK2, hc2, hI2⟩ := harm k M (xs (x3 + 1).toNatClampNeg) hk hI
  refine lv_aload_n hx hb dL_law_747 rfl (lv_at hl 1 rfl) ?_
  refine lv_aload_n hx hb dL_law_748 rfl (lv_at hl 0 rfl) ?_
  refine lv_iload_n hx hb dL_law_749 rfl (lv_at hl 3 rfl) ?_
  refine lv_iconst (v := 1) hx hb dL_law_750 (by decide) ?_
  refine lv_iadd hx hb dL_law_751 ?_
  refine va_sld hx hb hX hbl hbA hS h1 dL_law_752 ?_
  refine ps_backI (x0 := r) (M' := M1) hS (ps_callV C hW pc_8 mf_X9_whenWedge tq_813 tq_814 tq_812 ⟨Nat.le_of_ble_eq_true rfl, Nat.le_of_ble_eq_true rfl⟩ rfl rfl (As := [.int (xs (x3 + 1).toNatClampNeg)]) (rest := []) (c_X9_whenWedge hc1) hK1 rfl hl.1 rfl (Nat.le_of_ble_eq_true rfl) dL_law_753 ⟨Nat.le_of_ble_eq_true rfl, Nat.le_of_ble_eq_true rfl⟩) (fun H locs hW hS => ?_)
  refine lv_aload_n hx hb dL_law_756 rfl (lv_at hl 2 rfl) ?_
  refine lv_aload_n hx hb dL_law_757 rfl (lv_at hl 0 rfl) ?_
  refine lv_iload_n hx hb dL_law_758 rfl (lv_at hl 3 rfl) ?_
  refine lv_iconst (v := 1) hx hb dL_law_759 (by decide) ?_
  refine lv_iadd hx hb dL_law_760 ?_
  refine va_sld hx hb hX hbl hbA hS h1 dL_law_761 ?_
  refine ps_backI (x0 := r) (M' := M2) hS (ps_callV C hW pc_9 mf_X10_whenWedge tq_1258 tq_1259 tq_1257 ⟨Nat.le_of_ble_eq_true rfl, Nat.le_of_ble_eq_true rfl⟩ rfl rfl (As := [.int (xs (x3 + 1).toNatClampNeg)]) (rest := [.int r]) (c_X10_whenWedge hc2) hK2 rfl hl.1 rfl (Nat.le_of_ble_eq_true rfl) dL_law_762 ⟨Nat.le_of_ble_eq_true rfl, Nat.le_of_ble_eq_true rfl⟩) (fun H locs hW hS => ?_)
  refine lv_icmp_eq (tgt := 1013) hx hb dL_law_765 (by decide) (fun _ => ?_) (fun h => absurd rfl h)
  exact kk M2 _ _ hI2 hW hS
def ps_arm24 (Inv : Nat → ps_M → Prop) : Prop := ∀ (k : Nat) (M : ps_M) (y1 : Int32) (y2 : Int32), k < 512 → Inv k M → ps_eqv Inv k M (f_X9_whenRest M 0 y1 y2) (fun M => f_X10_whenRest M 205 y1 y2)
set_option maxRecDepth 100000 in
set_option maxHeartbeats 4000000 in
theorem la_24 {Inv : Nat → ps_M → Prop} (harm : ps_arm24 Inv) (C : ps_C p s m #[Value.ref b] meth c code 4 RL ret meth.name D Y B) (hX : va_X b L xs s s.heap) (hbl : b < s.heap.size) (hbA : ¬ (fun q => B ≤ q) b) {k : Nat} {x3 : Int32} (h1 : vp_in (x3 + 1) L) (h2 : vp_in (x3 + 2) L) (h3 : vp_in (x3 + 3) L) {M : ps_M} (hk : k < 512) (hI : Inv k M) (kk : ∀ (M : ps_M) (H : Heap) (locs : List Loc), Inv (k + 1) M → ps_W D Y B M H → va_S (fun q => B ≤ q) s.heap H locs → W p l e room_1 s m #[Value.ref b] below meth c H locs 221 7852 (lw_Z below #[Value.ref b] s) (F0 m 1013 ls [])) (hW : ps_W D Y B M H) (hS : va_S (fun q => B ≤ q) s.heap H locs) (hl : lv_has ls 4 [(0, .ref b), (1, .ref (B + 0)), (2, .ref (B + 205)), (3, .int x3)]) : W p l e room_1 s m #[Value.ref b] below meth c H locs 221 7852 (lw_Z below #[Value.ref b] s) (F0 m 770 ls []) := by
  have hx := C.1
  have hb := C.2.1
  obtain ⟨hK1, r, M1, M2, hc1, hK2, hc2, hI2⟩ := harm k M (xs (x3 + 1).toNatClampNeg) (xs (x3 + 2).toNatClampNeg) hk hI
  refine lv_aload_n hx hb dL_law_770 rfl (lv_at hl 1 rfl) ?_
  refine lv_aload_n hx hb dL_law_771 rfl (lv_at hl 0 rfl) ?_
  refine lv_iload_n hx hb dL_law_772 rfl (lv_at hl 3 rfl) ?_
  refine lv_iconst (v := 1) hx hb dL_law_773 (by decide) ?_
  refine lv_iadd hx hb dL_law_774 ?_
  refine va_sld hx hb hX hbl hbA hS h1 dL_law_775 ?_
  refine lv_aload_n hx hb dL_law_776 rfl (lv_at hl 0 rfl) ?_
  refine lv_iload_n hx hb dL_law_777 rfl (lv_at hl 3 rfl) ?_
  refine lv_iconst (v := 2) hx hb dL_law_778 (by decide) ?_
  refine lv_iadd hx hb dL_law_779 ?_
  refine va_sld hx hb hX hbl hbA hS h2 dL_law_780 ?_
  refine ps_backI (x0 := r) (M' := M1) hS (ps_callV C hW pc_8 mf_X9_whenRest tq_822 tq_823 tq_821 ⟨Nat.le_of_ble_eq_true rfl, Nat.le_of_ble_eq_true rfl⟩ rfl rfl (As := [.int (xs (x3 + 1).toNatClampNeg), .int (xs (x3 + 2).toNatClampNeg)]) (rest := []) (c_X9_whenRest hc1) hK1 rfl hl.1 rfl (Nat.le_of_ble_eq_true rfl) dL_law_781 ⟨Nat.le_of_ble_eq_true rfl, Nat.le_of_ble_eq_true rfl⟩) (fun H locs hW hS => ?_)
  refine lv_aload_n hx hb dL_law_784 rfl (lv_at hl 2 rfl) ?_
  refine lv_aload_n hx hb dL_law_785 rfl (lv_at hl 0 rfl) ?_
  refine lv_iload_n hx hb dL_law_786 rfl (lv_at hl 3 rfl) ?_
  refine lv_iconst (v := 1) hx hb dL_law_787 (by decide) ?_
  refine lv_iadd hx hb dL_law_788 ?_
  refine va_sld hx hb hX hbl hbA hS h1 dL_law_789 ?_
  refine lv_aload_n hx hb dL_law_790 rfl (lv_at hl 0 rfl) ?_
  refine lv_iload_n hx hb dL_law_791 rfl (lv_at hl 3 rfl) ?_
  refine lv_iconst (v := 2) hx hb dL_law_792 (by decide) ?_
  refine lv_iadd hx hb dL_law_793 ?_
  refine va_sld hx hb hX hbl hbA hS h2 dL_law_794 ?_
  refine ps_backI (x0 := r) (M' := M2) hS (ps_callV C hW pc_9 mf_X10_whenRest tq_1262 tq_1263 tq_1261 ⟨Nat.le_of_ble_eq_true rfl, Nat.le_of_ble_eq_true rfl⟩ rfl rfl (As := [.int (xs (x3 + 1).toNatClampNeg), .int (xs (x3 + 2).toNatClampNeg)]) (rest := [.int r]) (c_X10_whenRest hc2) hK2 rfl hl.1 rfl (Nat.le_of_ble_eq_true rfl) dL_law_795 ⟨Nat.le_of_ble_eq_true rfl, Nat.le_of_ble_eq_true rfl⟩) (fun H locs hW hS => ?_)
  refine lv_icmp_eq (tgt := 1013) hx hb dL_law_798 (by decide) (fun _ => ?_) (fun h => absurd rfl h)
  exact kk M2 _ _ hI2 hW hS
def ps_arm25 (Inv : Nat → ps_M → Prop) : Prop := ∀ (k : Nat) (M : ps_M), k < 512 → Inv k M → ps_eqv Inv k M (f_X9_worthFile M 0 ) (fun M => f_X10_worthFile M 205 )
set_option maxRecDepth 100000 in
set_option maxHeartbeats 4000000 in
theorem la_25 {Inv : Nat → ps_M → Prop} (harm : ps_arm25 Inv) (C : ps_C p s m #[Value.ref b] meth c code 4 RL ret meth.name D Y B) (hX : va_X b L xs s s.heap) (hbl : b < s.heap.size) (hbA : ¬ (fun q => B ≤ q) b) {k : Nat} {x3 : Int32} (h1 : vp_in (x3 + 1) L) (h2 : vp_in (x3 + 2) L) (h3 : vp_in (x3 + 3) L) {M : ps_M} (hk : k < 512) (hI : Inv k M) (kk : ∀ (M : ps_M) (H : Heap) (locs : List Loc), Inv (k + 1) M → ps_W D Y B M H → va_S (fun q => B ≤ q) s.heap H locs → W p l e room_1 s m #[Value.ref b] below meth c H locs 221 7852 (lw_Z below #[Value.ref b] s) (F0 m 1013 ls [])) (hW : ps_W D Y B M H) (hS : va_S (fun q => B ≤ q) s.heap H locs) (hl : lv_has ls 4 [(0, .ref b), (1, .ref (B + 0)), (2, .ref (B + 205)), (3, .int x3)]) : W p l e room_1 s m #[Value.ref b] below meth c H locs 221 7852 (lw_Z below #[Value.ref b] s) (F0 m 803 ls []) := by
  have hx := C.1
  have hb := C.2.1
  obtain ⟨hK1, r, M1, M2, hc1, hK2, hc2, hI2⟩ := harm k M  hk hI
  refine lv_aload_n hx hb dL_law_803 rfl (lv_at hl 1 rfl) ?_
  refine ps_backI (x0 := r) (M' := M1) hS (ps_callV C hW pc_8 mf_X9_worthFile tq_844 tq_845 tq_843 ⟨Nat.le_of_ble_eq_true rfl, Nat.le_of_ble_eq_true rfl⟩ rfl rfl (As := []) (rest := []) (c_X9_worthFile hc1) hK1 rfl hl.1 rfl (Nat.le_of_ble_eq_true rfl) dL_law_804 ⟨Nat.le_of_ble_eq_true rfl, Nat.le_of_ble_eq_true rfl⟩) (fun H locs hW hS => ?_)
  refine lv_aload_n hx hb dL_law_807 rfl (lv_at hl 2 rfl) ?_
  refine ps_backI (x0 := r) (M' := M2) hS (ps_callV C hW pc_9 mf_X10_worthFile tq_1274 tq_1275 tq_1273 ⟨Nat.le_of_ble_eq_true rfl, Nat.le_of_ble_eq_true rfl⟩ rfl rfl (As := []) (rest := [.int r]) (c_X10_worthFile hc2) hK2 rfl hl.1 rfl (Nat.le_of_ble_eq_true rfl) dL_law_808 ⟨Nat.le_of_ble_eq_true rfl, Nat.le_of_ble_eq_true rfl⟩) (fun H locs hW hS => ?_)
  refine lv_icmp_eq (tgt := 1013) hx hb dL_law_811 (by decide) (fun _ => ?_) (fun h => absurd rfl h)
  exact kk M2 _ _ hI2 hW hS
def ps_arm26 (Inv : Nat → ps_M → Prop) : Prop := ∀ (k : Nat) (M : ps_M) (y1 : Int32), k < 512 → Inv k M → ps_eqv Inv k M (f_X9_see M 0 y1) (fun M => f_X10_see M 205 y1)
set_option maxRecDepth 100000 in
set_option maxHeartbeats 4000000 in
theorem la_26 {Inv : Nat → ps_M → Prop} (harm : ps_arm26 Inv) (C : ps_C p s m #[Value.ref b] meth c code 4 RL ret meth.name D Y B) (hX : va_X b L xs s s.heap) (hbl : b < s.heap.size) (hbA : ¬ (fun q => B ≤ q) b) {k : Nat} {x3 : Int32} (h1 : vp_in (x3 + 1) L) (h2 : vp_in (x3 + 2) L) (h3 : vp_in (x3 + 3) L) {M : ps_M} (hk : k < 512) (hI : Inv k M) (kk : ∀ (M : ps_M) (H : Heap) (locs : List Loc), Inv (k + 1) M → ps_W D Y B M H → va_S (fun q => B ≤ q) s.heap H locs → W p l e room_1 s m #[Value.ref b] below meth c H locs 221 7852 (lw_Z below #[Value.ref b] s) (F0 m 1013 ls [])) (hW : ps_W D Y B M H) (hS : va_S (fun q => B ≤ q) s.heap H locs) (hl : lv_has ls 4 [(0, .ref b), (1, .ref (B + 0)), (2, .ref (B + 205)), (3, .int x3)]) : W p l e room_1 s m #[Value.ref b] below meth c H locs 221 7852 (lw_Z below #[Value.ref b] s) (F0 m 816 ls []) := by
  have hx := C.1
  have hb := C.2.1
  obtain ⟨hK1, r, M1, M2, hc1, hK2, hc2, hI2⟩ := harm k M (xs (x3 + 1).toNatClampNeg) hk hI
  refine lv_aload_n hx hb dL_law_816 rfl (lv_at hl 1 rfl) ?_
  refine lv_aload_n hx hb dL_law_817 rfl (lv_at hl 0 rfl) ?_
  refine lv_iload_n hx hb dL_law_818 rfl (lv_at hl 3 rfl) ?_
  refine lv_iconst (v := 1) hx hb dL_law_819 (by decide) ?_
  refine lv_iadd hx hb dL_law_820 ?_
  refine va_sld hx hb hX hbl hbA hS h1 dL_law_821 ?_
  refine ps_backI (x0 := r) (M' := M1) hS (ps_callV C hW pc_8 mf_X9_see tq_852 tq_853 tq_851 ⟨Nat.le_of_ble_eq_true rfl, Nat.le_of_ble_eq_true rfl⟩ rfl rfl (As := [.int (xs (x3 + 1).toNatClampNeg)]) (rest := []) (c_X9_see hc1) hK1 rfl hl.1 rfl (Nat.le_of_ble_eq_true rfl) dL_law_822 ⟨Nat.le_of_ble_eq_true rfl, Nat.le_of_ble_eq_true rfl⟩) (fun H locs hW hS => ?_)
  refine lv_aload_n hx hb dL_law_825 rfl (lv_at hl 2 rfl) ?_
  refine lv_aload_n hx hb dL_law_826 rfl (lv_at hl 0 rfl) ?_
  refine lv_iload_n hx hb dL_law_827 rfl (lv_at hl 3 rfl) ?_
  refine lv_iconst (v := 1) hx hb dL_law_828 (by decide) ?_
  refine lv_iadd hx hb dL_law_829 ?_
  refine va_sld hx hb hX hbl hbA hS h1 dL_law_830 ?_
  refine ps_backI (x0 := r) (M' := M2) hS (ps_callV C hW pc_9 mf_X10_see tq_1278 tq_1279 tq_1277 ⟨Nat.le_of_ble_eq_true rfl, Nat.le_of_ble_eq_true rfl⟩ rfl rfl (As := [.int (xs (x3 + 1).toNatClampNeg)]) (rest := [.int r]) (c_X10_see hc2) hK2 rfl hl.1 rfl (Nat.le_of_ble_eq_true rfl) dL_law_831 ⟨Nat.le_of_ble_eq_true rfl, Nat.le_of_ble_eq_true rfl⟩) (fun H locs hW hS => ?_)
  refine lv_icmp_eq (tgt := 1013) hx hb dL_law_834 (by decide) (fun _ => ?_) (fun h => absurd rfl h)
  exact kk M2 _ _ hI2 hW hS
def ps_arm27 (Inv : Nat → ps_M → Prop) : Prop := ∀ (k : Nat) (M : ps_M) (y1 : Int32) (y2 : Int32), k < 512 → Inv k M → ps_eqv Inv k M (f_X9_habits M 0 y1 y2) (fun M => f_X10_habits M 205 y1 y2)
set_option maxRecDepth 100000 in
set_option maxHeartbeats 4000000 in
theorem la_27 {Inv : Nat → ps_M → Prop} (harm : ps_arm27 Inv) (C : ps_C p s m #[Value.ref b] meth c code 4 RL ret meth.name D Y B) (hX : va_X b L xs s s.heap) (hbl : b < s.heap.size) (hbA : ¬ (fun q => B ≤ q) b) {k : Nat} {x3 : Int32} (h1 : vp_in (x3 + 1) L) (h2 : vp_in (x3 + 2) L) (h3 : vp_in (x3 + 3) L) {M : ps_M} (hk : k < 512) (hI : Inv k M) (kk : ∀ (M : ps_M) (H : Heap) (locs : List Loc), Inv (k + 1) M → ps_W D Y B M H → va_S (fun q => B ≤ q) s.heap H locs → W p l e room_1 s m #[Value.ref b] below meth c H locs 221 7852 (lw_Z below #[Value.ref b] s) (F0 m 1013 ls [])) (hW : ps_W D Y B M H) (hS : va_S (fun q => B ≤ q) s.heap H locs) (hl : lv_has ls 4 [(0, .ref b), (1, .ref (B + 0)), (2, .ref (B + 205)), (3, .int x3)]) : W p l e room_1 s m #[Value.ref b] below meth c H locs 221 7852 (lw_Z below #[Value.ref b] s) (F0 m 839 ls []) := by
  have hx := C.1
  have hb := C.2.1
  obtain ⟨hK1, r, M1, M2, hc1, hK2, hc2, hI2⟩ := harm k M (xs (x3 + 1).toNatClampNeg) (xs (x3 + 2).toNatClampNeg) hk hI
  refine lv_aload_n hx hb dL_law_839 rfl (lv_at hl 1 rfl) ?_
  refine lv_aload_n hx hb dL_law_840 rfl (lv_at hl 0 rfl) ?_
  refine lv_iload_n hx hb dL_law_841 rfl (lv_at hl 3 rfl) ?_
  refine lv_iconst (v := 1) hx hb dL_law_842 (by decide) ?_
  refine lv_iadd hx hb dL_law_843 ?_
  refine va_sld hx hb hX hbl hbA hS h1 dL_law_844 ?_
  refine lv_aload_n hx hb dL_law_845 rfl (lv_at hl 0 rfl) ?_
  refine lv_iload_n hx hb dL_law_846 rfl (lv_at hl 3 rfl) ?_
  refine lv_iconst (v := 2) hx hb dL_law_847 (by decide) ?_
  refine lv_iadd hx hb dL_law_848 ?_
  refine va_sld hx hb hX hbl hbA hS h2 dL_law_849 ?_
  refine ps_backI (x0 := r) (M' := M1) hS (ps_callV C hW pc_8 mf_X9_habits tq_859 tq_860 tq_858 ⟨Nat.le_of_ble_eq_true rfl, Nat.le_of_ble_eq_true rfl⟩ rfl rfl (As := [.int (xs (x3 + 1).toNatClampNeg), .int (xs (x3 + 2).toNatClampNeg)]) (rest := []) (c_X9_habits hc1) hK1 rfl hl.1 rfl (Nat.le_of_ble_eq_true rfl) dL_law_850 ⟨Nat.le_of_ble_eq_true rfl, Nat.le_of_ble_eq_true rfl⟩) (fun H locs hW hS => ?_)
  refine lv_aload_n hx hb dL_law_853 rfl (lv_at hl 2 rfl) ?_
  refine lv_aload_n hx hb dL_law_854 rfl (lv_at hl 0 rfl) ?_
  refine lv_iload_n hx hb dL_law_855 rfl (lv_at hl 3 rfl) ?_
  refine lv_iconst (v := 1) hx hb dL_law_856 (by decide) ?_
  refine lv_iadd hx hb dL_law_857 ?_
  refine va_sld hx hb hX hbl hbA hS h1 dL_law_858 ?_
  refine lv_aload_n hx hb dL_law_859 rfl (lv_at hl 0 rfl) ?_
  refine lv_iload_n hx hb dL_law_860 rfl (lv_at hl 3 rfl) ?_
  refine lv_iconst (v := 2) hx hb dL_law_861 (by decide) ?_
  refine lv_iadd hx hb dL_law_862 ?_
  refine va_sld hx hb hX hbl hbA hS h2 dL_law_863 ?_
  refine ps_backI (x0 := r) (M' := M2) hS (ps_callV C hW pc_9 mf_X10_habits tq_1282 tq_1283 tq_1281 ⟨Nat.le_of_ble_eq_true rfl, Nat.le_of_ble_eq_true rfl⟩ rfl rfl (As := [.int (xs (x3 + 1).toNatClampNeg), .int (xs (x3 + 2).toNatClampNeg)]) (rest := [.int r]) (c_X10_habits hc2) hK2 rfl hl.1 rfl (Nat.le_of_ble_eq_true rfl) dL_law_864 ⟨Nat.le_of_ble_eq_true rfl, Nat.le_of_ble_eq_true rfl⟩) (fun H locs hW hS => ?_)
  refine lv_icmp_eq (tgt := 1013) hx hb dL_law_867 (by decide) (fun _ => ?_) (fun h => absurd rfl h)
  exact kk M2 _ _ hI2 hW hS
def ps_arm28 (Inv : Nat → ps_M → Prop) : Prop := ∀ (k : Nat) (M : ps_M) (y1 : Int32), k < 512 → Inv k M → ps_eqv Inv k M (f_X9_end M 0 y1) (fun M => f_X10_end M 205 y1)
set_option maxRecDepth 100000 in
set_option maxHeartbeats 4000000 in
theorem la_28 {Inv : Nat → ps_M → Prop} (harm : ps_arm28 Inv) (C : ps_C p s m #[Value.ref b] meth c code 4 RL ret meth.name D Y B) (hX : va_X b L xs s s.heap) (hbl : b < s.heap.size) (hbA : ¬ (fun q => B ≤ q) b) {k : Nat} {x3 : Int32} (h1 : vp_in (x3 + 1) L) (h2 : vp_in (x3 + 2) L) (h3 : vp_in (x3 + 3) L) {M : ps_M} (hk : k < 512) (hI : Inv k M) (kk : ∀ (M : ps_M) (H : Heap) (locs : List Loc), Inv (k + 1) M → ps_W D Y B M H → va_S (fun q => B ≤ q) s.heap H locs → W p l e room_1 s m #[Value.ref b] below meth c H locs 221 7852 (lw_Z below #[Value.ref b] s) (F0 m 1013 ls [])) (hW : ps_W D Y B M H) (hS : va_S (fun q => B ≤ q) s.heap H locs) (hl : lv_has ls 4 [(0, .ref b), (1, .ref (B + 0)), (2, .ref (B + 205)), (3, .int x3)]) : W p l e room_1 s m #[Value.ref b] below meth c H locs 221 7852 (lw_Z below #[Value.ref b] s) (F0 m 872 ls []) := by
  have hx := C.1
  have hb := C.2.1
  obtain ⟨hK1, r, M1, M2, hc1, hK2, hc2, hI2⟩ := harm k M (xs (x3 + 1).toNatClampNeg) hk hI
  refine lv_aload_n hx hb dL_law_872 rfl (lv_at hl 1 rfl) ?_
  refine lv_aload_n hx hb dL_law_873 rfl (lv_at hl 0 rfl) ?_
  refine lv_iload_n hx hb dL_law_874 rfl (lv_at hl 3 rfl) ?_
  refine lv_iconst (v := 1) hx hb dL_law_875 (by decide) ?_
  refine lv_iadd hx hb dL_law_876 ?_
  refine va_sld hx hb hX hbl hbA hS h1 dL_law_877 ?_
  refine ps_backI (x0 := r) (M' := M1) hS (ps_callV C hW pc_8 mf_X9_end tq_872 tq_873 tq_871 ⟨Nat.le_of_ble_eq_true rfl, Nat.le_of_ble_eq_true rfl⟩ rfl rfl (As := [.int (xs (x3 + 1).toNatClampNeg)]) (rest := []) (c_X9_end hc1) hK1 rfl hl.1 rfl (Nat.le_of_ble_eq_true rfl) dL_law_878 ⟨Nat.le_of_ble_eq_true rfl, Nat.le_of_ble_eq_true rfl⟩) (fun H locs hW hS => ?_)
  refine lv_aload_n hx hb dL_law_881 rfl (lv_at hl 2 rfl) ?_
  refine lv_aload_n hx hb dL_law_882 rfl (lv_at hl 0 rfl) ?_
  refine lv_iload_n hx hb dL_law_883 rfl (lv_at hl 3 rfl) ?_
  refine lv_iconst (v := 1) hx hb dL_law_884 (by decide) ?_
  refine lv_iadd hx hb dL_law_885 ?_
  refine va_sld hx hb hX hbl hbA hS h1 dL_law_886 ?_
  refine ps_backI (x0 := r) (M' := M2) hS (ps_callV C hW pc_9 mf_X10_end tq_1290 tq_1291 tq_1289 ⟨Nat.le_of_ble_eq_true rfl, Nat.le_of_ble_eq_true rfl⟩ rfl rfl (As := [.int (xs (x3 + 1).toNatClampNeg)]) (rest := [.int r]) (c_X10_end hc2) hK2 rfl hl.1 rfl (Nat.le_of_ble_eq_true rfl) dL_law_887 ⟨Nat.le_of_ble_eq_true rfl, Nat.le_of_ble_eq_true rfl⟩) (fun H locs hW hS => ?_)
  refine lv_icmp_eq (tgt := 1013) hx hb dL_law_890 (by decide) (fun _ => ?_) (fun h => absurd rfl h)
  exact kk M2 _ _ hI2 hW hS
def ps_arm29 (Inv : Nat → ps_M → Prop) : Prop := ∀ (k : Nat) (M : ps_M) (y1 : Int32), k < 512 → Inv k M → ps_eqv Inv k M (f_X9_write M 0 y1) (fun M => f_X10_write M 205 y1)
set_option maxRecDepth 100000 in
set_option maxHeartbeats 4000000 in
theorem la_29 {Inv : Nat → ps_M → Prop} (harm : ps_arm29 Inv) (C : ps_C p s m #[Value.ref b] meth c code 4 RL ret meth.name D Y B) (hX : va_X b L xs s s.heap) (hbl : b < s.heap.size) (hbA : ¬ (fun q => B ≤ q) b) {k : Nat} {x3 : Int32} (h1 : vp_in (x3 + 1) L) (h2 : vp_in (x3 + 2) L) (h3 : vp_in (x3 + 3) L) {M : ps_M} (hk : k < 512) (hI : Inv k M) (kk : ∀ (M : ps_M) (H : Heap) (locs : List Loc), Inv (k + 1) M → ps_W D Y B M H → va_S (fun q => B ≤ q) s.heap H locs → W p l e room_1 s m #[Value.ref b] below meth c H locs 221 7852 (lw_Z below #[Value.ref b] s) (F0 m 1013 ls [])) (hW : ps_W D Y B M H) (hS : va_S (fun q => B ≤ q) s.heap H locs) (hl : lv_has ls 4 [(0, .ref b), (1, .ref (B + 0)), (2, .ref (B + 205)), (3, .int x3)]) : W p l e room_1 s m #[Value.ref b] below meth c H locs 221 7852 (lw_Z below #[Value.ref b] s) (F0 m 895 ls []) := by
  have hx := C.1
  have hb := C.2.1
  obtain ⟨hK1, r, M1, M2, hc1, hK2, hc2, hI2⟩ := harm k M (xs (x3 + 1).toNatClampNeg) hk hI
  refine lv_aload_n hx hb dL_law_895 rfl (lv_at hl 1 rfl) ?_
  refine lv_aload_n hx hb dL_law_896 rfl (lv_at hl 0 rfl) ?_
  refine lv_iload_n hx hb dL_law_897 rfl (lv_at hl 3 rfl) ?_
  refine lv_iconst (v := 1) hx hb dL_law_898 (by decide) ?_
  refine lv_iadd hx hb dL_law_899 ?_
  refine va_sld hx hb hX hbl hbA hS h1 dL_law_900 ?_
  refine ps_backI (x0 := r) (M' := M1) hS (ps_callV C hW pc_8 mf_X9_write tq_884 tq_885 tq_883 ⟨Nat.le_of_ble_eq_true rfl, Nat.le_of_ble_eq_true rfl⟩ rfl rfl (As := [.int (xs (x3 + 1).toNatClampNeg)]) (rest := []) (c_X9_write hc1) hK1 rfl hl.1 rfl (Nat.le_of_ble_eq_true rfl) dL_law_901 ⟨Nat.le_of_ble_eq_true rfl, Nat.le_of_ble_eq_true rfl⟩) (fun H locs hW hS => ?_)
  refine lv_aload_n hx hb dL_law_904 rfl (lv_at hl 2 rfl) ?_
  refine lv_aload_n hx hb dL_law_905 rfl (lv_at hl 0 rfl) ?_
  refine lv_iload_n hx hb dL_law_906 rfl (lv_at hl 3 rfl) ?_
  refine lv_iconst (v := 1) hx hb dL_law_907 (by decide) ?_
  refine lv_iadd hx hb dL_law_908 ?_
  refine va_sld hx hb hX hbl hbA hS h1 dL_law_909 ?_
  refine ps_backI (x0 := r) (M' := M2) hS (ps_callV C hW pc_9 mf_X10_write tq_1294 tq_1295 tq_1293 ⟨Nat.le_of_ble_eq_true rfl, Nat.le_of_ble_eq_true rfl⟩ rfl rfl (As := [.int (xs (x3 + 1).toNatClampNeg)]) (rest := [.int r]) (c_X10_write hc2) hK2 rfl hl.1 rfl (Nat.le_of_ble_eq_true rfl) dL_law_910 ⟨Nat.le_of_ble_eq_true rfl, Nat.le_of_ble_eq_true rfl⟩) (fun H locs hW hS => ?_)
  refine lv_icmp_eq (tgt := 1013) hx hb dL_law_913 (by decide) (fun _ => ?_) (fun h => absurd rfl h)
  exact kk M2 _ _ hI2 hW hS
def ps_arm30 (Inv : Nat → ps_M → Prop) : Prop := ∀ (k : Nat) (M : ps_M), k < 512 → Inv k M → ps_eqv Inv k M (f_X9_judge M 0 ) (fun M => f_X10_judge M 205 )
set_option maxRecDepth 100000 in
set_option maxHeartbeats 4000000 in
theorem la_30 {Inv : Nat → ps_M → Prop} (harm : ps_arm30 Inv) (C : ps_C p s m #[Value.ref b] meth c code 4 RL ret meth.name D Y B) (hX : va_X b L xs s s.heap) (hbl : b < s.heap.size) (hbA : ¬ (fun q => B ≤ q) b) {k : Nat} {x3 : Int32} (h1 : vp_in (x3 + 1) L) (h2 : vp_in (x3 + 2) L) (h3 : vp_in (x3 + 3) L) {M : ps_M} (hk : k < 512) (hI : Inv k M) (kk : ∀ (M : ps_M) (H : Heap) (locs : List Loc), Inv (k + 1) M → ps_W D Y B M H → va_S (fun q => B ≤ q) s.heap H locs → W p l e room_1 s m #[Value.ref b] below meth c H locs 221 7852 (lw_Z below #[Value.ref b] s) (F0 m 1013 ls [])) (hW : ps_W D Y B M H) (hS : va_S (fun q => B ≤ q) s.heap H locs) (hl : lv_has ls 4 [(0, .ref b), (1, .ref (B + 0)), (2, .ref (B + 205)), (3, .int x3)]) : W p l e room_1 s m #[Value.ref b] below meth c H locs 221 7852 (lw_Z below #[Value.ref b] s) (F0 m 918 ls []) := by
  have hx := C.1
  have hb := C.2.1
  obtain ⟨hK1, r, M1, M2, hc1, hK2, hc2, hI2⟩ := harm k M  hk hI
  refine lv_aload_n hx hb dL_law_918 rfl (lv_at hl 1 rfl) ?_
  refine ps_backI (x0 := r) (M' := M1) hS (ps_callV C hW pc_8 mf_X9_judge tq_888 tq_889 tq_887 ⟨Nat.le_of_ble_eq_true rfl, Nat.le_of_ble_eq_true rfl⟩ rfl rfl (As := []) (rest := []) (c_X9_judge hc1) hK1 rfl hl.1 rfl (Nat.le_of_ble_eq_true rfl) dL_law_919 ⟨Nat.le_of_ble_eq_true rfl, Nat.le_of_ble_eq_true rfl⟩) (fun H locs hW hS => ?_)
  refine lv_aload_n hx hb dL_law_922 rfl (lv_at hl 2 rfl) ?_
  refine ps_backI (x0 := r) (M' := M2) hS (ps_callV C hW pc_9 mf_X10_judge tq_1298 tq_1299 tq_1297 ⟨Nat.le_of_ble_eq_true rfl, Nat.le_of_ble_eq_true rfl⟩ rfl rfl (As := []) (rest := [.int r]) (c_X10_judge hc2) hK2 rfl hl.1 rfl (Nat.le_of_ble_eq_true rfl) dL_law_923 ⟨Nat.le_of_ble_eq_true rfl, Nat.le_of_ble_eq_true rfl⟩) (fun H locs hW hS => ?_)
  refine lv_icmp_eq (tgt := 1013) hx hb dL_law_926 (by decide) (fun _ => ?_) (fun h => absurd rfl h)
  exact kk M2 _ _ hI2 hW hS
def ps_arm31 (Inv : Nat → ps_M → Prop) : Prop := ∀ (k : Nat) (M : ps_M), k < 512 → Inv k M → ps_eqv Inv k M (f_X9_tear M 0 ) (fun M => f_X10_tear M 205 )
set_option maxRecDepth 100000 in
set_option maxHeartbeats 4000000 in
theorem la_31 {Inv : Nat → ps_M → Prop} (harm : ps_arm31 Inv) (C : ps_C p s m #[Value.ref b] meth c code 4 RL ret meth.name D Y B) (hX : va_X b L xs s s.heap) (hbl : b < s.heap.size) (hbA : ¬ (fun q => B ≤ q) b) {k : Nat} {x3 : Int32} (h1 : vp_in (x3 + 1) L) (h2 : vp_in (x3 + 2) L) (h3 : vp_in (x3 + 3) L) {M : ps_M} (hk : k < 512) (hI : Inv k M) (kk : ∀ (M : ps_M) (H : Heap) (locs : List Loc), Inv (k + 1) M → ps_W D Y B M H → va_S (fun q => B ≤ q) s.heap H locs → W p l e room_1 s m #[Value.ref b] below meth c H locs 221 7852 (lw_Z below #[Value.ref b] s) (F0 m 1013 ls [])) (hW : ps_W D Y B M H) (hS : va_S (fun q => B ≤ q) s.heap H locs) (hl : lv_has ls 4 [(0, .ref b), (1, .ref (B + 0)), (2, .ref (B + 205)), (3, .int x3)]) : W p l e room_1 s m #[Value.ref b] below meth c H locs 221 7852 (lw_Z below #[Value.ref b] s) (F0 m 931 ls []) := by
  have hx := C.1
  have hb := C.2.1
  obtain ⟨hK1, r, M1, M2, hc1, hK2, hc2, hI2⟩ := harm k M  hk hI
  refine lv_aload_n hx hb dL_law_931 rfl (lv_at hl 1 rfl) ?_
  refine ps_backI (x0 := r) (M' := M1) hS (ps_callV C hW pc_8 mf_X9_tear tq_896 tq_897 tq_895 ⟨Nat.le_of_ble_eq_true rfl, Nat.le_of_ble_eq_true rfl⟩ rfl rfl (As := []) (rest := []) (c_X9_tear hc1) hK1 rfl hl.1 rfl (Nat.le_of_ble_eq_true rfl) dL_law_932 ⟨Nat.le_of_ble_eq_true rfl, Nat.le_of_ble_eq_true rfl⟩) (fun H locs hW hS => ?_)
  refine lv_aload_n hx hb dL_law_935 rfl (lv_at hl 2 rfl) ?_
  refine ps_backI (x0 := r) (M' := M2) hS (ps_callV C hW pc_9 mf_X10_tear tq_1302 tq_1303 tq_1301 ⟨Nat.le_of_ble_eq_true rfl, Nat.le_of_ble_eq_true rfl⟩ rfl rfl (As := []) (rest := [.int r]) (c_X10_tear hc2) hK2 rfl hl.1 rfl (Nat.le_of_ble_eq_true rfl) dL_law_936 ⟨Nat.le_of_ble_eq_true rfl, Nat.le_of_ble_eq_true rfl⟩) (fun H locs hW hS => ?_)
  refine lv_icmp_eq (tgt := 1013) hx hb dL_law_939 (by decide) (fun _ => ?_) (fun h => absurd rfl h)
  exact kk M2 _ _ hI2 hW hS
def ps_arm32 (Inv : Nat → ps_M → Prop) : Prop := ∀ (k : Nat) (M : ps_M) (y1 : Int32), k < 512 → Inv k M → ps_eqv Inv k M (f_X9_seed M 0 y1) (fun M => f_X10_seed M 205 y1)
set_option maxRecDepth 100000 in
set_option maxHeartbeats 4000000 in
theorem la_32 {Inv : Nat → ps_M → Prop} (harm : ps_arm32 Inv) (C : ps_C p s m #[Value.ref b] meth c code 4 RL ret meth.name D Y B) (hX : va_X b L xs s s.heap) (hbl : b < s.heap.size) (hbA : ¬ (fun q => B ≤ q) b) {k : Nat} {x3 : Int32} (h1 : vp_in (x3 + 1) L) (h2 : vp_in (x3 + 2) L) (h3 : vp_in (x3 + 3) L) {M : ps_M} (hk : k < 512) (hI : Inv k M) (kk : ∀ (M : ps_M) (H : Heap) (locs : List Loc), Inv (k + 1) M → ps_W D Y B M H → va_S (fun q => B ≤ q) s.heap H locs → W p l e room_1 s m #[Value.ref b] below meth c H locs 221 7852 (lw_Z below #[Value.ref b] s) (F0 m 1013 ls [])) (hW : ps_W D Y B M H) (hS : va_S (fun q => B ≤ q) s.heap H locs) (hl : lv_has ls 4 [(0, .ref b), (1, .ref (B + 0)), (2, .ref (B + 205)), (3, .int x3)]) : W p l e room_1 s m #[Value.ref b] below meth c H locs 221 7852 (lw_Z below #[Value.ref b] s) (F0 m 944 ls []) := by
  have hx := C.1
  have hb := C.2.1
  obtain ⟨hK1, r, M1, M2, hc1, hK2, hc2, hI2⟩ := harm k M (xs (x3 + 1).toNatClampNeg) hk hI
  refine lv_aload_n hx hb dL_law_944 rfl (lv_at hl 1 rfl) ?_
  refine lv_aload_n hx hb dL_law_945 rfl (lv_at hl 0 rfl) ?_
  refine lv_iload_n hx hb dL_law_946 rfl (lv_at hl 3 rfl) ?_
  refine lv_iconst (v := 1) hx hb dL_law_947 (by decide) ?_
  refine lv_iadd hx hb dL_law_948 ?_
  refine va_sld hx hb hX hbl hbA hS h1 dL_law_949 ?_
  refine ps_backI (x0 := r) (M' := M1) hS (ps_callV C hW pc_8 mf_X9_seed tq_900 tq_901 tq_899 ⟨Nat.le_of_ble_eq_true rfl, Nat.le_of_ble_eq_true rfl⟩ rfl rfl (As := [.int (xs (x3 + 1).toNatClampNeg)]) (rest := []) (c_X9_seed hc1) hK1 rfl hl.1 rfl (Nat.le_of_ble_eq_true rfl) dL_law_950 ⟨Nat.le_of_ble_eq_true rfl, Nat.le_of_ble_eq_true rfl⟩) (fun H locs hW hS => ?_)
  refine lv_aload_n hx hb dL_law_953 rfl (lv_at hl 2 rfl) ?_
  refine lv_aload_n hx hb dL_law_954 rfl (lv_at hl 0 rfl) ?_
  refine lv_iload_n hx hb dL_law_955 rfl (lv_at hl 3 rfl) ?_
  refine lv_iconst (v := 1) hx hb dL_law_956 (by decide) ?_
  refine lv_iadd hx hb dL_law_957 ?_
  refine va_sld hx hb hX hbl hbA hS h1 dL_law_958 ?_
  refine ps_backI (x0 := r) (M' := M2) hS (ps_callV C hW pc_9 mf_X10_seed tq_1306 tq_1307 tq_1305 ⟨Nat.le_of_ble_eq_true rfl, Nat.le_of_ble_eq_true rfl⟩ rfl rfl (As := [.int (xs (x3 + 1).toNatClampNeg)]) (rest := [.int r]) (c_X10_seed hc2) hK2 rfl hl.1 rfl (Nat.le_of_ble_eq_true rfl) dL_law_959 ⟨Nat.le_of_ble_eq_true rfl, Nat.le_of_ble_eq_true rfl⟩) (fun H locs hW hS => ?_)
  refine lv_icmp_eq (tgt := 1013) hx hb dL_law_962 (by decide) (fun _ => ?_) (fun h => absurd rfl h)
  exact kk M2 _ _ hI2 hW hS
def ps_arm33 (Inv : Nat → ps_M → Prop) : Prop := ∀ (k : Nat) (M : ps_M) (y1 : Int32), k < 512 → Inv k M → ps_eqv Inv k M (f_X9_keep M 0 y1) (fun M => f_X10_keep M 205 y1)
set_option maxRecDepth 100000 in
set_option maxHeartbeats 4000000 in
theorem la_33 {Inv : Nat → ps_M → Prop} (harm : ps_arm33 Inv) (C : ps_C p s m #[Value.ref b] meth c code 4 RL ret meth.name D Y B) (hX : va_X b L xs s s.heap) (hbl : b < s.heap.size) (hbA : ¬ (fun q => B ≤ q) b) {k : Nat} {x3 : Int32} (h1 : vp_in (x3 + 1) L) (h2 : vp_in (x3 + 2) L) (h3 : vp_in (x3 + 3) L) {M : ps_M} (hk : k < 512) (hI : Inv k M) (kk : ∀ (M : ps_M) (H : Heap) (locs : List Loc), Inv (k + 1) M → ps_W D Y B M H → va_S (fun q => B ≤ q) s.heap H locs → W p l e room_1 s m #[Value.ref b] below meth c H locs 221 7852 (lw_Z below #[Value.ref b] s) (F0 m 1013 ls [])) (hW : ps_W D Y B M H) (hS : va_S (fun q => B ≤ q) s.heap H locs) (hl : lv_has ls 4 [(0, .ref b), (1, .ref (B + 0)), (2, .ref (B + 205)), (3, .int x3)]) : W p l e room_1 s m #[Value.ref b] below meth c H locs 221 7852 (lw_Z below #[Value.ref b] s) (F0 m 967 ls []) := by
  have hx := C.1
  have hb := C.2.1
  obtain ⟨hK1, r, M1, M2, hc1, hK2, hc2, hI2⟩ := harm k M (xs (x3 + 1).toNatClampNeg) hk hI
  refine lv_aload_n hx hb dL_law_967 rfl (lv_at hl 1 rfl) ?_
  refine lv_aload_n hx hb dL_law_968 rfl (lv_at hl 0 rfl) ?_
  refine lv_iload_n hx hb dL_law_969 rfl (lv_at hl 3 rfl) ?_
  refine lv_iconst (v := 1) hx hb dL_law_970 (by decide) ?_
  refine lv_iadd hx hb dL_law_971 ?_
  refine va_sld hx hb hX hbl hbA hS h1 dL_law_972 ?_
  refine ps_backI (x0 := r) (M' := M1) hS (ps_callV C hW pc_8 mf_X9_keep tq_904 tq_905 tq_903 ⟨Nat.le_of_ble_eq_true rfl, Nat.le_of_ble_eq_true rfl⟩ rfl rfl (As := [.int (xs (x3 + 1).toNatClampNeg)]) (rest := []) (c_X9_keep hc1) hK1 rfl hl.1 rfl (Nat.le_of_ble_eq_true rfl) dL_law_973 ⟨Nat.le_of_ble_eq_true rfl, Nat.le_of_ble_eq_true rfl⟩) (fun H locs hW hS => ?_)
  refine lv_aload_n hx hb dL_law_976 rfl (lv_at hl 2 rfl) ?_
  refine lv_aload_n hx hb dL_law_977 rfl (lv_at hl 0 rfl) ?_
  refine lv_iload_n hx hb dL_law_978 rfl (lv_at hl 3 rfl) ?_
  refine lv_iconst (v := 1) hx hb dL_law_979 (by decide) ?_
  refine lv_iadd hx hb dL_law_980 ?_
  refine va_sld hx hb hX hbl hbA hS h1 dL_law_981 ?_
  refine ps_backI (x0 := r) (M' := M2) hS (ps_callV C hW pc_9 mf_X10_keep tq_1310 tq_1311 tq_1309 ⟨Nat.le_of_ble_eq_true rfl, Nat.le_of_ble_eq_true rfl⟩ rfl rfl (As := [.int (xs (x3 + 1).toNatClampNeg)]) (rest := [.int r]) (c_X10_keep hc2) hK2 rfl hl.1 rfl (Nat.le_of_ble_eq_true rfl) dL_law_982 ⟨Nat.le_of_ble_eq_true rfl, Nat.le_of_ble_eq_true rfl⟩) (fun H locs hW hS => ?_)
  refine lv_icmp_eq (tgt := 1013) hx hb dL_law_985 (by decide) (fun _ => ?_) (fun h => absurd rfl h)
  exact kk M2 _ _ hI2 hW hS
def ps_arm34 (Inv : Nat → ps_M → Prop) : Prop := ∀ (k : Nat) (M : ps_M) (y1 : Int32), k < 512 → Inv k M → ps_eqv Inv k M (f_X9_goBack M 0 y1) (fun M => f_X10_goBack M 205 y1)
set_option maxRecDepth 100000 in
set_option maxHeartbeats 4000000 in
theorem la_34 {Inv : Nat → ps_M → Prop} (harm : ps_arm34 Inv) (C : ps_C p s m #[Value.ref b] meth c code 4 RL ret meth.name D Y B) (hX : va_X b L xs s s.heap) (hbl : b < s.heap.size) (hbA : ¬ (fun q => B ≤ q) b) {k : Nat} {x3 : Int32} (h1 : vp_in (x3 + 1) L) (h2 : vp_in (x3 + 2) L) (h3 : vp_in (x3 + 3) L) {M : ps_M} (hk : k < 512) (hI : Inv k M) (kk : ∀ (M : ps_M) (H : Heap) (locs : List Loc), Inv (k + 1) M → ps_W D Y B M H → va_S (fun q => B ≤ q) s.heap H locs → W p l e room_1 s m #[Value.ref b] below meth c H locs 221 7852 (lw_Z below #[Value.ref b] s) (F0 m 1013 ls [])) (hW : ps_W D Y B M H) (hS : va_S (fun q => B ≤ q) s.heap H locs) (hl : lv_has ls 4 [(0, .ref b), (1, .ref (B + 0)), (2, .ref (B + 205)), (3, .int x3)]) : W p l e room_1 s m #[Value.ref b] below meth c H locs 221 7852 (lw_Z below #[Value.ref b] s) (F0 m 990 ls []) := by
  have hx := C.1
  have hb := C.2.1
  obtain ⟨hK1, r, M1, M2, hc1, hK2, hc2, hI2⟩ := harm k M (xs (x3 + 1).toNatClampNeg) hk hI
  refine lv_aload_n hx hb dL_law_990 rfl (lv_at hl 1 rfl) ?_
  refine lv_aload_n hx hb dL_law_991 rfl (lv_at hl 0 rfl) ?_
  refine lv_iload_n hx hb dL_law_992 rfl (lv_at hl 3 rfl) ?_
  refine lv_iconst (v := 1) hx hb dL_law_993 (by decide) ?_
  refine lv_iadd hx hb dL_law_994 ?_
  refine va_sld hx hb hX hbl hbA hS h1 dL_law_995 ?_
  refine ps_backI (x0 := r) (M' := M1) hS (ps_callV C hW pc_8 mf_X9_goBack tq_909 tq_910 tq_908 ⟨Nat.le_of_ble_eq_true rfl, Nat.le_of_ble_eq_true rfl⟩ rfl rfl (As := [.int (xs (x3 + 1).toNatClampNeg)]) (rest := []) (c_X9_goBack hc1) hK1 rfl hl.1 rfl (Nat.le_of_ble_eq_true rfl) dL_law_996 ⟨Nat.le_of_ble_eq_true rfl, Nat.le_of_ble_eq_true rfl⟩) (fun H locs hW hS => ?_)
  refine lv_aload_n hx hb dL_law_999 rfl (lv_at hl 2 rfl) ?_
  refine lv_aload_n hx hb dL_law_1000 rfl (lv_at hl 0 rfl) ?_
  refine lv_iload_n hx hb dL_law_1001 rfl (lv_at hl 3 rfl) ?_
  refine lv_iconst (v := 1) hx hb dL_law_1002 (by decide) ?_
  refine lv_iadd hx hb dL_law_1003 ?_
  refine va_sld hx hb hX hbl hbA hS h1 dL_law_1004 ?_
  refine ps_backI (x0 := r) (M' := M2) hS (ps_callV C hW pc_9 mf_X10_goBack tq_1314 tq_1315 tq_1313 ⟨Nat.le_of_ble_eq_true rfl, Nat.le_of_ble_eq_true rfl⟩ rfl rfl (As := [.int (xs (x3 + 1).toNatClampNeg)]) (rest := [.int r]) (c_X10_goBack hc2) hK2 rfl hl.1 rfl (Nat.le_of_ble_eq_true rfl) dL_law_1005 ⟨Nat.le_of_ble_eq_true rfl, Nat.le_of_ble_eq_true rfl⟩) (fun H locs hW hS => ?_)
  refine lv_icmp_eq (tgt := 1013) hx hb dL_law_1008 (by decide) (fun _ => ?_) (fun h => absurd rfl h)
  exact kk M2 _ _ hI2 hW hS
def ps_arms (Inv : Nat → ps_M → Prop) : Prop := ps_arm0 Inv ∧ ps_arm1 Inv ∧ ps_arm2 Inv ∧ ps_arm3 Inv ∧ ps_arm4 Inv ∧ ps_arm5 Inv ∧ ps_arm6 Inv ∧ ps_arm7 Inv ∧ ps_arm8 Inv ∧ ps_arm9 Inv ∧ ps_arm10 Inv ∧ ps_arm11 Inv ∧ ps_arm12 Inv ∧ ps_arm13 Inv ∧ ps_arm14 Inv ∧ ps_arm15 Inv ∧ ps_arm16 Inv ∧ ps_arm17 Inv ∧ ps_arm18 Inv ∧ ps_arm19 Inv ∧ ps_arm20 Inv ∧ ps_arm21 Inv ∧ ps_arm22 Inv ∧ ps_arm23 Inv ∧ ps_arm24 Inv ∧ ps_arm25 Inv ∧ ps_arm26 Inv ∧ ps_arm27 Inv ∧ ps_arm28 Inv ∧ ps_arm29 Inv ∧ ps_arm30 Inv ∧ ps_arm31 Inv ∧ ps_arm32 Inv ∧ ps_arm33 Inv ∧ ps_arm34 Inv
theorem la_end {x3 : Int32} {i L : Nat} (hx3 : x3 = nI i) (h : L < i + 4) (hL : L ≤ 2048) (hi : i ≤ 2052 := by omega) : Int32.ofNat L - 4 < x3 := by
  rw [hx3, Int32.lt_iff_toInt_lt, nI_toInt (by omega), Int32.toInt_sub, show (Int32.ofNat L).toInt = (L : Int) from nI_toInt (n := L) (by omega), show (4 : Int32).toInt = 4 from rfl]
  rw [Int.bmod_eq_of_le (by omega) (by omega)]
  omega
theorem la_cell {x3 : Int32} {i L d : Nat} {z : Int32} (hx3 : x3 = nI i) (hd : d < 4) (hz : z = nI d) (hi : i + 4 ≤ L) (hL : L ≤ 2048) : vp_in (x3 + z) L := by
  have e1 : x3 + z = nI (i + d) := by
    rw [hx3, hz]
    exact (Int32.ofNat_add i d).symm
  rw [e1]
  exact vp_in_nI (by omega) (by omega)
set_option maxRecDepth 100000 in
set_option maxHeartbeats 4000000 in
theorem la_loop {Inv : Nat → ps_M → Prop} (harms : ps_arms Inv) (hup : ∀ k M, Inv k M → Inv (k + 1) M) (C : ps_C p s m #[Value.ref b] meth c code 4 RL ret meth.name D Y B) (hX : va_X b L xs s s.heap) (hbl : b < s.heap.size) (hbA : ¬ (fun q => B ≤ q) b) (hL : L ≤ 2048) (hBs : s.heap.size ≤ B) : ∀ (n k : Nat) (x3 : Int32) (M : ps_M) (H : Heap) (locs : List Loc) (ls : Array Slot), L + 4 ≤ 4 * k + 4 * n → 4 * k ≤ L + 4 → x3 = nI (4 * k) → Inv k M → ps_W D Y B M H → va_S (fun q => B ≤ q) s.heap H locs → lv_has ls 4 [(0, .ref b), (1, .ref (B + 0)), (2, .ref (B + 205)), (3, .int x3)] → W p l e room_1 s m #[Value.ref b] below meth c H locs 221 7852 (lw_Z below #[Value.ref b] s) (F0 m 18 ls []) := by
  obtain ⟨a0, a1, a2, a3, a4, a5, a6, a7, a8, a9, a10, a11, a12, a13, a14, a15, a16, a17, a18, a19, a20, a21, a22, a23, a24, a25, a26, a27, a28, a29, a30, a31, a32, a33, a34⟩ := harms
  have hx := C.1
  have hb := C.2.1
  intro n
  induction n with
  | zero =>
    intro k x3 M H locs ls h1 h2 hx3 hI hW hS hl
    have hk : 4 * k = L + 4 := by omega
    refine lv_iload_n hx hb dL_law_18 rfl (lv_at hl 3 rfl) ?_
    refine lv_aload_n hx hb dL_law_19 rfl (lv_at hl 0 rfl) ?_
    refine va_slen hx hb hX hbl hbA hS dL_law_20 ?_
    refine lv_iconst (v := 4) hx hb dL_law_21 (by decide) ?_
    refine lv_isub hx hb dL_law_22 ?_
    refine lv_icmp_gt (tgt := 1019) hx hb dL_law_23 (by decide) (fun h => ?_) (fun h => ?_)
    · refine lv_iconst (v := 1) hx hb dL_law_1019 (by decide) ?_
      refine va_forget (fun q hq => Nat.le_trans hBs (hS.2.2 q hq)) ?_
      refine W.widen (k := 600000) (n := 7302250) (Nat.le_of_ble_eq_true rfl) (Nat.le_of_ble_eq_true rfl) ?_
      exact lw_ret hx hb C.2.2.2.2.2.2.2.2.1 C.2.2.2.2.2.2.1 dL_law_1020
    · exact absurd (la_end hx3 (by omega) hL) h
  | succ n ih =>
    intro k x3 M H locs ls h1 h2 hx3 hI hW hS hl
    refine lv_iload_n hx hb dL_law_18 rfl (lv_at hl 3 rfl) ?_
    refine lv_aload_n hx hb dL_law_19 rfl (lv_at hl 0 rfl) ?_
    refine va_slen hx hb hX hbl hbA hS dL_law_20 ?_
    refine lv_iconst (v := 4) hx hb dL_law_21 (by decide) ?_
    refine lv_isub hx hb dL_law_22 ?_
    refine lv_icmp_gt (tgt := 1019) hx hb dL_law_23 (by decide) (fun h => ?_) (fun h => ?_)
    · refine lv_iconst (v := 1) hx hb dL_law_1019 (by decide) ?_
      refine va_forget (fun q hq => Nat.le_trans hBs (hS.2.2 q hq)) ?_
      refine W.widen (k := 600000) (n := 7302250) (Nat.le_of_ble_eq_true rfl) (Nat.le_of_ble_eq_true rfl) ?_
      exact lw_ret hx hb C.2.2.2.2.2.2.2.2.1 C.2.2.2.2.2.2.1 dL_law_1020
    · have hi : 4 * k + 4 ≤ L := by
        rcases Nat.lt_or_ge L (4 * k + 4) with q | q
        · exact absurd (la_end hx3 (by omega) hL) h
        · exact q
      have hk : k < 512 := by omega
      have i0 : vp_in x3 L := by rw [hx3]; exact vp_in_nI (by omega) (by omega)
      have i1 : vp_in (x3 + 1) L := la_cell hx3 (d := 1) (by omega) rfl hi hL
      have i2 : vp_in (x3 + 2) L := la_cell hx3 (d := 2) (by omega) rfl hi hL
      have i3 : vp_in (x3 + 3) L := la_cell hx3 (d := 3) (by omega) rfl hi hL
      have kk : ∀ (M : ps_M) (H : Heap) (locs : List Loc), Inv (k + 1) M → ps_W D Y B M H → va_S (fun q => B ≤ q) s.heap H locs → W p l e room_1 s m #[Value.ref b] below meth c H locs 221 7852 (lw_Z below #[Value.ref b] s) (F0 m 1013 ls []) := by
        intro M H locs hI hW hS
        obtain ⟨v, ev⟩ : ∃ v : Int32, v = x3 + 4 := ⟨_, rfl⟩
        refine lv_iinc (v := v) (lv' := [(3, .int v), (0, .ref b), (1, .ref (B + 0)), (2, .ref (B + 205))]) hx hb dL_law_1013 hl (k := 3) rfl (by rw [ev]; rfl) (by decide) rfl (fun ls hl => ?_)
        refine lv_goto (tgt := 18) hx hb dL_law_1016 (by decide) ?_
        exact ih (k + 1) v M H locs ls (by omega) (by omega) (by rw [ev, hx3]; exact (Int32.ofNat_add (4 * k) 4).symm) hI hW hS (lv_sub hl [1, 2, 3, 0] rfl)
      refine lv_aload_n hx hb dL_law_26 rfl (lv_at hl 0 rfl) ?_
      refine lv_iload_n hx hb dL_law_27 rfl (lv_at hl 3 rfl) ?_
      refine va_sld hx hb hX hbl hbA hS i0 dL_law_28 ?_
      refine lv_bipush (v := 63) hx hb dL_law_29 (by decide) ?_
      refine lv_iand hx hb dL_law_31 ?_
      refine lv_topi (fun w _ => ?_)
      by_cases hw0 : w = 0
      · refine lv_tableIn (tgt := 188) hx hb dL_law_32 (by rw [hw0]; decide) (by rw [hw0]; decide) (by rw [hw0]; rfl) (by decide) ?_
        exact la_0 a0 C hX hbl hbA i1 i2 i3 hk hI kk hW hS hl
      by_cases hw1 : w = 1
      · refine lv_tableIn (tgt := 211) hx hb dL_law_32 (by rw [hw1]; decide) (by rw [hw1]; decide) (by rw [hw1]; rfl) (by decide) ?_
        exact la_1 a1 C hX hbl hbA i1 i2 i3 hk hI kk hW hS hl
      by_cases hw2 : w = 2
      · refine lv_tableIn (tgt := 224) hx hb dL_law_32 (by rw [hw2]; decide) (by rw [hw2]; decide) (by rw [hw2]; rfl) (by decide) ?_
        exact la_2 a2 C hX hbl hbA i1 i2 i3 hk hI kk hW hS hl
      by_cases hw3 : w = 3
      · refine lv_tableIn (tgt := 237) hx hb dL_law_32 (by rw [hw3]; decide) (by rw [hw3]; decide) (by rw [hw3]; rfl) (by decide) ?_
        exact la_3 a3 C hX hbl hbA i1 i2 i3 hk hI kk hW hS hl
      by_cases hw4 : w = 4
      · refine lv_tableIn (tgt := 260) hx hb dL_law_32 (by rw [hw4]; decide) (by rw [hw4]; decide) (by rw [hw4]; rfl) (by decide) ?_
        exact la_4 a4 C hX hbl hbA i1 i2 i3 hk hI kk hW hS hl
      by_cases hw5 : w = 5
      · refine lv_tableIn (tgt := 283) hx hb dL_law_32 (by rw [hw5]; decide) (by rw [hw5]; decide) (by rw [hw5]; rfl) (by decide) ?_
        exact la_5 a5 C hX hbl hbA i1 i2 i3 hk hI kk hW hS hl
      by_cases hw6 : w = 6
      · refine lv_tableIn (tgt := 316) hx hb dL_law_32 (by rw [hw6]; decide) (by rw [hw6]; decide) (by rw [hw6]; rfl) (by decide) ?_
        exact la_6 a6 C hX hbl hbA i1 i2 i3 hk hI kk hW hS hl
      by_cases hw7 : w = 7
      · refine lv_tableIn (tgt := 349) hx hb dL_law_32 (by rw [hw7]; decide) (by rw [hw7]; decide) (by rw [hw7]; rfl) (by decide) ?_
        exact la_7 a7 C hX hbl hbA i1 i2 i3 hk hI kk hW hS hl
      by_cases hw8 : w = 8
      · refine lv_tableIn (tgt := 372) hx hb dL_law_32 (by rw [hw8]; decide) (by rw [hw8]; decide) (by rw [hw8]; rfl) (by decide) ?_
        exact la_8 a8 C hX hbl hbA i1 i2 i3 hk hI kk hW hS hl
      by_cases hw9 : w = 9
      · refine lv_tableIn (tgt := 395) hx hb dL_law_32 (by rw [hw9]; decide) (by rw [hw9]; decide) (by rw [hw9]; rfl) (by decide) ?_
        exact la_9 a9 C hX hbl hbA i1 i2 i3 hk hI kk hW hS hl
      by_cases hw10 : w = 10
      · refine lv_tableIn (tgt := 408) hx hb dL_law_32 (by rw [hw10]; decide) (by rw [hw10]; decide) (by rw [hw10]; rfl) (by decide) ?_
        exact la_10 a10 C hX hbl hbA i1 i2 i3 hk hI kk hW hS hl
      by_cases hw11 : w = 11
      · refine lv_tableIn (tgt := 421) hx hb dL_law_32 (by rw [hw11]; decide) (by rw [hw11]; decide) (by rw [hw11]; rfl) (by decide) ?_
        exact la_11 a11 C hX hbl hbA i1 i2 i3 hk hI kk hW hS hl
      by_cases hw12 : w = 12
      · refine lv_tableIn (tgt := 434) hx hb dL_law_32 (by rw [hw12]; decide) (by rw [hw12]; decide) (by rw [hw12]; rfl) (by decide) ?_
        exact la_12 a12 C hX hbl hbA i1 i2 i3 hk hI kk hW hS hl
      by_cases hw13 : w = 13
      · refine lv_tableIn (tgt := 447) hx hb dL_law_32 (by rw [hw13]; decide) (by rw [hw13]; decide) (by rw [hw13]; rfl) (by decide) ?_
        exact la_13 a13 C hX hbl hbA i1 i2 i3 hk hI kk hW hS hl
      by_cases hw14 : w = 14
      · refine lv_tableIn (tgt := 480) hx hb dL_law_32 (by rw [hw14]; decide) (by rw [hw14]; decide) (by rw [hw14]; rfl) (by decide) ?_
        exact la_14 a14 C hX hbl hbA i1 i2 i3 hk hI kk hW hS hl
      by_cases hw15 : w = 15
      · refine lv_tableIn (tgt := 513) hx hb dL_law_32 (by rw [hw15]; decide) (by rw [hw15]; decide) (by rw [hw15]; rfl) (by decide) ?_
        exact la_15 a15 C hX hbl hbA i1 i2 i3 hk hI kk hW hS hl
      by_cases hw16 : w = 16
      · refine lv_tableIn (tgt := 536) hx hb dL_law_32 (by rw [hw16]; decide) (by rw [hw16]; decide) (by rw [hw16]; rfl) (by decide) ?_
        exact la_16 a16 C hX hbl hbA i1 i2 i3 hk hI kk hW hS hl
      by_cases hw17 : w = 17
      · refine lv_tableIn (tgt := 559) hx hb dL_law_32 (by rw [hw17]; decide) (by rw [hw17]; decide) (by rw [hw17]; rfl) (by decide) ?_
        exact la_17 a17 C hX hbl hbA i1 i2 i3 hk hI kk hW hS hl
      by_cases hw18 : w = 18
      · refine lv_tableIn (tgt := 572) hx hb dL_law_32 (by rw [hw18]; decide) (by rw [hw18]; decide) (by rw [hw18]; rfl) (by decide) ?_
        exact la_18 a18 C hX hbl hbA i1 i2 i3 hk hI kk hW hS hl
      by_cases hw19 : w = 19
      · refine lv_tableIn (tgt := 605) hx hb dL_law_32 (by rw [hw19]; decide) (by rw [hw19]; decide) (by rw [hw19]; rfl) (by decide) ?_
        exact la_19 a19 C hX hbl hbA i1 i2 i3 hk hI kk hW hS hl
      by_cases hw20 : w = 20
      · refine lv_tableIn (tgt := 648) hx hb dL_law_32 (by rw [hw20]; decide) (by rw [hw20]; decide) (by rw [hw20]; rfl) (by decide) ?_
        exact la_20 a20 C hX hbl hbA i1 i2 i3 hk hI kk hW hS hl
      by_cases hw21 : w = 21
      · refine lv_tableIn (tgt := 681) hx hb dL_law_32 (by rw [hw21]; decide) (by rw [hw21]; decide) (by rw [hw21]; rfl) (by decide) ?_
        exact la_21 a21 C hX hbl hbA i1 i2 i3 hk hI kk hW hS hl
      by_cases hw22 : w = 22
      · refine lv_tableIn (tgt := 704) hx hb dL_law_32 (by rw [hw22]; decide) (by rw [hw22]; decide) (by rw [hw22]; rfl) (by decide) ?_
        exact la_22 a22 C hX hbl hbA i1 i2 i3 hk hI kk hW hS hl
      by_cases hw23 : w = 23
      · refine lv_tableIn (tgt := 747) hx hb dL_law_32 (by rw [hw23]; decide) (by rw [hw23]; decide) (by rw [hw23]; rfl) (by decide) ?_
        exact la_23 a23 C hX hbl hbA i1 i2 i3 hk hI kk hW hS hl
      by_cases hw24 : w = 24
      · refine lv_tableIn (tgt := 770) hx hb dL_law_32 (by rw [hw24]; decide) (by rw [hw24]; decide) (by rw [hw24]; rfl) (by decide) ?_
        exact la_24 a24 C hX hbl hbA i1 i2 i3 hk hI kk hW hS hl
      by_cases hw25 : w = 25
      · refine lv_tableIn (tgt := 803) hx hb dL_law_32 (by rw [hw25]; decide) (by rw [hw25]; decide) (by rw [hw25]; rfl) (by decide) ?_
        exact la_25 a25 C hX hbl hbA i1 i2 i3 hk hI kk hW hS hl
      by_cases hw26 : w = 26
      · refine lv_tableIn (tgt := 816) hx hb dL_law_32 (by rw [hw26]; decide) (by rw [hw26]; decide) (by rw [hw26]; rfl) (by decide) ?_
        exact la_26 a26 C hX hbl hbA i1 i2 i3 hk hI kk hW hS hl
      by_cases hw27 : w = 27
      · refine lv_tableIn (tgt := 839) hx hb dL_law_32 (by rw [hw27]; decide) (by rw [hw27]; decide) (by rw [hw27]; rfl) (by decide) ?_
        exact la_27 a27 C hX hbl hbA i1 i2 i3 hk hI kk hW hS hl
      by_cases hw28 : w = 28
      · refine lv_tableIn (tgt := 872) hx hb dL_law_32 (by rw [hw28]; decide) (by rw [hw28]; decide) (by rw [hw28]; rfl) (by decide) ?_
        exact la_28 a28 C hX hbl hbA i1 i2 i3 hk hI kk hW hS hl
      by_cases hw29 : w = 29
      · refine lv_tableIn (tgt := 895) hx hb dL_law_32 (by rw [hw29]; decide) (by rw [hw29]; decide) (by rw [hw29]; rfl) (by decide) ?_
        exact la_29 a29 C hX hbl hbA i1 i2 i3 hk hI kk hW hS hl
      by_cases hw30 : w = 30
      · refine lv_tableIn (tgt := 918) hx hb dL_law_32 (by rw [hw30]; decide) (by rw [hw30]; decide) (by rw [hw30]; rfl) (by decide) ?_
        exact la_30 a30 C hX hbl hbA i1 i2 i3 hk hI kk hW hS hl
      by_cases hw31 : w = 31
      · refine lv_tableIn (tgt := 931) hx hb dL_law_32 (by rw [hw31]; decide) (by rw [hw31]; decide) (by rw [hw31]; rfl) (by decide) ?_
        exact la_31 a31 C hX hbl hbA i1 i2 i3 hk hI kk hW hS hl
      by_cases hw32 : w = 32
      · refine lv_tableIn (tgt := 944) hx hb dL_law_32 (by rw [hw32]; decide) (by rw [hw32]; decide) (by rw [hw32]; rfl) (by decide) ?_
        exact la_32 a32 C hX hbl hbA i1 i2 i3 hk hI kk hW hS hl
      by_cases hw33 : w = 33
      · refine lv_tableIn (tgt := 967) hx hb dL_law_32 (by rw [hw33]; decide) (by rw [hw33]; decide) (by rw [hw33]; rfl) (by decide) ?_
        exact la_33 a33 C hX hbl hbA i1 i2 i3 hk hI kk hW hS hl
      by_cases hw34 : w = 34
      · refine lv_tableIn (tgt := 990) hx hb dL_law_32 (by rw [hw34]; decide) (by rw [hw34]; decide) (by rw [hw34]; rfl) (by decide) ?_
        exact la_34 a34 C hX hbl hbA i1 i2 i3 hk hI kk hW hS hl
      refine lv_tableOut (tgt := 1013) hx hb dL_law_32 (by have := ps_tn hw0 (z := 0) rfl; have := ps_tn hw1 (z := 1) rfl; have := ps_tn hw2 (z := 2) rfl; have := ps_tn hw3 (z := 3) rfl; have := ps_tn hw4 (z := 4) rfl; have := ps_tn hw5 (z := 5) rfl; have := ps_tn hw6 (z := 6) rfl; have := ps_tn hw7 (z := 7) rfl; have := ps_tn hw8 (z := 8) rfl; have := ps_tn hw9 (z := 9) rfl; have := ps_tn hw10 (z := 10) rfl; have := ps_tn hw11 (z := 11) rfl; have := ps_tn hw12 (z := 12) rfl; have := ps_tn hw13 (z := 13) rfl; have := ps_tn hw14 (z := 14) rfl; have := ps_tn hw15 (z := 15) rfl; have := ps_tn hw16 (z := 16) rfl; have := ps_tn hw17 (z := 17) rfl; have := ps_tn hw18 (z := 18) rfl; have := ps_tn hw19 (z := 19) rfl; have := ps_tn hw20 (z := 20) rfl; have := ps_tn hw21 (z := 21) rfl; have := ps_tn hw22 (z := 22) rfl; have := ps_tn hw23 (z := 23) rfl; have := ps_tn hw24 (z := 24) rfl; have := ps_tn hw25 (z := 25) rfl; have := ps_tn hw26 (z := 26) rfl; have := ps_tn hw27 (z := 27) rfl; have := ps_tn hw28 (z := 28) rfl; have := ps_tn hw29 (z := 29) rfl; have := ps_tn hw30 (z := 30) rfl; have := ps_tn hw31 (z := 31) rfl; have := ps_tn hw32 (z := 32) rfl; have := ps_tn hw33 (z := 33) rfl; have := ps_tn hw34 (z := 34) rfl; omega) (by decide) ?_
      exact kk M _ _ (hup _ _ hI) hW hS
end
set_option maxRecDepth 100000 in
set_option maxHeartbeats 4000000 in
/-- THE LAW, from its entry, over an invariant -/
theorem la_start {Inv : Nat → ps_M → Prop} {M0 : ps_M} (hinit : f_law_init = some (0, 205, M0)) (h0 : Inv 0 M0) (harms : ps_arms Inv) (hup : ∀ k M, Inv k M → Inv (k + 1) M) {p : Program} {e : Env} {s : State} {m : MethodId} {below : List Frame} {meth : Method} {c : Code} (l : Launch) {b L : Nat} {xs : Nat → Int32} (hL : L ≤ 2048) (C0 : lw_At p s m meth c b L xs) : W p l e room_1 s m #[Value.ref b] below meth c s.heap [] 0 0 (lw_Z below #[Value.ref b] s) (entryFrame m ([Value.ref b] : List Value).toArray 4) := by
  obtain ⟨hx, hb, hr, hml, hown, hts, hX, hbl, hlocks, hgv⟩ := id C0
  have htG : ∀ w ∈ tb_G, w.before #[Value.ref b] s = true := fun w hw => hts w (tb_sub w hw)
  obtain ⟨c0, iS0, hKn0⟩ := u_known (C := RX0) (T := TX0) (N := 7) (n := 7) htG ci_0 (htG _ tq_346)
  obtain ⟨c1, iS1, hKn1⟩ := u_known (C := RX1) (T := TX1) (N := 3) (n := 3) htG ci_1 (htG _ tq_378)
  obtain ⟨c2, iS2, hKn2⟩ := u_known (C := RX2) (T := TX2) (N := 3) (n := 3) htG ci_2 (htG _ tq_283)
  obtain ⟨c3, iS3, hKn3⟩ := u_known (C := RX3) (T := TX3) (N := 7) (n := 7) htG ci_3 (htG _ tq_162)
  obtain ⟨c4, iS4, hKn4⟩ := u_known (C := RX5) (T := TX5) (N := 2) (n := 2) htG ci_4 (htG _ tq_168)
  obtain ⟨c5, iS5, hKn5⟩ := u_known (C := RX6) (T := TX6) (N := 10) (n := 10) htG ci_5 (htG _ tq_303)
  obtain ⟨c6, iS6, hKn6⟩ := u_known (C := RX7) (T := TX7) (N := 13) (n := 13) htG ci_6 (htG _ tq_215)
  obtain ⟨c7, iS7, hKn7⟩ := u_known (C := RX8) (T := TX8) (N := 12) (n := 12) htG ci_7 (htG _ tq_83)
  obtain ⟨c8, iS8, hKn8⟩ := u_known (C := RX9) (T := TX9) (N := 11) (n := 11) htG ci_8 (htG _ tq_75)
  obtain ⟨c9, iS9, hKn9⟩ := u_known (C := RX10) (T := TX10) (N := 35) (n := 35) htG ci_9 (htG _ tq_913)
  obtain ⟨dC, dI, hKc⟩ : ∃ (dC : Nat → ClassId) (dI : Nat → Nat → Nat), ∀ (k : Nat) (q : vw_C), vwCl[k]? = some q → u_Kn s q.1 q.2.1 q.2.2 (dC k) (dI k) := by
    refine ⟨fun k => if k = 0 then c0 else if k = 1 then c1 else if k = 2 then c2 else if k = 3 then c3 else if k = 4 then c4 else if k = 5 then c5 else if k = 6 then c6 else if k = 7 then c7 else if k = 8 then c8 else c9, fun k => if k = 0 then iS0 else if k = 1 then iS1 else if k = 2 then iS2 else if k = 3 then iS3 else if k = 4 then iS4 else if k = 5 then iS5 else if k = 6 then iS6 else if k = 7 then iS7 else if k = 8 then iS8 else iS9, ?_⟩
    intro k q hq
    match k, hq with
    | 0, hq => cases hq; exact hKn0
    | 1, hq => cases hq; exact hKn1
    | 2, hq => cases hq; exact hKn2
    | 3, hq => cases hq; exact hKn3
    | 4, hq => cases hq; exact hKn4
    | 5, hq => cases hq; exact hKn5
    | 6, hq => cases hq; exact hKn6
    | 7, hq => cases hq; exact hKn7
    | 8, hq => cases hq; exact hKn8
    | 9, hq => cases hq; exact hKn9
    | k + 10, hq => simp [vwCl] at hq
  obtain ⟨cI, kI, compI, hI1, hI2, hI3⟩ := Cond.arrayClass_spec (htG _ tq_160)
  obtain ⟨cZ, kZ, compZ, hZ1, hZ2, hZ3⟩ := Cond.arrayClass_spec (htG _ tq_1024)
  have hAO : va_AO RX7 s := va_AO.of (hts _ (List.mem_of_getElem? (i := 289) (by decide +kernel)))
  obtain ⟨compW, cW, kW, hW1, hW2, hW3, hW4, hW5⟩ := Cond.arrayOver_spec hAO
  have hK : va_K (dC, dI) vwCl (ps_ty (cI, cZ, cW)) s := by
    refine ⟨hKc, fun k q hq => ?_⟩
    match k, hq with
    | 0, hq => cases hq; exact ⟨fun n z => ⟨fun k h => (by cases h), kI, hI2, compI, hI3⟩, hI1⟩
    | 1, hq => cases hq; exact ⟨fun n z => ⟨fun k h => (by cases h), kZ, hZ2, compZ, hZ3⟩, hZ1⟩
    | 2, hq => cases hq; exact ⟨fun n z => ⟨fun k h => (by cases h), kW, hW3, compW, hW4⟩, kW, compW, hW3, hW4, hW1, hW5⟩
    | k + 3, hq => simp [ps_ty] at hq
  have hN : ps_nest s := by
    show ∀ q ∈ ps_nl, va_Nw (.methodLinkNest q.1 q.2.1 q.2.2.1 q.2.2.2) s
    unfold ps_nl
    exact (List.forall_mem_cons.mpr ⟨va_Nw.of rfl (hts _ (List.mem_of_getElem? (i := 84) (by decide +kernel))), (List.forall_mem_cons.mpr ⟨va_Nw.of rfl (hts _ (List.mem_of_getElem? (i := 163) (by decide +kernel))), (List.forall_mem_cons.mpr ⟨va_Nw.of rfl (hts _ (List.mem_of_getElem? (i := 187) (by decide +kernel))), (List.forall_mem_cons.mpr ⟨va_Nw.of rfl (hts _ (List.mem_of_getElem? (i := 216) (by decide +kernel))), (List.forall_mem_cons.mpr ⟨va_Nw.of rfl (hts _ (List.mem_of_getElem? (i := 290) (by decide +kernel))), (List.forall_mem_cons.mpr ⟨va_Nw.of rfl (hts _ (List.mem_of_getElem? (i := 304) (by decide +kernel))), (List.forall_mem_cons.mpr ⟨va_Nw.of rfl (hts _ (List.mem_of_getElem? (i := 309) (by decide +kernel))), (List.forall_mem_cons.mpr ⟨va_Nw.of rfl (hts _ (List.mem_of_getElem? (i := 347) (by decide +kernel))), (List.forall_mem_cons.mpr ⟨va_Nw.of rfl (hts _ (List.mem_of_getElem? (i := 379) (by decide +kernel))), (List.forall_mem_cons.mpr ⟨va_Nw.of rfl (hts _ (List.mem_of_getElem? (i := 384) (by decide +kernel))), (fun _ h => absurd h List.not_mem_nil)⟩)⟩)⟩)⟩)⟩)⟩)⟩)⟩)⟩)⟩)
  have C : ps_C p s m #[Value.ref b] meth c code 4 RL ret meth.name (dC, dI) (cI, cZ, cW) s.heap.size := ⟨hx, hb, hml, hown, htG, ⟨hK, hN, hAO⟩, hlocks, Nat.le_refl _, hr, rfl⟩
  have hbA : ¬ (fun q : Nat => s.heap.size ≤ q) b := Nat.not_le.mpr hbl
  have hW : ps_W (dC, dI) (cI, cZ, cW) s.heap.size ps_Mz s.heap := ⟨rfl, fun _ _ => rfl, fun a ha => absurd ha (Nat.not_lt_zero a)⟩
  have hS : va_S (fun q : Nat => s.heap.size ≤ q) s.heap s.heap [] := va_S.rf
  have hl := lv_entry ([.ref b]) (n := 4) (Nat.le_of_ble_eq_true rfl)
  rw [lg_entry_eq]
  generalize (lg_sl ([.ref b]) ++ List.replicate (4 - (lg_sl ([.ref b])).length) Slot.unset).toArray = ls at hl ⊢
  have hl : lv_has ls 4 [(0, .ref b)] := hl
  have hF := hinit
  unfold f_law_init at hF
  refine pw_nO C hW hS pc_8 tq_74 tq_75 tq_61 (Nat.le_of_ble_eq_true rfl) (Nat.le_of_ble_eq_true rfl) dL_law_0 hF (fun M a1 H hW hS hF => ?_)
  refine W.widen (k := 1) (n := 11) (Nat.le_of_ble_eq_true rfl) (Nat.le_of_ble_eq_true rfl) ?_
  refine lv_dup hx hb dL_law_3 rfl ?_
  obtain ⟨M9, hc, hF⟩ := ps_b1_some hF
  refine ps_backV (M' := M9) hS (ps_callI C hW mf_X9_init tq_77 rfl tq_76 ⟨Nat.le_of_ble_eq_true rfl, Nat.le_of_ble_eq_true rfl⟩ rfl rfl (As := []) (rest := [.ref (s.heap.size + a1)]) (c_X9_init hc) rfl hl.1 rfl (Nat.le_of_ble_eq_true rfl) dL_law_4 ⟨Nat.le_of_ble_eq_true rfl, Nat.le_of_ble_eq_true rfl⟩) (fun H locs hW hS => ?_)
  refine W.widen (k := 205) (n := 1705) (Nat.le_of_ble_eq_true rfl) (Nat.le_of_ble_eq_true rfl) ?_
  refine lv_astore_n (lv' := [(1, .ref (s.heap.size + a1)), (0, .ref b)]) hx hb dL_law_7 rfl hl (by decide) rfl (fun ls hl => ?_)
  refine pw_nO C hW hS pc_9 tq_912 tq_913 tq_71 (Nat.le_of_ble_eq_true rfl) (Nat.le_of_ble_eq_true rfl) dL_law_8 hF (fun M a2 H hW hS hF => ?_)
  refine W.widen (k := 206) (n := 1740) (Nat.le_of_ble_eq_true rfl) (Nat.le_of_ble_eq_true rfl) ?_
  refine lv_dup hx hb dL_law_11 rfl ?_
  obtain ⟨M8, hc2, hF⟩ := ps_b1_some hF
  refine ps_backV (M' := M8) hS (ps_callI C hW mf_X10_init tq_915 rfl tq_914 ⟨Nat.le_of_ble_eq_true rfl, Nat.le_of_ble_eq_true rfl⟩ rfl rfl (As := []) (rest := [.ref (s.heap.size + a2)]) (c_X10_init hc2) rfl hl.1 rfl (Nat.le_of_ble_eq_true rfl) dL_law_12 ⟨Nat.le_of_ble_eq_true rfl, Nat.le_of_ble_eq_true rfl⟩) (fun H locs hW hS => ?_)
  refine W.widen (k := 221) (n := 7852) (Nat.le_of_ble_eq_true rfl) (Nat.le_of_ble_eq_true rfl) ?_
  refine lv_astore_n (lv' := [(2, .ref (s.heap.size + a2)), (1, .ref (s.heap.size + a1)), (0, .ref b)]) hx hb dL_law_15 rfl hl (by decide) rfl (fun ls hl => ?_)
  refine lv_iconst (v := 0) hx hb dL_law_16 (by decide) ?_
  refine lv_istore_n (lv' := [(3, .int 0), (2, .ref (s.heap.size + a2)), (1, .ref (s.heap.size + a1)), (0, .ref b)]) hx hb dL_law_17 rfl hl (by decide) rfl (fun ls hl => ?_)
  have e3 := Option.some.inj hF
  have e4 : a1 = 0 := congrArg Prod.fst e3
  have e5 : a2 = 205 := congrArg (fun q => q.2.1) e3
  have e6 : M8 = M0 := congrArg (fun q => q.2.2) e3
  rw [e4, e5] at hl
  rw [e6] at hW
  exact la_loop harms hup C hX hbl hbA hL (Nat.le_refl _) (L + 1) 0 0 M0 H locs ls (by omega) (by omega) nI_0.symm h0 hW hS (lv_sub hl [3, 2, 1, 0] rfl)
