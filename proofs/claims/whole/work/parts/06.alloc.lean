/-! ===== what makes cells: the constructors ===== -/
def ps_nO {α : Type} (M : ps_M) (ci : Nat) (f : ps_M → Nat → Option α) : Option α := f (ps_nw M (ci + 1) 0) (ps_N M)
def ps_nA {α : Type} (M : ps_M) (kd len : Nat) (f : ps_M → Nat → Option α) : Option α := f (ps_nw M kd len) (ps_N M)
def ps_xR {α : Type} (M : ps_M) (a : Nat) (i : Int32) (v : Nat) (f : ps_M → Option α) : Option α := if ps_K M a = 23 ∧ ¬ (i < 0 ∨ ps_L M a ≤ i.toNatClampNeg) ∧ ps_K M v = 7 then f (ps_sR M a i.toNatClampNeg (v + 1)) else none
def ps_aLc {α : Type} (M : ps_M) (a n : Nat) (X : Option α) : Option α := if (ps_K M a = 21 ∨ ps_K M a = 23) ∧ ps_L M a = n then X else none
theorem ps_e_nw (Y : ps_A) (B : Nat) (M : ps_M) {kd len b : Nat} (h : b ≠ ps_N M) : ps_e Y B (ps_nw M kd len) b = ps_e Y B M b := by
  have e1 : ps_I (ps_nw M kd len) b = ps_I M b := by
    funext y
    simp [ps_I, ps_nw, h]
  have e2 : ps_R (ps_nw M kd len) b = ps_R M b := by
    funext y
    simp [ps_R, ps_nw, h]
  have e3 : ps_K (ps_nw M kd len) b = ps_K M b := by simp [ps_K, ps_nw, h]
  have e4 : ps_L (ps_nw M kd len) b = ps_L M b := by simp [ps_L, ps_nw, h]
  have e5 : ps_fv B (ps_nw M kd len) (ps_K M b - 1) b = ps_fv B M (ps_K M b - 1) b := by
    funext y
    unfold ps_fv
    rw [e1, e2]
  unfold ps_e
  rw [e1, e2, e3, e4, e5]
theorem ps_W.new {D : va_G} {Y : ps_A} {B : Nat} {M : ps_M} {H H1 : Heap} (hW : ps_W D Y B M H) {kd len : Nat} (z : H1.size = H.size + 1) (o : ∀ q : Nat, q < H.size → H1[q]? = H[q]?) (hat : va_at D vwCl (B + ps_N M, ps_e Y B (ps_nw M kd len) (ps_N M)) H1) : ps_W D Y B (ps_nw M kd len) H1 := by
  obtain ⟨h1, h2, h3⟩ := hW
  have eN : ps_N (ps_nw M kd len) = ps_N M + 1 := rfl
  refine ⟨by rw [z, h1, eN]; omega, fun a ha => ?_, fun a ha => ?_⟩
  · rw [eN] at ha
    have : ps_K (ps_nw M kd len) a = ps_K M a := by
      have : a ≠ ps_N M := by omega
      simp [ps_K, ps_nw, this]
    rw [this]
    exact h2 a (by omega)
  · rw [eN] at ha
    by_cases h : a = ps_N M
    · subst h
      exact hat
    · rw [ps_e_nw Y B M h]
      exact (h3 a (by omega)).kept (o (B + a) (by omega))
section
variable {p : Program} {l : Launch} {e : Env} {R : Room} {s : State} {m : MethodId} {args : Array Value} {below : List Frame} {meth : Method} {c : Code} {H : Heap} {locs : List Loc} {cells slots : Nat} {Q : State → Prop}
variable {cc : ByteArray} {nL : Nat} {own nm : String} {rt : Option FieldType} {D : va_G} {Y : ps_A} {B : Nat} {M : ps_M} {pc : Nat} {ls : Array Slot} {rest : List Value} {α : Type} {res : α}
theorem ps_Snew (hS : va_S (fun q => B ≤ q) s.heap H locs) {H1 : Heap} (z : H1.size = H.size + 1) (o : ∀ q : Nat, q < H.size → H1[q]? = H[q]?) : va_S (fun q => B ≤ q) s.heap H1 locs :=
  ⟨Nat.le_trans hS.1 (by omega), fun x h1 h2 => (o x (Nat.lt_of_lt_of_le h1 hS.1)).trans (hS.2.1 x h1 h2), hS.2.2⟩
theorem pw_nO (C : ps_C p s m args meth c cc nL own rt nm D Y B) (hW : ps_W D Y B M H) (hS : va_S (fun q => B ≤ q) s.heap H locs) {ci index : Nat} {C' : String} {T : u_T} {N : Nat} {ty : Nat → FieldType} (hc : ps_cl ci C' T N ty) (hl : Cond.classLink own index C' ∈ tb_G) (hinst : Cond.instantiable C' N ∈ tb_G) (hini : Cond.initialized C' ∈ tb_G) (hcells : cells + 1 ≤ R.cells) (hslots : slots + N ≤ R.slots) (hdg : decode cc pc = .ok (.new index, 3)) {f : ps_M → Nat → Option α} (hF : ps_nO M ci f = some res)
    (kk : ∀ (M : ps_M) (a : Nat) (H : Heap), ps_W D Y B M H → va_S (fun q => B ≤ q) s.heap H locs → f M a = some res → W p l e R s m args below meth c H locs (cells + 1) (slots + N) Q (F0 m (pc + 3) ls (.ref (B + a) :: rest))) : W p l e R s m args below meth c H locs cells slots Q (F0 m pc ls rest) := by
  obtain ⟨hx, hb, hml, hown, hts, hT, -⟩ := C
  obtain ⟨hc, hci, hin, hnf, hsame, hty, hnmm, hdef⟩ := hc
  have hKn := hT.1.1 ci _ hc
  refine W.newcK hx hb hown (hts _ hl) (hts _ hinst) (hts _ hini) rfl hdg hcells hslots hKn.2.1 hW.1 fun H1 kC hkC e1 z1 o1 => ?_
  have z2 : H1.size = H.size + 1 := by rw [z1, hW.1]
  have o2 : ∀ q : Nat, q < H.size → H1[q]? = H[q]? := fun q hq => o1 q (by rw [← hW.1]; exact hq)
  refine kk (ps_nw M (ci + 1) 0) (ps_N M) H1 (hW.new z2 o2 ?_) (ps_Snew hS z2 o2) hF
  have hK : ps_K (ps_nw M (ci + 1) 0) (ps_N M) = ci + 1 := by simp [ps_K, ps_nw]
  rw [ps_e_obj Y B hK hci]
  refine ⟨_, hc, (u_born ty hts hin hKn hkC e1 hty).to (fun k hk => ?_)⟩
  rw [hdef k hk]
  have hv : vp_V ((List.range (ps_nf ci)).map (ps_fv B (ps_nw M (ci + 1) 0) ci (ps_N M))) k = ps_fv B (ps_nw M (ci + 1) 0) ci (ps_N M) k := by
    unfold vp_V
    simp [List.getD_eq_getElem?_getD, hnf, hk]
  rw [hv]
  unfold ps_fv
  simp [ps_R, ps_I, ps_nw, ps_o, va_rf]
theorem pw_nI (C : ps_C p s m args meth c cc nL own rt nm D Y B) (hW : ps_W D Y B M H) (hS : va_S (fun q => B ≤ q) s.heap H locs) {n : Int32} {N : Nat} (harr : Cond.arrayClass .int ∈ tb_G) (hn : ¬ n < 0) (hN : n.toNatClampNeg = N) (hbytes : N * 4 ≤ 536870912) (hcells : cells + 1 ≤ R.cells) (hslots : slots + N ≤ R.slots) (hdg : decode cc pc = .ok (.newarray .int, 2)) {f : ps_M → Nat → Option α} (hF : ps_nA M 21 N f = some res)
    (kk : ∀ (M : ps_M) (a : Nat) (H : Heap), ps_W D Y B M H → va_S (fun q => B ≤ q) s.heap H locs → f M a = some res → W p l e R s m args below meth c H locs (cells + 1) (slots + N) Q (F0 m (pc + 2) ls (.ref (B + a) :: rest))) : W p l e R s m args below meth c H locs cells slots Q (F0 m pc ls (.int n :: rest)) := by
  obtain ⟨hx, hb, hml, hown, hts, hT, -⟩ := C
  refine va_newaK hx hb (atype := .int) (hts _ harr) rfl hdg rfl hn hN hbytes hcells hslots hW.1 fun H1 cA e1 z1 o1 hAr hNm => ?_
  have hcA : Y.1 = cA := Option.some.inj ((hT.1.2 0 _ rfl).2.symm.trans hNm)
  have z2 : H1.size = H.size + 1 := by rw [z1, hW.1]
  have o2 : ∀ q : Nat, q < H.size → H1[q]? = H[q]? := fun q hq => o1 q (by rw [← hW.1]; exact hq)
  refine kk (ps_nw M 21 N) (ps_N M) H1 (hW.new z2 o2 ?_) (ps_Snew hS z2 o2) hF
  rw [ps_e_I Y B (show ps_K (ps_nw M 21 N) (ps_N M) = 21 by simp [ps_K, ps_nw]), hcA]
  show H1[B + ps_N M]? = some (vp_cell cA (ps_L (ps_nw M 21 N) (ps_N M), .inl (ps_I (ps_nw M 21 N) (ps_N M))))
  rw [e1, show ps_L (ps_nw M 21 N) (ps_N M) = N by simp [ps_L, ps_nw], vp_cell_i]
  congr 2
  funext j
  simp [ps_I, ps_nw, newarray.typeOf, defaultValue]
theorem pw_nZ (C : ps_C p s m args meth c cc nL own rt nm D Y B) (hW : ps_W D Y B M H) (hS : va_S (fun q => B ≤ q) s.heap H locs) {n : Int32} {N : Nat} (harr : Cond.arrayClass .boolean ∈ tb_G) (hn : ¬ n < 0) (hN : n.toNatClampNeg = N) (hbytes : N * 1 ≤ 536870912) (hcells : cells + 1 ≤ R.cells) (hslots : slots + N ≤ R.slots) (hdg : decode cc pc = .ok (.newarray .boolean, 2)) {f : ps_M → Nat → Option α} (hF : ps_nA M 22 N f = some res)
    (kk : ∀ (M : ps_M) (a : Nat) (H : Heap), ps_W D Y B M H → va_S (fun q => B ≤ q) s.heap H locs → f M a = some res → W p l e R s m args below meth c H locs (cells + 1) (slots + N) Q (F0 m (pc + 2) ls (.ref (B + a) :: rest))) : W p l e R s m args below meth c H locs cells slots Q (F0 m pc ls (.int n :: rest)) := by
  obtain ⟨hx, hb, hml, hown, hts, hT, -⟩ := C
  refine va_newaK hx hb (atype := .boolean) (hts _ harr) rfl hdg rfl hn hN hbytes hcells hslots hW.1 fun H1 cA e1 z1 o1 hAr hNm => ?_
  have hcA : Y.2.1 = cA := Option.some.inj ((hT.1.2 1 _ rfl).2.symm.trans hNm)
  have z2 : H1.size = H.size + 1 := by rw [z1, hW.1]
  have o2 : ∀ q : Nat, q < H.size → H1[q]? = H[q]? := fun q hq => o1 q (by rw [← hW.1]; exact hq)
  refine kk (ps_nw M 22 N) (ps_N M) H1 (hW.new z2 o2 ?_) (ps_Snew hS z2 o2) hF
  rw [ps_e_Z Y B (show ps_K (ps_nw M 22 N) (ps_N M) = 22 by simp [ps_K, ps_nw]), hcA]
  show H1[B + ps_N M]? = some (vp_cell cA (ps_L (ps_nw M 22 N) (ps_N M), .inl (ps_I (ps_nw M 22 N) (ps_N M))))
  rw [e1, show ps_L (ps_nw M 22 N) (ps_N M) = N by simp [ps_L, ps_nw], vp_cell_i]
  congr 2
  funext j
  simp [ps_I, ps_nw, newarray.typeOf, defaultValue]
theorem pw_nR (C : ps_C p s m args meth c cc nL own rt nm D Y B) (hW : ps_W D Y B M H) (hS : va_S (fun q => B ≤ q) s.heap H locs) {n : Int32} {N index : Nat} (hl : Cond.classLink own index RX7 ∈ tb_G) (hn : ¬ n < 0) (hN : n.toNatClampNeg = N) (hbytes : N * 4 ≤ 536870912) (hcells : cells + 1 ≤ R.cells) (hslots : slots + N ≤ R.slots) (hdg : decode cc pc = .ok (.anewarray index, 3)) {f : ps_M → Nat → Option α} (hF : ps_nA M 23 N f = some res)
    (kk : ∀ (M : ps_M) (a : Nat) (H : Heap), ps_W D Y B M H → va_S (fun q => B ≤ q) s.heap H locs → f M a = some res → W p l e R s m args below meth c H locs (cells + 1) (slots + N) Q (F0 m (pc + 3) ls (.ref (B + a) :: rest))) : W p l e R s m args below meth c H locs cells slots Q (F0 m pc ls (.int n :: rest)) := by
  obtain ⟨hx, hb, hml, hown, hts, hT, -⟩ := C
  subst hN
  refine W.anew hx hb hown (hts _ hl) (va_AO.use hT.2.2) rfl hdg rfl hn hbytes hcells hslots fun cA kA comp f1 f2 f3 f4 => ?_
  obtain ⟨kA', comp', g1, g2, g3, g4⟩ := (hT.1.2 2 _ rfl).2
  have hcA : Y.2.2 = cA := Option.some.inj (g4.symm.trans f1)
  generalize hH1 : H.push ({ cls := cA, slots := Array.replicate n.toNatClampNeg .null, vm := .none } : Cell) = H1
  have z2 : H1.size = H.size + 1 := by rw [← hH1, Array.size_push]
  have e1 : H1[H.size]? = some (arrV cA n.toNatClampNeg (fun _ => .null)) := by rw [← hH1, Array.getElem?_push_size, ← arrV_new]
  have o2 : ∀ q : Nat, q < H.size → H1[q]? = H[q]? := fun q hq => by rw [← hH1, Array.getElem?_push, if_neg (Nat.ne_of_lt hq)]
  rw [hW.1] at e1
  have kk' := kk (ps_nw M 23 n.toNatClampNeg) (ps_N M) H1 (hW.new z2 o2 ?_) (ps_Snew hS z2 o2) hF
  · rw [← hW.1] at kk'
    exact kk'
  rw [ps_e_R Y B (show ps_K (ps_nw M 23 n.toNatClampNeg) (ps_N M) = 23 by simp [ps_K, ps_nw]), hcA]
  show H1[B + ps_N M]? = some (vp_cell cA (ps_L (ps_nw M 23 n.toNatClampNeg) (ps_N M), .inr (.inr (.inr (.inr (fun j => ps_o B (ps_R (ps_nw M 23 n.toNatClampNeg) (ps_N M) j)))))))
  rw [e1, show ps_L (ps_nw M 23 n.toNatClampNeg) (ps_N M) = n.toNatClampNeg by simp [ps_L, ps_nw], vp_cell_q]
  congr 2
  funext j
  simp [ps_R, ps_nw, ps_o, va_rf]
theorem pw_xR (C : ps_C p s m args meth c cc nL own rt nm D Y B) (hW : ps_W D Y B M H) (hS : va_S (fun q => B ≤ q) s.heap H locs) {a v : Nat} {i : Int32} (hdg : decode cc pc = .ok (.aastore, 1)) {f : ps_M → Option α} (hF : ps_xR M a i v f = some res)
    (kk : ∀ (M : ps_M) (H : Heap) (locs : List Loc), ps_W D Y B M H → va_S (fun q => B ≤ q) s.heap H locs → f M = some res → W p l e R s m args below meth c H locs cells slots Q (F0 m (pc + 1) ls rest)) : W p l e R s m args below meth c H locs cells slots Q (F0 m pc ls (.ref (B + v) :: .int i :: .ref (B + a) :: rest)) := by
  obtain ⟨hx, hb, hml, hown, hts, hT, -⟩ := C
  unfold ps_xR at hF
  by_cases hK : ps_K M a = 23 ∧ ¬ (i < 0 ∨ ps_L M a ≤ i.toNatClampNeg) ∧ ps_K M v = 7
  · rw [if_pos hK] at hF
    obtain ⟨h23, hin, h7⟩ := hK
    have hlt : i.toNatClampNeg < ps_L M a := Nat.not_le.mp fun q => hin (Or.inr q)
    have h0 : ¬ i < 0 := fun q => hin (Or.inl q)
    have hat := (ps_at hW (a := a) (by rw [h23]; omega)).2
    rw [ps_e_R Y B h23] at hat
    have hav := (ps_at hW (a := v) (by rw [h7]; omega)).2
    rw [ps_e_obj Y B h7 (by omega)] at hav
    obtain ⟨r', hr', cellV, g1, g2, g3, -⟩ := hav
    have hr6 : r' = (RX7, TX7, 13) := Option.some.inj (hr'.symm.trans rfl)
    subst hr6
    have hcls := (hT.1.1 6 _ hr').2
    obtain ⟨kA, comp, k1, k2, k3, -⟩ := (hT.1.2 2 _ rfl).2
    have hcomp : comp = D.1 6 := Option.some.inj (k3.symm.trans hcls.1)
    subst hcomp
    obtain ⟨kC, hkC, -⟩ := hcls.2
    refine W.aast hx hb hat (fun q h => by cases h) (fun h => by cases h) k1 k2 rfl hkC ⟨h0, by show _ < (arrV _ _ _).slots.size; rw [arrV_size]; exact hlt⟩ g1 (fun q h => by rw [g3] at h; cases h) (by rw [g2]; exact hkC) (by rw [g2]; exact va_assign hcls) rfl rfl hdg fun H1 e1 z oq => ?_
    refine kk (ps_sR M a i.toNatClampNeg (v + 1)) H1 _ (hW.put rfl rfl (fun b hb => ps_e_sR Y B M (v + 1) hb) z oq ?_) (hS.put z oq (Nat.le_add_right B a)) hF
    rw [ps_e_R Y B (show ps_K (ps_sR M a i.toNatClampNeg (v + 1)) a = 23 from h23)]
    show H1[B + a]? = some (vp_cell _ _)
    rw [e1, vp_cell_q, vp_cell_q, arrV_store]
    congr 2
    funext q
    by_cases hq : q = i.toNatClampNeg
    · simp [updV, hq, ps_R, ps_sR, ps_uR, ps_o, va_rf]
    · simp [updV, hq, ps_R, ps_sR, ps_uR]
  · rw [if_neg hK] at hF
    cases hF
theorem pw_aLc (C : ps_C p s m args meth c cc nL own rt nm D Y B) (hW : ps_W D Y B M H) {a n : Nat} {v : Int32} (hv : Int32.ofNat n = v) (hdg : decode cc pc = .ok (.arraylength, 1)) {X : Option α} (hF : ps_aLc M a n X = some res)
    (kk : X = some res → W p l e R s m args below meth c H locs cells slots Q (F0 m (pc + 1) ls (.int v :: rest))) : W p l e R s m args below meth c H locs cells slots Q (F0 m pc ls (.ref (B + a) :: rest)) := by
  unfold ps_aLc at hF
  by_cases hK : (ps_K M a = 21 ∨ ps_K M a = 23) ∧ ps_L M a = n
  · rw [if_pos hK] at hF
    refine pw_aL C hW hdg (f := fun x => if x = v then X else none) (res := res) (by unfold ps_aL; rw [if_pos hK.1, hK.2, hv]; show (if v = v then X else none) = some res; rw [if_pos rfl]; exact hF) (fun x h => ?_)
    by_cases hx : x = v
    · subst hx
      rw [if_pos rfl] at h
      exact kk h
    · rw [if_neg hx] at h
      cases h
  · rw [if_neg hK] at hF
    cases hF
theorem ps_callI (C : ps_C p s m args meth c cc nL own rt nm D Y B) (hW : ps_W D Y B M H) {index maxL n mc ms : Nat} {y : MethodName} {bytes : ByteArray} {rm : Room} {Qc : Array Value → State → Outcome → State → Prop} (hm : ps_mf y bytes maxL none n) (hin : Cond.instanceMethod y ∈ tb_G) (hy1 : y.name = "<init>") (hl : Cond.methodLink own index y ∈ tb_G) (hR : rm.frames + 1 ≤ R.frames ∧ 8 + (maxL + 11) + rm.locals ≤ R.locals) (hrc : rm.cells = mc) (hrs : rm.slots = ms) {b : Nat} {As : List Value} (hM : Met l y (Cond.code y bytes maxL none :: tb_G) rm (ps_PB D Y B M (.ref b :: As)) Qc mc ms (fun q => B ≤ q))
    {st0 : List Value} (hn : As.length = n) (hsz : ls.size = nL) (hst : st0 = As.reverse ++ .ref b :: rest) (hcat : (rest.map fun v => v.category).sum ≤ 8) (hdg : decode cc pc = .ok (.invokespecial index, 3)) (hf : cells + mc ≤ R.cells ∧ slots + ms ≤ R.slots) :
    va_Run p l e R s m args below meth c H locs cells slots mc ms (F0 m pc ls st0) rest (Qc (Value.ref b :: As).toArray) (fun q => B ≤ q) := by
  obtain ⟨hx, hb, hml, hown, hts, hT, -⟩ := C
  obtain ⟨hcode, hini, hd⟩ := hm
  exact va_runI (As := As) (rest := rest) ⟨hx, hb, hml, hown, hts⟩ hM ⟨callB_of n hts (ps_good hcode) rfl hrc hrs (hts _ hini) (hts _ hl) hd hR, hy1, hts _ hin⟩
    ⟨ps_blind D Y B M _, fun U hU hw => ⟨rfl, by rw [hU]; exact hW, hT.warm hw⟩⟩ rfl hn hsz hst (lv_room hcat) hdg hf
theorem ps_callIN (C : ps_C p s m args meth c cc nL own rt nm D Y B) (hW : ps_W D Y B M H) {index maxL n mc ms : Nat} {y : MethodName} {host : String} {bytes : ByteArray} {rm : Room} {Qc : Array Value → State → Outcome → State → Prop} (hm : ps_mf y bytes maxL none n) (hin : Cond.instanceMethod y ∈ tb_G) (hy1 : y.name = "<init>") (hl : (own, index, y, host) ∈ ps_nl) (hR : rm.frames + 1 ≤ R.frames ∧ 8 + (maxL + 11) + rm.locals ≤ R.locals) (hrc : rm.cells = mc) (hrs : rm.slots = ms) {b : Nat} {As : List Value} (hM : Met l y (Cond.code y bytes maxL none :: tb_G) rm (ps_PB D Y B M (.ref b :: As)) Qc mc ms (fun q => B ≤ q))
    {st0 : List Value} (hn : As.length = n) (hsz : ls.size = nL) (hst : st0 = As.reverse ++ .ref b :: rest) (hcat : (rest.map fun v => v.category).sum ≤ 8) (hdg : decode cc pc = .ok (.invokespecial index, 3)) (hf : cells + mc ≤ R.cells ∧ slots + ms ≤ R.slots) :
    va_Run p l e R s m args below meth c H locs cells slots mc ms (F0 m pc ls st0) rest (Qc (Value.ref b :: As).toArray) (fun q => B ≤ q) := by
  obtain ⟨hx, hb, hml, hown, hts, hT, -⟩ := C
  obtain ⟨hcode, hini, hd⟩ := hm
  exact va_runIN (As := As) (rest := rest) (host := host) ⟨hx, hb, hml, hown, hts⟩ hM ⟨va_cnB n hts (ps_good hcode) rfl hrc hrs (hT.2.1 _ hl) (hts _ hini) hd hR, hy1, hts _ hin⟩
    ⟨ps_blind D Y B M _, fun U hU hw => ⟨rfl, by rw [hU]; exact hW, hT.warm hw⟩⟩ rfl hn hsz hst (lv_room hcat) hdg hf
end
