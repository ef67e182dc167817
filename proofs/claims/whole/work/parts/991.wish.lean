section
variable {h : zM} {b : Bool} {y : Nat → Nat → Int} {g : Int} {p q : Int}
/-- a fresh row with two wishes -/
noncomputable def omr (h : zM) (p q : Int) (v w : Nat) : Nat → Int := rs (rs (frs h p q) p.toNat v) q.toNat w
noncomputable def omG (y : Nat → Nat → Int) (h : zM) (p q : Int) (v w : Nat) : Int := nv (gon y 999 (omr h p q v w) 0)
theorem frs_16 (h : zM) (p q : Int) : frs h p q 16 = p ∧ frs h p q 17 = q ∧ frs h p q 19 = 0 := by
  unfold frs rcp
  rw [if_neg (by omega), if_neg (by omega), if_neg (by omega)]
  simp [nlog]
theorem omr_19 (h2 : two y p q) (hn : y 0 1 ≤ 4) (v w : Nat) : omr h p q v w 16 = p ∧ omr h p q v w 17 = q ∧ omr h p q v w 19 = 0 := by
  obtain ⟨a, c, -⟩ := h2
  unfold omr
  rw [rs_ne _ _ (by omega), rs_ne _ _ (by omega), rs_ne _ _ (by omega), rs_ne _ _ (by omega), rs_ne _ _ (by omega), rs_ne _ _ (by omega)]
  exact frs_16 h p q
theorem omG_b (hL : 0 < y 0 0) (h2 : two y p q) (hn : y 0 1 ≤ 4) (v w : Nat) : 1 ≤ omG y h p q v w ∧ omG y h p q v w ≤ 1000 :=
  ⟨gon_pos (by unfold thr; rw [(omr_19 (h := h) h2 hn v w).2.2]; omega), (nv_b _).2⟩
theorem omG_min (hR : Rel g h y) (hg0 : 0 ≤ g) (hL : 0 < y 0 0) (h2 : two y p q) {v w : Nat} (hv : 1 ≤ v) (hw : 1 ≤ w) : omG y h p q v w = omG y h p q (min v (y 2 p.toNat).toNat) (min w (y 2 q.toNat).toNat) := by
  have hn := hR.1.1.2.1.2
  have hT := frs_tw hR hg0 h2 hL
  obtain ⟨c16, c17, -⟩ := frs_16 h p q
  obtain ⟨a1, a2, a3⟩ := h2
  have f1 := (hR.1.1.2.2.2.2.2.2 p.toNat (by omega)).1
  have f2 := (hR.1.1.2.2.2.2.2.2 q.toNat (by omega)).1
  unfold omG
  have hpr : Pr y (omr h p q (min v (y 2 p.toNat).toNat) (min w (y 2 q.toNat).toNat)) := by
    unfold omr
    exact Pr_rs (Pr_rs hT.2.2.1 (by omega)) (by omega)
  rw [gon_rqf hR.1.1 999 0 _ _ hpr]
  unfold omr
  refine ⟨fun j a c => by rw [rs_ne _ _ (by omega), rs_ne _ _ (by omega), rs_ne _ _ (by omega), rs_ne _ _ (by omega)], fun p' hp' => ?_⟩
  rw [rs_ne _ _ (by omega), rs_ne _ _ (by omega), rs_ne _ _ (by omega), rs_ne _ _ (by omega), c16, c17] at hp'
  refine ⟨?_, by rw [rs_ne _ _ (by omega), rs_ne _ _ (by omega), rs_ne _ _ (by omega), rs_ne _ _ (by omega)], by rw [rs_ne _ _ (by omega), rs_ne _ _ (by omega), rs_ne _ _ (by omega), rs_ne _ _ (by omega)], by rw [rs_ne _ _ (by omega), rs_ne _ _ (by omega), rs_ne _ _ (by omega), rs_ne _ _ (by omega)]⟩
  by_cases e : p' = q.toNat
  · rw [e, rs_same, rs_same]
    omega
  · rw [rs_ne _ _ e, rs_ne _ _ e, show p' = p.toNat by omega, rs_same, rs_same]
    omega
/-- the search's three fields -/
def r3 (H : zM) (S : Int × Int × Int) : Prop := H 175 0 = ii S.1 ∧ H 175 1 = ii S.2.1 ∧ H 175 2 = ii S.2.2
theorem inF_c (hR : Rel g h y) (hg0 : 0 ≤ g) (hg : g ≤ 80000000) (hL : 0 < y 0 0) (h2 : two y p q) {Fa Fb v : Nat} (hFb : Fb ≤ 20) (hv : 1 ≤ v ∧ v ≤ 20) (k51 : ps_M → Nat → Nat → Nat → Int32 → Int32 → Int32 → Int32 → Int32 → Option ps_M) {Q : Int × Int × Int → zM → Prop} (hk : ∀ (h' : zM) (S : Int × Int × Int), sv h h' → r3 h' S → 1 ≤ S.1 ∧ S.1 ≤ 1000 → ∃ h1, k51 (mk h' b) 175 1 18 (ii p) (ii q) (ii Fa) (ii Fb) (ii ((v + 1 : Nat) : Int)) = some (mk h1 b) ∧ Q S h1) : ∀ (d w m : Nat) (h' : zM) (S : Int × Int × Int), w + d = Fb + 1 → 1 ≤ w → d < m → sv h h' → r3 h' S → 1 ≤ S.1 ∧ S.1 ≤ 1000 → ∃ h1, f_X6_findWishes_l61 k51 m (mk h' b) 175 1 18 (ii p) (ii q) (ii Fa) (ii Fb) (ii v) (ii w) = some (mk h1 b) ∧ Q (inF (omG y h p q) d v w S) h1 := by
  have hn := hR.1.1.2.1.2
  intro d
  induction d with
  | zero =>
    intro w m h' S hw hw1 hm hs h3 hS
    obtain ⟨m', rfl⟩ : ∃ m', m = m' + 1 := ⟨m - 1, by omega⟩
    show ∃ h1, f_X6_findWishes_w61 k51 (f_X6_findWishes_l61 k51 m') (mk h' b) 175 1 18 (ii p) (ii q) (ii Fa) (ii Fb) (ii v) (ii w) = _ ∧ _
    unfold f_X6_findWishes_w61
    rw [if_pos (by rw [ii_lt (by omega) (by omega) (by omega) (by omega)]; omega), suc_ii, v_mk]
    exact hk h' S hs h3 hS
  | succ d ih =>
    intro w m h' S hw hw1 hm hs h3 hS
    obtain ⟨m', rfl⟩ : ∃ m', m = m' + 1 := ⟨m - 1, by omega⟩
    show ∃ h1, f_X6_findWishes_w61 k51 (f_X6_findWishes_l61 k51 m') (mk h' b) 175 1 18 (ii p) (ii q) (ii Fa) (ii Fb) (ii v) (ii w) = _ ∧ _
    have hR' := Rel_sc hR (sv_sc hs)
    obtain ⟨p1, q1, pq⟩ := id h2
    have hT := Tw_rs (j := q.toNat) (v := w) (Tw_rs (j := p.toNat) (v := v) (frs_tw hR' hg0 h2 hL) hn (by omega) (fun a => by omega) (fun a => by omega) (fun a => by omega) (fun a => by omega)) hn (by omega) (fun a => by omega) (fun a => by omega) (fun a => by omega) (fun a => by omega)
    rw [frs_sc (sv_sc hs)] at hT
    obtain ⟨L, hLe⟩ : ∃ L : Nat, S.1 = L := ⟨S.1.toNat, by omega⟩
    obtain ⟨H', r', f, o⟩ := strokes_mk (b := b) (N := L - 1) (H := h') iw_176 (by omega) hR.1.1 hL (by omega) hR'.1.2.1 hT.1 hT.2.2.1 (by omega)
    have hlt := gon_lt (y := y) (L := L) (by omega) (by omega) (omr h p q v w)
    have f' : f_X6_strokesThrough (mk (putW h' 176 (omr h p q v w)) b) 175 1 176 (ii ((L - 1 : Nat) : Int)) = some (ii (nv (gon y (L - 1) (omr h p q v w) 0)), mk (putW H' 176 r') b) := f
    obtain ⟨z1, z2, z3⟩ := h3
    have sF : sv h (putW H' 176 r') := fun c k q => by rw [putW_o _ _ _ (by omega), o c k (by omega), hs c k q]
    have rF : r3 (putW H' 176 r') S := ⟨by rw [putW_o _ _ _ (by omega), o 175 0 (by omega), z1], by rw [putW_o _ _ _ (by omega), o 175 1 (by omega), z2], by rw [putW_o _ _ _ (by omega), o 175 2 (by omega), z3]⟩
    generalize putW H' 176 r' = F at *
    have eN : ii S.1 - ii 1 = ii ((L - 1 : Nat) : Int) := by rw [ii_sub]; congr 1; omega
    unfold f_X6_findWishes_w61 f_X6_findWishes_b148
    rw [if_neg (by rw [ii_lt (by omega) (by omega) (by omega) (by omega)]; omega), ck_mk zk_175, begin_c hR', b1_mk, frs_sc (sv_sc hs), gR_mk zk_175 (zr_175_8 b), gR_mk iw_176.1 (iw_176.2.2.2.2.2.2.2.2.2.1 b), put_mk iw_176.2.1 p1.1 (by rw [iw_176.2.2.2.2.2.1]; omega) (by rw [iw_176.2.2.2.2.2.1]; omega), b1_mk, uI_1 _ _ _ _ (by omega), gR_mk zk_175 (zr_175_8 b), gR_mk iw_176.1 (iw_176.2.2.2.2.2.2.2.2.2.1 b), put_mk iw_176.2.1 q1.1 (by rw [iw_176.2.2.2.2.2.1]; omega) (by rw [iw_176.2.2.2.2.2.1]; omega), b1_mk, uI_1 _ _ _ _ (by omega), gR_mk zk_175 (zr_175_8 b), gI_mk zk_175, putW_o _ _ _ (by omega), z1, show (1 : Int32) = ii 1 by decide, eN, ck_mk zk_175]
    rw [show f_X6_strokesThrough (mk (putW h' 176 (rs (rs (frs h p q) p.toNat (v : Int)) q.toNat (w : Int))) b) 175 1 176 (ii ((L - 1 : Nat) : Int)) = _ from f', b2_mk, gI_mk zk_175, rF.1]
    have e1 : ii (w : Int) + ii 1 = ii ((w + 1 : Nat) : Int) := by rw [ii_add]; rfl
    show ∃ h1, _ ∧ Q (inF (omG y h p q) d v (w + 1) (wsp (omG y h p q) S v w)) h1
    have eG : nv (gon y 999 (omr h p q v w) 0) = omG y h p q v w := rfl
    rw [eG] at hlt
    unfold wsp
    by_cases c : S.1 ≤ nv (gon y (L - 1) (omr h p q v w) 0)
    · rw [if_pos (by rw [ii_le (by omega) (by omega) (by omega) (by omega)]; exact c), if_neg (by omega : ¬ omG y h p q v w < S.1), ← ii_lits.2.1, suc_ii, v_mk]
      exact ih (w + 1) m' F S (by omega) (by omega) (by omega) sF rF hS
    · have hGb := omG_b (h := h) hL h2 hn v w
      rw [if_neg (by rw [ii_le (by omega) (by omega) (by omega) (by omega)]; exact c), if_pos (by omega : omG y h p q v w < S.1), hlt.2.1 (by omega), pI_mk zk_175, pI_mk zk_175, pI_mk zk_175, ← ii_lits.2.1, suc_ii, v_mk]
      exact ih (w + 1) m' _ (omG y h p q v w, (v : Int), (w : Int)) (by omega) (by omega) (by omega) (fun c k q => by rw [uI_o (by omega), uI_o (by omega), uI_o (by omega), sF c k q]) ⟨by rw [uI_o (by omega), uI_o (by omega), uI_s], by rw [uI_o (by omega), uI_s], by rw [uI_s]⟩ hGb
theorem ouF_c (hR : Rel g h y) (hg0 : 0 ≤ g) (hg : g ≤ 80000000) (hL : 0 < y 0 0) (h2 : two y p q) {Fa Fb : Nat} (hFa : Fa ≤ 20) (hFb : Fb ≤ 20) : ∀ (d v m : Nat) (h' : zM) (S : Int × Int × Int), v + d = Fa + 1 → 1 ≤ v → d < m → sv h h' → r3 h' S → 1 ≤ S.1 ∧ S.1 ≤ 1000 → ∃ h1, f_X6_findWishes_l51 m (mk h' b) 175 1 18 (ii p) (ii q) (ii Fa) (ii Fb) (ii v) = some (mk h1 b) ∧ (sv h h1 ∧ r3 h1 (ouF (omG y h p q) Fb d v S)) := by
  intro d
  induction d with
  | zero =>
    intro v m h' S hv hv1 hm hs h3 hS
    obtain ⟨m', rfl⟩ : ∃ m', m = m' + 1 := ⟨m - 1, by omega⟩
    refine ⟨h', ?_, hs, h3⟩
    show f_X6_findWishes_w51 (f_X6_findWishes_l51 m') (mk h' b) 175 1 18 (ii p) (ii q) (ii Fa) (ii Fb) (ii v) = _
    unfold f_X6_findWishes_w51
    rw [if_pos (by rw [ii_lt (by omega) (by omega) (by omega) (by omega)]; omega)]
  | succ d ih =>
    intro v m h' S hv hv1 hm hs h3 hS
    obtain ⟨m', rfl⟩ : ∃ m', m = m' + 1 := ⟨m - 1, by omega⟩
    show ∃ h1, f_X6_findWishes_w51 (f_X6_findWishes_l51 m') (mk h' b) 175 1 18 (ii p) (ii q) (ii Fa) (ii Fb) (ii v) = _ ∧ _
    unfold f_X6_findWishes_w51
    rw [if_neg (by rw [ii_lt (by omega) (by omega) (by omega) (by omega)]; omega)]
    exact inF_c (Q := fun S h1 => sv h h1 ∧ r3 h1 (ouF (omG y h p q) Fb d (v + 1) S)) hR hg0 hg hL h2 hFb (by omega) _ (fun h'' S' a1 a2 a3 => ih (v + 1) m' h'' S' (by omega) (by omega) (by omega) a1 a2 a3) Fb 1 ps_fu h' S (by omega) (by omega) (by unfold ps_fu; omega) hs h3 hS
/-- the model's search -/
def WS (S : Int × Int × Int) : Prop := S.1 = 1000 ∨ (1 ≤ S.1 ∧ S.1 ≤ 999 ∧ 1 ≤ S.2.1 ∧ S.2.1 ≤ 20 ∧ 1 ≤ S.2.2 ∧ S.2.2 ≤ 20)
def bsk (S : Int × Int × Int) : Int := if S.1 = 1000 then -1 else 20 * (S.2.1 - 1) + (S.2.2 - 1)
def wan (S : Int × Int × Int) (W : Int) : Int := if S.1 = 1000 then -1 else if W = 0 then S.1 else if W = 1 then S.2.1 else S.2.2
theorem lin_m {W : Int} (hR : Rel g h y) (hg0 : 0 ≤ g) (hg : g ≤ 80000000) (hL : 0 < y 0 0) (h2 : two y p q) (hW : 0 ≤ W ∧ W ≤ 2) : ∀ (d k m : Nat) (h' : zM) (S : Int × Int × Int), k + d = 400 → d < m → sm h h' → WS S → ∃ h1, f_X10_wishes_l59 m (mk h' b) 205 (ii p) (ii q) (ii W) (ii (bsk S)) (ii (fr S.1)) (ii k) = some (ii (wan (lin (omG y h p q) d k S) W), mk h1 b) ∧ sm h h1 := by
  have hn := hR.1.1.2.1.2
  intro d
  induction d with
  | zero =>
    intro k m h' S hk hm hs hS
    obtain ⟨m', rfl⟩ : ∃ m', m = m' + 1 := ⟨m - 1, by omega⟩
    refine ⟨h', ?_, hs⟩
    show f_X10_wishes_w59 (f_X10_wishes_l59 m') (mk h' b) 205 (ii p) (ii q) (ii W) (ii (bsk S)) (ii (fr S.1)) (ii k) = _
    have hbs : -1 ≤ bsk S ∧ bsk S ≤ 399 := by unfold WS at hS; unfold bsk; split <;> omega
    unfold f_X10_wishes_w59 f_X10_wishes_b175
    simp only [lin]
    rw [show (400 : Int32) = ii 400 by decide, if_pos (by rw [ii_le (by omega) (by omega) (by omega) (by omega)]; omega)]
    unfold wan
    by_cases c0 : S.1 = 1000
    · have e : bsk S = -1 := by unfold bsk; rw [if_pos c0]
      rw [e, if_neg (by decide), if_pos c0]
      rfl
    · have e : bsk S = 20 * (S.2.1 - 1) + (S.2.2 - 1) := by unfold bsk; rw [if_neg c0]
      have hS' : 1 ≤ S.1 ∧ S.1 ≤ 999 ∧ 1 ≤ S.2.1 ∧ S.2.1 ≤ 20 ∧ 1 ≤ S.2.2 ∧ S.2.2 ≤ 20 := by unfold WS at hS; omega
      have efr : fr S.1 = S.1 := by unfold fr; rw [if_neg c0]
      rw [if_pos (by rw [ii_lits.1, ii_le (by omega) (by omega) (by omega) (by omega)]; omega), if_neg c0]
      by_cases c1 : W = 0
      · rw [if_pos (by rw [c1]; decide), if_pos c1, efr]
      · rw [if_neg (by rw [ii_lits.1, ii_eq (by omega) (by omega) (by omega) (by omega)]; exact c1), if_neg c1]
        by_cases c2 : W = 1
        · rw [if_pos (by rw [c2]; decide), if_pos c2, show (20 : Int32) = ii 20 by decide, show (1 : Int32) = ii 1 by decide, ii_div (by omega) (by omega) (by omega) (by omega), ii_add, show 1 + bsk S / 20 = S.2.1 by omega]
        · rw [if_neg (by rw [show (1 : Int32) = ii 1 by decide, ii_eq (by omega) (by omega) (by omega) (by omega)]; exact c2), if_neg c2, show (20 : Int32) = ii 20 by decide, show (1 : Int32) = ii 1 by decide, ii_div (by omega) (by omega) (by omega) (by omega), ii_mul, ii_sub, ii_add, show 1 + (bsk S - bsk S / 20 * 20) = S.2.2 by omega]
  | succ d ih =>
    intro k m h' S hk hm hs hS
    obtain ⟨m', rfl⟩ : ∃ m', m = m' + 1 := ⟨m - 1, by omega⟩
    show ∃ h1, f_X10_wishes_w59 (f_X10_wishes_l59 m') (mk h' b) 205 (ii p) (ii q) (ii W) (ii (bsk S)) (ii (fr S.1)) (ii k) = _ ∧ _
    have hR' := Rel_sc hR (sm_sc hs)
    obtain ⟨p1, q1, pq⟩ := id h2
    have hT := Tw_rs (j := q.toNat) (v := ((1 + k % 20 : Nat) : Int)) (Tw_rs (j := p.toNat) (v := ((1 + k / 20 : Nat) : Int)) (frs_tw hR' hg0 h2 hL) hn (by omega) (fun a => by omega) (fun a => by omega) (fun a => by omega) (fun a => by omega)) hn (by omega) (fun a => by omega) (fun a => by omega) (fun a => by omega) (fun a => by omega)
    rw [frs_sc (sm_sc hs)] at hT
    have hms := mcp_sm h'
    have hYm : Ym (mcH h') y := Ym_c hR'.1.2.2 (fun c k q => hms c k (by omega))
    obtain ⟨r', f⟩ := mgo_mk (b := b) (N := 999) (H := mcH h') hR.1.1 hYm (by omega) hT.2.1 (rq_Pr hT.2.2.2 hT.2.2.1) (by omega)
    rw [gon_tw hR.1.1 999 0 _ _ _ hT, fr_nv] at f
    have s1 : sm h (putM (mcH h') 28 r') := sm_tr hs (putM_sm hms)
    generalize putM (mcH h') 28 r' = F at *
    have hGb := omG_b (h := h) hL h2 hn (1 + k / 20) (1 + k % 20)
    have f' : f_X10_goOn (mk (putM (mcH h') 28 (rs (rs (frm y (mrow h' 0) p q) p.toNat ((1 + k / 20 : Nat) : Int)) q.toNat ((1 + k % 20 : Nat) : Int))) b) 205 (ii ((999 : Nat) : Int)) = some (ii (fr (omG y h p q (1 + k / 20) (1 + k % 20))), mk F b) := f
    unfold f_X10_wishes_w59 f_X10_wishes_b129
    simp only [lin]
    have e1 : ii 1 + ii (k : Int) / ii 20 = ii ((1 + k / 20 : Nat) : Int) := by rw [ii_div (by omega) (by omega) (by omega) (by omega), ii_add]; congr 1
    have e2 : ii 1 + (ii (k : Int) - ii (k : Int) / ii 20 * ii 20) = ii ((1 + k % 20 : Nat) : Int) := by rw [ii_div (by omega) (by omega) (by omega) (by omega), ii_mul, ii_sub, ii_add]; congr 1; omega
    rw [show (400 : Int32) = ii 400 by decide, if_neg (by rw [ii_le (by omega) (by omega) (by omega) (by omega)]; omega), ck_mk zk_205, begin_m hR' h2, b1_mk, gW, suc_ii, show (28 : Int32) = ii 28 by decide, show (20 : Int32) = ii 20 by decide, show (1 : Int32) = ii 1 by decide, e1, ii_add, wrM (j := p.toNat) (by omega) (by omega) (by omega), gW, e2, ii_add, wrM (j := q.toNat) (by omega) (by omega) (by omega), ck_mk zk_205, show (999 : Int32) = ii ((999 : Nat) : Int) by decide, f', b2_mk]
    have frb : 0 ≤ fr (omG y h p q (1 + k / 20) (1 + k % 20)) ∧ fr (omG y h p q (1 + k / 20) (1 + k % 20)) ≤ 99999999 := by unfold fr; split <;> omega
    have hSb : 1 ≤ S.1 ∧ S.1 ≤ 1000 := by unfold WS at hS; omega
    have frS : 0 ≤ fr S.1 ∧ fr S.1 ≤ 99999999 := by unfold fr; split <;> omega
    unfold wsp
    by_cases c : omG y h p q (1 + k / 20) (1 + k % 20) < S.1
    · rw [if_neg (by rw [ii_le (by omega) (by omega) (by omega) (by omega)]; unfold fr; repeat' split
                     all_goals omega), if_pos c, v_mk]
      have hS' : WS (omG y h p q (1 + k / 20) (1 + k % 20), ((1 + k / 20 : Nat) : Int), ((1 + k % 20 : Nat) : Int)) := by
        right
        show 1 ≤ omG y h p q (1 + k / 20) (1 + k % 20) ∧ omG y h p q (1 + k / 20) (1 + k % 20) ≤ 999 ∧ 1 ≤ ((1 + k / 20 : Nat) : Int) ∧ ((1 + k / 20 : Nat) : Int) ≤ 20 ∧ 1 ≤ ((1 + k % 20 : Nat) : Int) ∧ ((1 + k % 20 : Nat) : Int) ≤ 20
        omega
      have eb : bsk (omG y h p q (1 + k / 20) (1 + k % 20), ((1 + k / 20 : Nat) : Int), ((1 + k % 20 : Nat) : Int)) = (k : Int) := by
        unfold bsk
        show (if omG y h p q (1 + k / 20) (1 + k % 20) = 1000 then (-1 : Int) else 20 * (((1 + k / 20 : Nat) : Int) - 1) + (((1 + k % 20 : Nat) : Int) - 1)) = k
        rw [if_neg (by omega)]
        omega
      have := ih (k + 1) m' F _ (by omega) (by omega) s1 hS'
      rw [eb] at this
      exact this
    · rw [if_pos (by rw [ii_le (by omega) (by omega) (by omega) (by omega)]; unfold fr; repeat' split
                     all_goals omega), if_neg c, v_mk]
      exact ih (k + 1) m' F S (by omega) (by omega) s1 hS
end
theorem ouF_WS {G : Nat → Nat → Int} {B : Nat} (hB : B ≤ 20) (hG : ∀ v w, 1 ≤ G v w ∧ G v w ≤ 1000) : ∀ (d v : Nat) (S : Int × Int × Int), v + d ≤ 21 → 1 ≤ v → WS S → WS (ouF G B d v S) := by
  have hin : ∀ (d v w : Nat) (S : Int × Int × Int), w + d ≤ 21 → 1 ≤ w → 1 ≤ v → v ≤ 20 → WS S → WS (inF G d v w S) := by
    intro d
    induction d with
    | zero => intro v w S _ _ _ _ h; exact h
    | succ d ih =>
      intro v w S a1 a2 a3 a4 h
      show WS (inF G d v (w + 1) (wsp G S v w))
      refine ih v (w + 1) _ (by omega) (by omega) a3 a4 ?_
      have := hG v w
      unfold wsp
      split
      · right
        show 1 ≤ G v w ∧ G v w ≤ 999 ∧ 1 ≤ (v : Int) ∧ (v : Int) ≤ 20 ∧ 1 ≤ (w : Int) ∧ (w : Int) ≤ 20
        unfold WS at h
        omega
      · exact h
  intro d
  induction d with
  | zero => intro v S _ _ h; exact h
  | succ d ih =>
    intro v S a1 a2 h
    exact ih (v + 1) _ (by omega) (by omega) (hin B v 1 S (by omega) (by omega) a2 (by omega) h)
theorem arm19 : ps_arm19 Inv := by
  rintro k M x z w hk ⟨h, b, y, rfl, hR⟩
  obtain ⟨X, rfl, x1, x2⟩ := ex_ii x
  obtain ⟨Z, rfl, z1, z2⟩ := ex_ii z
  obtain ⟨W, rfl, w1, w2⟩ := ex_ii w
  have hLb := hR.1.1.1
  have hn := hR.1.1.2.1.2
  have minW : ∀ H : zM, f_X10_in (mk H b) ((ii W).toInt64) (0 : Int64) (2 : Int64) = some (ii (if 0 ≤ W ∧ W ≤ 2 then 1 else 0), mk H b) := fun H => by
    rw [ii_l64 w1 w2, show (2 : Int64) = l64 2 by decide, show (0 : Int64) = l64 0 by decide, in_mk (by omega) (by omega) (by omega) (by omega) (by omega) (by omega)]
  have winW : ∀ H : zM, f_X9_isWithin (mk H b) (ii W) (0 : Int32) (2 : Int32) = some (ii (if 0 ≤ W ∧ W ≤ 2 then 1 else 0), mk H b) := fun H => by
    rw [show (2 : Int32) = ii 2 by decide, show (0 : Int32) = ii 0 by decide, within_mk (by omega) (by omega) (by omega) (by omega) (by omega) (by omega)]
  obtain ⟨t, ft, hc⟩ := hasTwo_mk (h := h) (b := b) x1 x2 z1 z2 hR.1.1 hR.1.2.1.2.1
  -- the model's look at the two
  have mtwo : ∀ (H : zM) (α : Prop), Rel (891 * k) H y → f_X10_wishes (mk H b) 205 (ii X) (ii Z) (ii W) = (if ¬ (0 ≤ X ∧ X < y 0 1) ∨ ¬ (0 ≤ Z ∧ Z < y 0 1) ∨ X = Z then some (ii (-1000000001), mk H b) else if ¬ (0 ≤ W ∧ W ≤ 2) then some (ii (-1000000002), mk H b) else if y 0 0 = 0 then some (ii (-1000000003), mk H b) else f_X10_wishes_l59 ps_fu (mk H b) 205 (ii X) (ii Z) (ii W) (-1 : Int32) (99999999 : Int32) (0 : Int32)) := by
    intro H _ hRH
    unfold f_X10_wishes
    rw [ck_mk zk_205, isPerson_mk x1 x2 hRH.1.1 hRH.1.2.2.2.1, b2_mk]
    by_cases c1 : 0 ≤ X ∧ X < y 0 1
    · rw [if_pos c1, if_neg (by decide), ck_mk zk_205, isPerson_mk z1 z2 hRH.1.1 hRH.1.2.2.2.1, b2_mk]
      by_cases c2 : 0 ≤ Z ∧ Z < y 0 1
      · rw [if_pos c2, if_neg (by decide)]
        by_cases c3 : X = Z
        · rw [if_pos (by rw [c3]), if_pos (Or.inr (Or.inr c3))]
          rfl
        · rw [if_neg (by rw [ii_eq x1 x2 z1 z2]; exact c3), if_neg (by omega : ¬ (¬ (0 ≤ X ∧ X < y 0 1) ∨ ¬ (0 ≤ Z ∧ Z < y 0 1) ∨ X = Z)), minW, b2_mk]
          by_cases c4 : 0 ≤ W ∧ W ≤ 2
          · rw [if_pos c4, if_neg (by decide), if_neg (fun q => q c4 : ¬ ¬ (0 ≤ W ∧ W ≤ 2)), gI_mk zk_205, hRH.1.2.2.1]
            by_cases c5 : y 0 0 = 0
            · rw [c5, if_pos (by decide), if_pos rfl]
              rfl
            · rw [if_neg (by rw [ii_lits.1, ii_eq (by omega) (by omega) (by omega) (by omega)]; exact c5), if_neg c5]
          · rw [if_neg c4, if_pos (by decide), if_pos c4]
            rfl
      · rw [if_neg c2, if_pos (by decide), if_pos (Or.inr (Or.inl c2))]
        rfl
    · rw [if_neg c1, if_pos (by decide), if_pos (Or.inl c1)]
      rfl
  rcases hc with ⟨rfl, h2⟩ | ⟨rfl, h2⟩
  · have ntw : ¬ (¬ (0 ≤ X ∧ X < y 0 1) ∨ ¬ (0 ≤ Z ∧ Z < y 0 1) ∨ X = Z) := by obtain ⟨a, c, d⟩ := h2; omega
    by_cases cW : 0 ≤ W ∧ W ≤ 2
    · by_cases cL : y 0 0 = 0
      · refine eqv_of (r := ii (-1000000003)) (h1 := h) (h2 := h) (b1 := b) (b2 := b) ?_ ?_ (inv_of hR)
        · unfold f_X9_wishes
          rw [g0_0, ck_mk zk_1, ft, b2_mk, if_neg (by decide), winW, b2_mk, if_pos cW, if_neg (by decide), g0_0, gI_mk zk_1, hR.1.2.1.1, cL, if_pos (by decide)]
          rfl
        · show f_X10_wishes (mk h b) 205 (ii X) (ii Z) (ii W) = _
          rw [mtwo h True hR, if_neg ntw, if_neg (fun q => q cW), if_pos cL]
      · have hL : 0 < y 0 0 := by omega
        obtain ⟨p1, q1, pq⟩ := id h2
        have fx := (hR.1.1.2.2.2.2.2.2 X.toNat (by omega)).1
        have fz := (hR.1.1.2.2.2.2.2.2 Z.toNat (by omega)).1
        have ex := (hR.1.2.1.2.2.2.2.2.2 X.toNat (by omega)).1
        have ez := (hR.1.2.1.2.2.2.2.2.2 Z.toNat (by omega)).1
        obtain ⟨Fa, hFa⟩ : ∃ Fa : Nat, y 2 X.toNat = Fa := ⟨(y 2 X.toNat).toNat, by omega⟩
        obtain ⟨Fb, hFb⟩ : ∃ Fb : Nat, y 2 Z.toNat = Fb := ⟨(y 2 Z.toNat).toNat, by omega⟩
        have s0 : sv h (ps_uI (ps_uI (ps_uI h 175 0 (ii 1000)) 175 1 (ii (-1))) 175 2 (ii (-1))) := fun c k q => by rw [uI_o (by omega), uI_o (by omega), uI_o (by omega)]
        have r0 : r3 (ps_uI (ps_uI (ps_uI h 175 0 (ii 1000)) 175 1 (ii (-1))) 175 2 (ii (-1))) (1000, -1, -1) := ⟨by rw [uI_o (by omega), uI_o (by omega), uI_s], by rw [uI_o (by omega), uI_s], by rw [uI_s]⟩
        obtain ⟨h1, f1, s1, t1⟩ := ouF_c (b := b) (Fa := Fa) (Fb := Fb) hR (by omega) (by omega) hL h2 (by omega) (by omega) Fa 1 ps_fu _ (1000, -1, -1) (by omega) (by omega) (by unfold ps_fu; omega) s0 r0 (by decide)
        have hR1 := Rel_sc hR (sv_sc s1)
        obtain ⟨h3, f2, s2⟩ := lin_m (b := b) (W := W) hR1 (by omega) (by omega) hL h2 cW 400 0 ps_fu h1 (1000, -1, -1) (by omega) (by unfold ps_fu; omega) (sm_rf h1) (Or.inl rfl)
        have eG : omG y h1 X Z = omG y h X Z := by funext v w; unfold omG omr; rw [frs_sc (sv_sc s1)]
        rw [eG, lin_all (Fa := Fa) (Fb := Fb) (by omega) (by omega) (fun v w a c => by have := omG_min hR (by omega) hL h2 a c; rw [hFa, hFb] at this; simpa using this)] at f2
        have hWS := ouF_WS (G := omG y h X Z) (B := Fb) (by omega) (fun v w => omG_b hL h2 hn v w) Fa 1 (1000, -1, -1) (by omega) (by omega) (Or.inl rfl)
        generalize ouF (omG y h X Z) Fb Fa 1 (1000, -1, -1) = S at *
        have hSb : 1 ≤ S.1 ∧ S.1 ≤ 1000 := by unfold WS at hWS; omega
        refine eqv_of (r := ii (wan S W)) (h1 := h1) (h2 := h3) (b1 := b) (b2 := b) ?_ ?_ (inv_of (Rel_sc hR1 (sm_sc s2)))
        · unfold f_X9_wishes f_X6_findWishes
          have e20 : ∀ F : Nat, F ≤ 20 → (if ii (F : Int) < ii 20 then ii (F : Int) else ii 20) = ii (F : Int) := fun F hF => by rw [ii_min (by omega) (by omega) (by omega) (by omega)]; congr 1; omega
          have o3 : ∀ k, (ps_uI (ps_uI (ps_uI h 175 0 (ii 1000)) 175 1 (ii (-1))) 175 2 (ii (-1))) 3 k = h 3 k := fun k => by rw [uI_o (by omega), uI_o (by omega), uI_o (by omega)]
          rw [g0_0, ck_mk zk_1, ft, b2_mk, if_neg (by decide), winW, b2_mk, if_pos cW, if_neg (by decide), g0_0, gI_mk zk_1, hR.1.2.1.1, if_neg (by rw [ii_lits.1, ii_eq (by omega) (by omega) (by omega) (by omega)]; exact cL), g0_4, g0_0, g0_2, ck_mk zk_175, show (1000 : Int32) = ii 1000 by decide, show (-1 : Int32) = ii (-1) by decide, pI_mk zk_175, pI_mk zk_175, pI_mk zk_175, gR_mk zk_1 (zr_1_7 b), at_mk zk_3 p1.1 (by rw [zl_3]; omega) (by rw [zl_3]; omega), b2_mk, o3, ex, hFa, show (20 : Int32) = ii 20 by decide, e20 Fa (by omega), v_mk, gR_mk zk_1 (zr_1_7 b), at_mk zk_3 q1.1 (by rw [zl_3]; omega) (by rw [zl_3]; omega), b2_mk, o3, ez, hFb, e20 Fb (by omega), v_mk]
          rw [show f_X6_findWishes_l51 ps_fu (mk (ps_uI (ps_uI (ps_uI h 175 0 (ii 1000)) 175 1 (ii (-1))) 175 2 (ii (-1))) b) 175 1 18 (ii X) (ii Z) (ii (Fa : Int)) (ii (Fb : Int)) 1 = _ from f1, b1_mk, g0_4, gI_mk zk_175, t1.1]
          unfold wan f_X9_wishes_b108
          by_cases c0 : S.1 = 1000
          · rw [if_pos (by rw [c0]), if_pos c0]
          · rw [if_neg (by rw [ii_eq (by omega) (by omega) (by omega) (by omega)]; exact c0), if_neg c0]
            by_cases c1 : W = 0
            · rw [if_pos (by rw [c1]; decide), if_pos c1, g0_4, gI_mk zk_175, t1.1]
            · rw [if_neg (by rw [ii_lits.1, ii_eq (by omega) (by omega) (by omega) (by omega)]; exact c1), if_neg c1]
              by_cases c2 : W = 1
              · rw [if_pos (by rw [c2]; decide), if_pos c2, g0_4, gI_mk zk_175, t1.2.1]
              · rw [if_neg (by rw [show (1 : Int32) = ii 1 by decide, ii_eq (by omega) (by omega) (by omega) (by omega)]; exact c2), if_neg c2, g0_4, gI_mk zk_175, t1.2.2]
        · show f_X10_wishes (mk h1 b) 205 (ii X) (ii Z) (ii W) = _
          rw [mtwo h1 True hR1, if_neg ntw, if_neg (fun q => q cW), if_neg cL]
          exact f2
    · refine eqv_of (r := ii (-1000000002)) (h1 := h) (h2 := h) (b1 := b) (b2 := b) ?_ ?_ (inv_of hR)
      · unfold f_X9_wishes
        rw [g0_0, ck_mk zk_1, ft, b2_mk, if_neg (by decide), winW, b2_mk, if_neg cW, if_pos (by decide)]
        rfl
      · show f_X10_wishes (mk h b) 205 (ii X) (ii Z) (ii W) = _
        rw [mtwo h True hR, if_neg ntw, if_pos cW]
  · have ntw : ¬ (0 ≤ X ∧ X < y 0 1) ∨ ¬ (0 ≤ Z ∧ Z < y 0 1) ∨ X = Z := by unfold two at h2; omega
    refine eqv_of (r := ii (-1000000001)) (h1 := h) (h2 := h) (b1 := b) (b2 := b) ?_ ?_ (inv_of hR)
    · unfold f_X9_wishes
      rw [g0_0, ck_mk zk_1, ft, b2_mk, if_pos (by decide)]
      rfl
    · show f_X10_wishes (mk h b) 205 (ii X) (ii Z) (ii W) = _
      rw [mtwo h True hR, if_pos ntw]
