theorem rq_rs {r m : Nat → Int} {j : Nat} {v : Int} (h : rq r m) (hj : j ≠ 16 ∧ j ≠ 17 ∧ j ≠ 18) : rq (rs r j v) (rs m j v) := by
  obtain ⟨h1, h2⟩ := h
  have key : ∀ i, m i = r i → rs m j v i = rs r j v i := fun i hi => by unfold rs; rw [hi]
  refine ⟨fun i a c => key i (h1 i a c), fun p hp => ?_⟩
  rw [rs_ne r (j := 16) v (by omega), rs_ne r (j := 17) v (by omega)] at hp
  obtain ⟨c1, c2, c3, c4⟩ := h2 p hp
  exact ⟨key _ c1, key _ c2, key _ c3, key _ c4⟩
theorem Pr_rs {y : Nat → Nat → Int} {r : Nat → Int} {j : Nat} {v : Int} (h : Pr y r) (hj : j ≠ 16 ∧ j ≠ 17 ∧ j ≠ 18) : Pr y (rs r j v) := by
  unfold Pr at h ⊢
  rw [rs_ne r (j := 16) v (by omega), rs_ne r (j := 17) v (by omega), rs_ne r (j := 18) v (by omega)]
  exact h
theorem Tw_rs {y : Nat → Nat → Int} {g : Int} {r m : Nat → Int} {j : Nat} {v : Int} (h : Tw y g r m) (hn : y 0 1 ≤ 4) (h1 : j = 24 ∨ j < 4 ∨ (12 ≤ j ∧ j < 16) ∨ j = 23) (h3 : j = 23 → v = 0 ∨ v = 1) (h4 : j = 24 → 1 ≤ v ∧ v ≤ 9) (h5 : j < 4 → 1 ≤ v ∧ v ≤ 20) (h6 : 12 ≤ j ∧ j < 16 → 0 ≤ v ∧ v ≤ 9) : Tw y g (rs r j v) (rs m j v) :=
  ⟨Vb_rs (g := g) (g' := g) h.1 hn (by omega) (by omega) (fun a => by omega) h3 h4 h5 h6, Vb_rs (g := g) (g' := g) h.2.1 hn (by omega) (by omega) (fun a => by omega) h3 h4 h5 h6, Pr_rs h.2.2.1 (by omega), rq_rs h.2.2.2 (by omega)⟩
section
variable {h : zM} {b : Bool} {y : Nat → Nat → Int} {g : Int}
theorem far_nv {α : Type} {r : Nat → Int} {A : α} {B : Int32 → α} (hA : A = B (ii 1000)) : (if ii (fv (gon y 999 r 0)) = (99999999 : Int32) then A else B (ii (fv (gon y 999 r 0)))) = B (ii (nv (gon y 999 r 0))) := by
  cases ho : gon y 999 r 0 with
  | none => rw [show (99999999 : Int32) = ii 99999999 by decide, if_pos (by rfl), hA]; rfl
  | some n =>
    have := gon_b _ _ _ _ ho
    rw [show (99999999 : Int32) = ii 99999999 by decide, if_neg (by show ¬ ii (n : Int) = ii 99999999; rw [ii_eq (by omega) (by omega) (by omega) (by omega)]; omega)]
    rfl
/-- the row with a file's stroke -/
noncomputable def fld (h : zM) : Nat → Int := rs (wk h 18) 24 (min 9 (wk h 18 24 + 1))
theorem gain_c (hR : Rel g h y) (hg : g ≤ 80000000) (hL : 0 < y 0 0) (hp : Pr y (wk h 18)) : ∃ h1, f_X6_gainByFile (mk h b) 175 1 18 = some (ii (nv (gon y 999 (wk h 18) 0) - nv (gon y 999 (fld h) 0) - 20), mk h1 b) ∧ sw h h1 := by
  obtain ⟨h1, f1, s1⟩ := from_c (b := b) hR hg hL hp
  have hR1 := Rel_sc hR (sw_sc s1)
  have e18 := sc_wk (sw_sc s1)
  have hw := hR1.2.1.1.2.2.2.2.1
  obtain ⟨t1, t2⟩ := hR.2.1.1.2.2.2.2.2.1
  obtain ⟨o0, o1, o2, o3, o4, o5, o6, o7, o8⟩ := wk_or h1 18
  have ht := Tw_rs (v := min 9 (wk h 18 24 + 1)) (j := 24) (Tw_ok hR1.2.1 (by rw [e18]; exact hp)) hR.1.1.2.1.2 (by omega) (fun a => by omega) (fun a => by omega) (fun a => by omega) (fun a => by omega)
  rw [e18] at ht
  obtain ⟨H', r', f, o⟩ := strokes_mk (b := b) (N := 999) (H := h1) iw_176 (by omega) hR.1.1 hL (by omega) hR1.1.2.1 ht.1 ht.2.2.1 (by omega)
  refine ⟨putW H' 176 r', ?_, fun c k q => by rw [putW_o _ _ _ (by omega), o c k (by omega), s1 c k q]⟩
  unfold f_X6_gainByFile
  rw [ck_mk zk_175, f1, b2_mk, gR_mk zk_175 (zr_175_8 b), ck_mk iw_176.1, become_mk iw_176 iw_18 (by omega) hw, b1_mk, gR_mk zk_175 (zr_175_8 b), gI_mk iw_18.1, putW_o _ _ _ (by omega), o7, e18, show (1 : Int32) = ii 1 by decide, show (9 : Int32) = ii 9 by decide, ii_add, ii_min (by omega) (by omega) (by omega) (by omega), v_mk, pI_mk iw_176.1, (uI_w h1 176 _ _).2.2.2.2.2.2.2.1, gR_mk zk_175 (zr_175_8 b), ck_mk zk_175, show (999 : Int32) = ii ((999 : Nat) : Int) by decide, f, b2_mk, show (20 : Int32) = ii 20 by decide, ii_sub, ii_sub]
  rfl
theorem gain_m (hR : Rel g h y) (hg : g ≤ 80000000) (hp : Pr y (wk h 18)) (hw : ¬ wk h 18 16 = -1) : ∃ h1, f_X10_worthFile (mk h b) 205 = some (ii (nv (gon y 999 (wk h 18) 0) - nv (gon y 999 (fld h) 0) - 20), mk h1 b) ∧ sm h h1 := by
  obtain ⟨h1, f1, s1⟩ := now_m (b := b) hR hg hp
  have hR1 := Rel_sc hR (sm_sc s1)
  have e18 := sc_wk (sm_sc s1)
  obtain ⟨t1, t2⟩ := hR.2.1.1.2.2.2.2.2.1
  have hO := Tw_ok hR1.2.1 (by rw [e18]; exact hp)
  have ht := Tw_rs (v := min 9 (wk h 18 24 + 1)) (j := 24) hO hR.1.1.2.1.2 (by omega) (fun a => by omega) (fun a => by omega) (fun a => by omega) (fun a => by omega)
  have e24 := hO.2.2.2.1 24 (by omega) (by omega)
  rw [e18] at e24 ht
  have hs := mcp_sm h1
  have hYm : Ym (mcH h1) y := Ym_c hR1.1.2.2 (fun c k q => hs c k (by omega))
  obtain ⟨r', f⟩ := mgo_mk (b := b) (N := 999) (H := mcH h1) hR.1.1 hYm (by omega) ht.2.1 (rq_Pr ht.2.2.2 ht.2.2.1) (by omega)
  refine ⟨_, ?_, sm_tr s1 (putM_sm (m := r') hs)⟩
  have b47 : ∀ x : Int, wk h 18 24 + x = min 9 (wk h 18 24 + 1) → f_X10_worthFile_b47 (mk (putM (mcH h1) 28 (mrow h1 0)) b) 205 (ii (fv (gon y 999 (wk h 18) 0))) 206 (52 : Int32) (ii (wk h 18 24)) (ii x) = some (ii (nv (gon y 999 (wk h 18) 0) - nv (gon y 999 (fld h) 0) - 20), mk (putM (mcH h1) 28 r') b) := by
    intro x hx
    unfold f_X10_worthFile_b47
    rw [ii_add, hx, show (52 : Int32) = ii 52 by decide, wrM (j := 24) (by omega) (by omega) (by omega), ck_mk zk_205, show (999 : Int32) = ii ((999 : Nat) : Int) by decide, f, b2_mk]
    have e1 := far_nv (y := y) (r := wk h 18) (A := f_X10_worthFile_b70 (mk (putM (mcH h1) 28 r') b) (ii (fv (gon y 999 (rs (mrow h1 0) 24 (min 9 (wk h 18 24 + 1))) 0))) (1000 : Int32)) (B := fun z => f_X10_worthFile_b70 (mk (putM (mcH h1) 28 r') b) (ii (fv (gon y 999 (rs (mrow h1 0) 24 (min 9 (wk h 18 24 + 1))) 0))) z) rfl
    refine e1.trans ?_
    show f_X10_worthFile_b70 _ _ _ = _
    unfold f_X10_worthFile_b70
    rw [gon_tw hR.1.1 999 0 g _ _ ht]
    refine (far_nv (y := y) (A := f_X10_worthFile_b83 (mk (putM (mcH h1) 28 r') b) (ii (nv (gon y 999 (wk h 18) 0))) (1000 : Int32)) (B := fun z => f_X10_worthFile_b83 (mk (putM (mcH h1) 28 r') b) (ii (nv (gon y 999 (wk h 18) 0))) z) rfl).trans ?_
    show f_X10_worthFile_b83 _ _ _ = _
    unfold f_X10_worthFile_b83
    rw [show (20 : Int32) = ii 20 by decide, ii_sub, ii_sub]
    rfl
  unfold f_X10_worthFile
  rw [ck_mk zk_205, mpair hR.2.1 hR.1.1 (fun _ _ => rfl), b2_mk, if_neg hw, if_neg (by decide), ck_mk zk_205, f1, b2_mk, ck_mk zk_205, show (0 : Int32) = ii ((0 : Nat) : Int) by decide, show (28 : Int32) = ii ((28 : Nat) : Int) by decide, mcopy_mk (by omega) (by omega) (by omega), b1_mk, mcp_put h1, gW]
  conv => lhs; rw [show (52 : Int32) = ii 52 by decide]
  rw [rdM (j := 24) (by omega) (by omega) (by omega), gW, rdM (j := 24) (by omega) (by omega) (by omega), e24, show (9 : Int32) = ii 9 by decide, show ii 52 = (52 : Int32) by decide]
  by_cases c9 : 9 ≤ wk h 18 24
  · rw [if_pos (by rw [ii_le (by omega) (by omega) (by omega) (by omega)]; exact c9)]
    exact b47 0 (by omega)
  · rw [if_neg (by rw [ii_le (by omega) (by omega) (by omega) (by omega)]; exact c9)]
    exact b47 1 (by omega)
end
theorem arm25 : ps_arm25 Inv := by
  rintro k M hk ⟨h, b, y, rfl, hR⟩
  have hb := wk16_b hR.2.1 hR.1.1
  by_cases cp : wk h 18 16 = -1
  · refine eqv_of (r := ii (-1000000003)) (h1 := h) (h2 := h) (b1 := b) (b2 := b) ?_ ?_ (inv_of hR)
    · unfold f_X9_worthFile
      rw [g0_2, ck_mk iw_18.1, pair18 hR.2.1 hR.1.1, b2_mk, if_pos cp, if_pos (by decide)]
      rfl
    · show f_X10_worthFile (mk h b) 205 = _
      unfold f_X10_worthFile
      rw [ck_mk zk_205, mpair hR.2.1 hR.1.1 (fun _ _ => rfl), b2_mk, if_pos cp, if_pos (by decide)]
      rfl
  · obtain ⟨hL, hp⟩ := hb.2.2 cp
    obtain ⟨h1, f1, s1⟩ := gain_c (b := b) hR (by omega) hL hp
    have hR1 := Rel_sc hR (sw_sc s1)
    have e18 := sc_wk (sw_sc s1)
    obtain ⟨h2, f2, s2⟩ := gain_m (b := b) hR1 (by omega) (by rw [e18]; exact hp) (by rw [e18]; exact cp)
    rw [show fld h1 = fld h by unfold fld; rw [e18], e18] at f2
    refine eqv_of (h1 := h1) (h2 := h2) (b1 := b) (b2 := b) ?_ f2 (inv_of (Rel_sc hR1 (sm_sc s2)))
    unfold f_X9_worthFile
    rw [g0_2, ck_mk iw_18.1, pair18 hR.2.1 hR.1.1, b2_mk, if_neg cp, if_neg (by decide), g0_4, g0_0, g0_2, ck_mk zk_175, f1, b2_mk]
    rfl
/-! a quarrel -/
abbrev qq (r : Nat → Int) : Prop := r (8 + (r 16).toNat) = 9 ∨ r (8 + (r 16).toNat) = -9 ∨ r (8 + (r 17).toNat) = 9 ∨ r (8 + (r 17).toNat) = -9
def qst (y : Nat → Nat → Int) : Nat → (Nat → Int) → Nat → Int
  | 0, _, _ => -1
  | d + 1, r, i => if thr y r then -1 else if qq (plr y r) then i else qst y d (plr y r) (i + 1)
theorem qq_tw {y : Nat → Nat → Int} {g : Int} {r m : Nat → Int} (h : Tw y g r m) : qq m ↔ qq r := by
  obtain ⟨-, -, ⟨⟨p1, p2⟩, ⟨q1, q2⟩, -⟩, h1, h2⟩ := h
  unfold qq
  rw [h1 16 (by omega) (by omega), h1 17 (by omega) (by omega), (h2 (r 16).toNat (by omega)).2.2.1, (h2 (r 17).toNat (by omega)).2.2.1]
theorem qst_tw {y : Nat → Nat → Int} (hy : Yk y) : ∀ (d n : Nat) (g : Int) (r m : Nat → Int), Tw y g r m → qst y d m n = qst y d r n := by
  intro d
  induction d with
  | zero => intro n g r m h; rfl
  | succ d ih =>
    intro n g r m h
    unfold qst
    by_cases ht : thr y r
    · rw [if_pos ht, if_pos ((Tw_thr h).mpr ht)]
    · have h' := h.pull hy ht
      rw [if_neg ht, if_neg (fun q => ht ((Tw_thr h).mp q)), ih (n + 1) (g + 9) _ _ h']
      by_cases hq : qq (plr y r)
      · rw [if_pos hq, if_pos ((qq_tw h').mpr hq)]
      · rw [if_neg hq, if_neg (fun q => hq ((qq_tw h').mp q))]
section
variable {h : zM} {b : Bool} {y : Nat → Nat → Int} {g : Int} {a : Nat} {r : Nat → Int}
theorem hasq_mk (ha : isW a) (hy : Yk y) (hv : Vb y g r) (hp : Pr y r) : f_X7_hasQuarrel (mk (putW h a r) b) a = some (ii (if qq r then 1 else 0), mk (putW h a r) b) := by
  have hn := hy.2.1.2
  obtain ⟨⟨p1, p2⟩, ⟨q1, q2⟩, hne, hx⟩ := hp
  obtain ⟨k0, k1, k2, k3, k4, l1, l2, l3, l4, r9, r10, r11, r12, g1, g2, g3⟩ := ha
  obtain ⟨-, -, -, -, -, -, hvp⟩ := hv
  have v1 := (hvp (r 16).toNat (by omega)).2.2.1
  have v2 := (hvp (r 17).toNat (by omega)).2.2.1
  unfold f_X7_hasQuarrel
  rw [gR_mk k0 (r12 b), gI_mk k0, (putW_r _ _ _).1, at_mk k4 (by omega) (by omega) (by omega), b2_mk, putW_4 _ _ _ (by omega), show (0 : Int32) = ii 0 by decide, ii_abs (by omega) (by omega), v_mk, show (9 : Int32) = ii 9 by decide]
  unfold qq
  by_cases c1 : 9 ≤ ((r (8 + (r 16).toNat)).natAbs : Int)
  · rw [if_pos (by rw [ii_le (by omega) (by omega) (by omega) (by omega)]; exact c1), if_pos (by omega)]
    rfl
  · rw [if_neg (by rw [ii_le (by omega) (by omega) (by omega) (by omega)]; exact c1), gR_mk k0 (r12 b), gI_mk k0, (putW_r _ _ _).2.1, at_mk k4 (by omega) (by omega) (by omega), b2_mk, putW_4 _ _ _ (by omega), ii_abs (by omega) (by omega), v_mk]
    by_cases c2 : ((r (8 + (r 17).toNat)).natAbs : Int) < 9
    · rw [if_pos (by rw [ii_lt (by omega) (by omega) (by omega) (by omega)]; exact c2), if_neg (by omega)]
      rfl
    · rw [if_neg (by rw [ii_lt (by omega) (by omega) (by omega) (by omega)]; exact c2), if_pos (by omega)]
      rfl
theorem quarrel_c (hy : Yk y) (hYd : Yd h y) (hL : 0 < y 0 0) : ∀ (d i m : Nat) (g : Int) (r : Nat → Int), i + d = 100 → d < m → Vb y g r → Pr y r → g + 9 * d ≤ 100000000 → ∃ r', f_X6_quarrelStroke_l12 m (mk (putW h 176 r) b) 175 1 (ii i) = some (ii (qst y d r i), mk (putW h 176 r') b) := by
  intro d
  induction d with
  | zero =>
    intro i m g r hi hm hv hp hg
    obtain ⟨m', rfl⟩ : ∃ m', m = m' + 1 := ⟨m - 1, by omega⟩
    refine ⟨r, ?_⟩
    show f_X6_quarrelStroke_w12 (f_X6_quarrelStroke_l12 m') (mk (putW h 176 r) b) 175 1 (ii i) = _
    unfold f_X6_quarrelStroke_w12
    rw [show (99 : Int32) = ii 99 by decide, if_pos (by rw [ii_lt (by omega) (by omega) (by omega) (by omega)]; omega)]
    rfl
  | succ d ih =>
    intro i m g r hi hm hv hp hg
    obtain ⟨m', rfl⟩ : ∃ m', m = m' + 1 := ⟨m - 1, by omega⟩
    show ∃ r', f_X6_quarrelStroke_w12 (f_X6_quarrelStroke_l12 m') (mk (putW h 176 r) b) 175 1 (ii i) = _
    unfold f_X6_quarrelStroke_w12 qst
    rw [show (99 : Int32) = ii 99 by decide, if_neg (by rw [ii_lt (by omega) (by omega) (by omega) (by omega)]; omega), gR_mk zk_175 (zr_175_8 b), ck_mk iw_176.1, through_mk iw_176 hy hYd hv hL, b2_mk]
    by_cases ht : thr y r
    · refine ⟨r, ?_⟩
      rw [if_pos ht, if_neg (by decide), if_pos ht]
      rfl
    · have hv2 := plr_Vb hy hv hp ht
      have hp2 := (plr_Pr hy hp).1
      rw [if_neg ht, if_pos (by decide), gR_mk zk_175 (zr_175_8 b), ck_mk iw_176.1, once_mk iw_176 hy hYd hv (by omega) hp ht, b2_mk, gR_mk zk_175 (zr_175_8 b), ck_mk iw_176.1, hasq_mk iw_176 hy hv2 hp2, b2_mk, if_neg ht]
      by_cases hq : qq (plr y r)
      · refine ⟨plr y r, ?_⟩
        rw [if_pos hq, if_neg (by decide), if_pos hq]
      · rw [if_neg hq, if_pos (by decide), if_neg hq, show ii (i : Int) + 1 = ii ((i + 1 : Nat) : Int) by rw [ii_lits.2.1, ii_add]; rfl, v_mk]
        exact ih (i + 1) m' (g + 9) (plr y r) (by omega) (by omega) hv2 hp2 (by omega)
theorem mquarrels_mk {p : Nat} (hp : p < 4) (hv : -9 ≤ r (8 + p) ∧ r (8 + p) ≤ 9) : f_X10_quarrels (mk (putM h 28 r) b) 205 (ii (p : Int)) = some (ii (if r (8 + p) = 9 ∨ r (8 + p) = -9 then 1 else 0), mk (putM h 28 r) b) := by
  unfold f_X10_quarrels
  rw [gW, show (36 : Int32) = ii 36 by decide, ii_add, rdM (j := 8 + p) (by omega) (by omega) (by omega), show (9 : Int32) = ii 9 by decide, ii_neg]
  by_cases c1 : r (8 + p) = 9
  · rw [if_pos (by rw [c1]), if_pos (Or.inl c1)]
    rfl
  · rw [if_neg (by rw [ii_eq (by omega) (by omega) (by omega) (by omega)]; exact c1), gW, rdM (j := 8 + p) (by omega) (by omega) (by omega)]
    by_cases c2 : r (8 + p) = -9
    · rw [if_pos (by rw [c2]), if_pos (Or.inr c2)]
      rfl
    · rw [if_neg (by rw [ii_eq (by omega) (by omega) (by omega) (by omega)]; exact c2), if_neg (by omega)]
      rfl
theorem quarrel_m (hy : Yk y) (hYm : Ym h y) {P Q : Nat} : ∀ (d i m : Nat) (g : Int) (r : Nat → Int), i + d = 100 → d < m → Vb y g r → Pr y r → r 16 = P → r 17 = Q → g + 9 * d ≤ 100000000 → ∃ r', f_X10_quarrel_l24 m (mk (putM h 28 r) b) 205 (ii P) (ii Q) (ii i) = some (ii (qst y d r i), mk (putM h 28 r') b) := by
  have hn := hy.2.1.2
  intro d
  induction d with
  | zero =>
    intro i m g r hi hm hv hp e16 e17 hg
    obtain ⟨m', rfl⟩ : ∃ m', m = m' + 1 := ⟨m - 1, by omega⟩
    refine ⟨r, ?_⟩
    show f_X10_quarrel_w24 (f_X10_quarrel_l24 m') (mk (putM h 28 r) b) 205 (ii P) (ii Q) (ii i) = _
    unfold f_X10_quarrel_w24
    rw [show (100 : Int32) = ii 100 by decide, if_pos (by rw [ii_le (by omega) (by omega) (by omega) (by omega)]; omega)]
    rfl
  | succ d ih =>
    intro i m g r hi hm hv hp e16 e17 hg
    obtain ⟨m', rfl⟩ : ∃ m', m = m' + 1 := ⟨m - 1, by omega⟩
    show ∃ r', f_X10_quarrel_w24 (f_X10_quarrel_l24 m') (mk (putM h 28 r) b) 205 (ii P) (ii Q) (ii i) = _
    unfold f_X10_quarrel_w24 qst
    rw [show (100 : Int32) = ii 100 by decide, if_neg (by rw [ii_le (by omega) (by omega) (by omega) (by omega)]; omega), ck_mk zk_205, show (28 : Int32) = ii ((28 : Nat) : Int) by decide, mthrough_mk hy hYm hv (by omega), b2_mk]
    by_cases ht : thr y r
    · refine ⟨r, ?_⟩
      rw [if_pos ht, if_neg (by decide), if_pos ht]
      rfl
    · have hv2 := plr_Vb hy hv hp ht
      obtain ⟨hp2, a16, a17, -⟩ := plr_Pr hy hp
      obtain ⟨⟨p1, p2⟩, ⟨q1, q2⟩, -⟩ := id hp
      have v1 := (hv2.2.2.2.2.2.2 P (by omega)).2.2.1
      have v2 := (hv2.2.2.2.2.2.2 Q (by omega)).2.2.1
      have eqq : qq (plr y r) ↔ ((plr y r (8 + P) = 9 ∨ plr y r (8 + P) = -9) ∨ (plr y r (8 + Q) = 9 ∨ plr y r (8 + Q) = -9)) := by
        unfold qq
        rw [a16, a17, e16, e17, Int.toNat_natCast, Int.toNat_natCast]
        omega
      rw [if_neg ht, if_pos (by decide), ck_mk zk_205, mpull_mk hy hYm hv (by omega) (by omega) hp ht, b2_mk, ck_mk zk_205, mquarrels_mk (by omega) v1, b2_mk, if_neg ht]
      by_cases hq1 : plr y r (8 + P) = 9 ∨ plr y r (8 + P) = -9
      · refine ⟨plr y r, ?_⟩
        rw [if_pos hq1, if_neg (by decide), if_pos (eqq.mpr (Or.inl hq1))]
        rfl
      · rw [if_neg hq1, if_pos (by decide), ck_mk zk_205, mquarrels_mk (by omega) v2, b2_mk]
        by_cases hq2 : plr y r (8 + Q) = 9 ∨ plr y r (8 + Q) = -9
        · refine ⟨plr y r, ?_⟩
          rw [if_pos hq2, if_neg (by decide), if_pos (eqq.mpr (Or.inr hq2))]
          rfl
        · rw [if_neg hq2, if_pos (by decide), if_neg (fun q => (eqq.mp q).elim hq1 hq2 : ¬ qq (plr y r)), show ii (i : Int) + 1 = ii ((i + 1 : Nat) : Int) by rw [ii_lits.2.1, ii_add]; rfl, v_mk]
          exact ih (i + 1) m' (g + 9) (plr y r) (by omega) (by omega) hv2 hp2 (by rw [a16, e16]) (by rw [a17, e17]) (by omega)
end
theorem arm20 : ps_arm20 Inv := by
  rintro k M x z hk ⟨h, b, y, rfl, hR⟩
  obtain ⟨X, rfl, x1, x2⟩ := ex_ii x
  obtain ⟨Z, rfl, z1, z2⟩ := ex_ii z
  obtain ⟨t, ft, hc⟩ := refTwo (b := b) hR.1 x1 x2 z1 z2
  have hc0 := hc
  have fail : ∀ t : Int, t < 0 → -2147483648 ≤ t → f_X9_refusalOfTwo (mk h b) 0 (ii X) (ii Z) = some (ii t, mk h b) → ((t = -1000000001 ∧ ¬ two y X Z) ∨ (t = -1000000003 ∧ two y X Z ∧ y 0 0 = 0) ∨ (t = 0 ∧ two y X Z ∧ 0 < y 0 0)) → ps_eqv Inv k (mk h b) (f_X9_quarrel (mk h b) 0 (ii X) (ii Z)) (fun M => f_X10_quarrel M 205 (ii X) (ii Z)) := by
    intro t ht0 ht1 ft hc
    refine eqv_of (r := ii t) (h1 := h) (h2 := h) (b1 := b) (b2 := b) ?_ ?_ (inv_of hR)
    · unfold f_X9_quarrel
      rw [ck_mk zk_0, ft, b2_mk, if_neg (by rw [ii_lits.1, ii_eq (by omega) (by omega) (by omega) (by omega)]; omega)]
      rfl
    · show f_X10_quarrel (mk h b) 205 (ii X) (ii Z) = _
      unfold f_X10_quarrel
      rw [ck_mk zk_205, mrefTwo hR.1 x1 x2 z1 z2 hc, b2_mk, if_neg (by rw [ii_lits.1, ii_le (by omega) (by omega) (by omega) (by omega)]; omega), ck_mk zk_205, mrefTwo hR.1 x1 x2 z1 z2 hc, b2_mk]
  rcases hc with ⟨rfl, c⟩ | ⟨rfl, c, c0⟩ | ⟨rfl, h2, hL⟩
  · exact fail _ (by omega) (by omega) ft hc0
  · exact fail _ (by omega) (by omega) ft hc0
  · have hTw := frs_tw hR (by omega) h2 hL
    obtain ⟨r', f1⟩ := quarrel_c (b := b) hR.1.1 hR.1.2.1 hL 99 1 ps_fu _ (frs h X Z) (by omega) (by unfold ps_fu; omega) hTw.1 hTw.2.2.1 (by omega)
    have s1 : sc h (putW h 176 r') := fun c k q => by rw [putW_o _ _ _ (by omega)]
    have hR1 := Rel_sc hR s1
    generalize hH : putW h 176 r' = h1 at *
    have hTw1 := frs_tw hR1 (by omega) h2 hL
    rw [frs_sc s1] at hTw1
    have hs := mcp_sm h1
    have hYm : Ym (mcH h1) y := Ym_c hR1.1.2.2 (fun c k q => hs c k (by omega))
    obtain ⟨P, hP⟩ : ∃ P : Nat, X = P := ⟨X.toNat, by have := h2.1; omega⟩
    obtain ⟨Q, hQ⟩ : ∃ Q : Nat, Z = Q := ⟨Z.toNat, by have := h2.2.1; omega⟩
    have e16 : frm y (mrow h1 0) X Z 16 = P := by
      rw [hTw1.2.2.2.1 16 (by omega) (by omega), ← hP]
      unfold frs rcp
      rw [if_neg (by omega)]
      simp [nlog]
    have e17 : frm y (mrow h1 0) X Z 17 = Q := by
      rw [hTw1.2.2.2.1 17 (by omega) (by omega), ← hQ]
      unfold frs rcp
      rw [if_neg (by omega)]
      simp [nlog]
    obtain ⟨m', f2⟩ := quarrel_m (b := b) (h := mcH h1) hR.1.1 hYm 99 1 ps_fu _ (frm y (mrow h1 0) X Z) (by omega) (by unfold ps_fu; omega) hTw1.2.1 (rq_Pr hTw1.2.2.2 hTw1.2.2.1) e16 e17 (by omega)
    rw [qst_tw hR.1.1 99 1 _ _ _ hTw1, ← hP, ← hQ] at f2
    refine eqv_of (r := ii (qst y 99 (frs h X Z) 1)) (h1 := h1) (h2 := putM (mcH h1) 28 m') (b1 := b) (b2 := b) ?_ ?_ (inv_of (Rel_sc hR1 (sm_sc (putM_sm hs))))
    · unfold f_X9_quarrel f_X6_quarrelStroke
      rw [ck_mk zk_0, ft, b2_mk, if_pos (by decide), g0_4, g0_0, g0_2, ck_mk zk_175, ck_mk zk_175, begin_c hR, b1_mk, show (1 : Int32) = ii ((1 : Nat) : Int) by decide, f1, b2_mk]
      rfl
    · show f_X10_quarrel (mk h1 b) 205 (ii X) (ii Z) = _
      unfold f_X10_quarrel
      rw [ck_mk zk_205, mrefTwo hR1.1 x1 x2 z1 z2 hc0, b2_mk, if_pos (by decide), ck_mk zk_205, begin_m hR1 h2, b1_mk, show (1 : Int32) = ii ((1 : Nat) : Int) by decide, f2]
