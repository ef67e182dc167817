/-! what tries leave behind, and how they begin -/
def sw (h h1 : zM) : Prop := ∀ c k, ¬ ((c = 175 ∧ 4 ≤ k ∧ k < 8) ∨ (176 ≤ c ∧ c ≤ 180)) → h1 c k = h c k
def sm (h h1 : zM) : Prop := ∀ c k, ¬ (c = 206 ∧ 28 ≤ k ∧ k < 56) → h1 c k = h c k
def sc (h h1 : zM) : Prop := ∀ c k, ¬ ((11 ≤ c ∧ c ≤ 17) ∨ (175 ≤ c ∧ c ≤ 188) ∨ (c = 206 ∧ 28 ≤ k ∧ k < 56) ∨ (215 ≤ c ∧ c ≤ 218)) → h1 c k = h c k
theorem sw_sc {h h1 : zM} (s : sw h h1) : sc h h1 := fun c k q => s c k (by omega)
theorem sm_sc {h h1 : zM} (s : sm h h1) : sc h h1 := fun c k q => s c k (by omega)
theorem sw_tr {h h1 h2 : zM} (s : sw h h1) (t : sw h1 h2) : sw h h2 := fun c k q => (t c k q).trans (s c k q)
theorem sm_tr {h h1 h2 : zM} (s : sm h h1) (t : sm h1 h2) : sm h h2 := fun c k q => (t c k q).trans (s c k q)
theorem sc_tr {h h1 h2 : zM} (s : sc h h1) (t : sc h1 h2) : sc h h2 := fun c k q => (t c k q).trans (s c k q)
theorem sc_rf (h : zM) : sc h h := fun _ _ _ => rfl
theorem sm_rf (h : zM) : sm h h := fun _ _ _ => rfl
theorem sw_rf (h : zM) : sw h h := fun _ _ _ => rfl
theorem Rel_sc {h h1 : zM} {y : Nat → Nat → Int} {g : Int} (hR : Rel g h y) (s : sc h h1) : Rel g h1 y := Rel_c hR (fun c k q => s c k (by omega))
theorem sc_wk {h h1 : zM} (s : sc h h1) : wk h1 18 = wk h 18 := wk_c (fun c k _ _ => s c k (by omega))
def mcH (h : zM) : zM := mcp h 0 28 28
theorem mcp_put (h : zM) : mcp h 0 28 28 = putM (mcH h) 28 (mrow h 0) := by
  funext c k
  unfold mcH putM
  by_cases hc : c = 206 ∧ 28 ≤ k ∧ k < 28 + 25
  · rw [if_pos hc]
    unfold mcp mrow
    rw [if_pos ⟨hc.1, by omega, by omega⟩, ii_toInt, Nat.add_comm]
  · rw [if_neg hc]
theorem putM_sm {H h : zM} {m : Nat → Int} (hH : sm h H) : sm h (putM H 28 m) := fun c k q => by rw [putM_o _ _ (by omega), hH c k q]
theorem mcp_sm (h : zM) : sm h (mcH h) := fun c k q => by unfold mcH mcp; rw [if_neg (by omega)]
/-- a fresh log's row -/
noncomputable def frs (h : zM) (p q : Int) : Nat → Int := rcp (nlog (wk h 18) p q) 0 (fun k => (h 3 k).toInt)
def frm (y : Nat → Nat → Int) (m : Nat → Int) (p q : Int) : Nat → Int := rs (rs (nlog m p q) p.toNat (y 2 p.toNat)) q.toNat (y 2 q.toNat)
theorem frs_sc {h h1 : zM} (s : sc h h1) (p q : Int) : frs h1 p q = frs h p q := by
  unfold frs
  rw [sc_wk s]
  congr 1
  funext k
  rw [s 3 k (by omega)]
section
variable {h : zM} {b : Bool} {y : Nat → Nat → Int} {g : Int}
theorem frs_tw {p q : Int} (hR : Rel g h y) (hg : 0 ≤ g) (h2 : two y p q) (hL : 0 < y 0 0) : Tw y g (frs h p q) (frm y (mrow h 0) p q) := by
  obtain ⟨⟨hy, hYd, hYm⟩, hN, -⟩ := hR
  obtain ⟨hp, hq, hne⟩ := h2
  have hn := hy.2.1.2
  have hO := Ok.log hy hN hg hL hp hq hne
  have hvm := req_Vb hO.2.2 hO.1
  have f2 : ∀ p' : Nat, (p' : Int) < y 0 1 → (h 3 p').toInt = y 2 p' := fun p' hp' => by
    rw [(hYd.2.2.2.2.2.2 p' hp').1]
    have := (hy.2.2.2.2.2.2 p' hp').1
    exact toInt_ii (by omega) (by omega)
  have lo : ∀ j, j < 4 → frs h p q j = (h 3 j).toInt := fun j hj => by unfold frs rcp; rw [if_pos (by omega)]; rfl
  have hi : ∀ j, 4 ≤ j → frs h p q j = nlog (wk h 18) p q j := fun j hj => by unfold frs rcp; rw [if_neg (by omega)]
  have n16 : nlog (wk h 18) p q 16 = p := by simp [nlog]
  have n17 : nlog (wk h 18) p q 17 = q := by simp [nlog]
  have n18 : nlog (wk h 18) p q 18 = p := by simp [nlog]
  refine ⟨?_, ?_, ?_, ?_⟩
  · obtain ⟨v1, v2, v3, v4, v5, v6, v7⟩ := hO.1
    refine ⟨by rw [hi 19 (by omega)]; exact v1, by rw [hi 20 (by omega)]; exact v2, by rw [hi 21 (by omega)]; exact v3, by rw [hi 22 (by omega)]; exact v4, by rw [hi 23 (by omega)]; exact v5, by rw [hi 24 (by omega)]; exact v6, fun p' hp' => ?_⟩
    obtain ⟨w1, w2, w3, w4⟩ := v7 p' hp'
    rw [lo p' (by omega), f2 p' hp', hi (4 + p') (by omega), hi (8 + p') (by omega), hi (12 + p') (by omega)]
    exact ⟨(hy.2.2.2.2.2.2 p' hp').1, w2, w3, w4⟩
  · unfold frm
    have e1 := (hy.2.2.2.2.2.2 p.toNat (by omega)).1
    have e2 := (hy.2.2.2.2.2.2 q.toNat (by omega)).1
    exact Vb_rs (g := g) (g' := g) (Vb_rs (g := g) (g' := g) hvm hn (by omega) (by omega) (fun a => by omega) (fun a => by omega) (fun a => by omega) (fun _ => e1) (fun a => by omega)) hn (by omega) (by omega) (fun a => by omega) (fun a => by omega) (fun a => by omega) (fun _ => e2) (fun a => by omega)
  · unfold Pr
    rw [hi 16 (by omega), hi 17 (by omega), hi 18 (by omega), n16, n17, n18]
    exact ⟨hp, hq, hne, Or.inl rfl⟩
  · have o : ∀ j, 4 ≤ j → frm y (mrow h 0) p q j = nlog (mrow h 0) p q j := fun j hj => by unfold frm; rw [rs_ne _ _ (by omega), rs_ne _ _ (by omega)]
    obtain ⟨r1, r2⟩ := hO.2.2
    refine ⟨fun j a c => by rw [o j (by omega), hi j (by omega)]; exact r1 j a c, fun p' hp' => ?_⟩
    rw [hi 16 (by omega), hi 17 (by omega), n16, n17] at hp'
    have hlt : (p' : Int) < y 0 1 := by omega
    obtain ⟨c1, c2, c3, c4⟩ := r2 p' hlt
    refine ⟨?_, by rw [o _ (by omega), hi _ (by omega), c2], by rw [o _ (by omega), hi _ (by omega), c3], by rw [o _ (by omega), hi _ (by omega), c4]⟩
    rw [lo p' (by omega), f2 p' hlt]
    unfold frm
    by_cases hpq : p' = q.toNat
    · rw [hpq, rs_same]
    · rw [rs_ne _ _ hpq, show p' = p.toNat by omega, rs_same]
theorem begin_c {p q : Int} (hR : Rel g h y) : f_X6_begin (mk h b) 175 1 18 (ii p) (ii q) = some (mk (putW h 176 (frs h p q)) b) := by
  have hw := hR.2.1.1.2.2.2.2.1
  unfold f_X6_begin
  rw [gR_mk zk_175 (zr_175_8 b), ck_mk iw_176.1, become_mk iw_176 iw_18 (by omega) hw, b1_mk, gR_mk zk_175 (zr_175_8 b), ck_mk iw_176.1, startLog_mk iw_176, b1_mk, gR_mk zk_1 (zr_1_7 b), gR_mk zk_175 (zr_175_8 b), gR_mk iw_176.1 (iw_176.2.2.2.2.2.2.2.2.2.1 b), copy_mk (c1 := 3) (c2 := 176 + 1) (n := 4) (by omega) zk_3 iw_176.2.1 zl_3 iw_176.2.2.2.2.2.1 (by omega), b1_mk, (cpy_W h 176 _ (c1 := 3) (by omega)).1]
  rfl
theorem begin_m {p q : Int} (hR : Rel g h y) (h2 : two y p q) : f_X10_beginFresh (mk h b) 205 (ii p) (ii q) = some (mk (putM (mcH h) 28 (frm y (mrow h 0) p q)) b) := by
  obtain ⟨⟨hy, hYd, hYm⟩, hN, -⟩ := hR
  obtain ⟨hp, hq, hne⟩ := h2
  have hn := hy.2.1.2
  have hs := mcp_sm h
  have e9 : ∀ p' : Nat, (p' : Int) < y 0 1 → mcH h 209 p' = ii (y 2 p') := fun p' hp' => by rw [hs 209 p' (by omega)]; exact (hYm.2.2.2.2.2.2 p' hp').1
  unfold f_X10_beginFresh
  rw [ck_mk zk_205, show (0 : Int32) = ii ((0 : Nat) : Int) by decide, show (28 : Int32) = ii ((28 : Nat) : Int) by decide, mcopy_mk (by omega) (by omega) (by omega), b1_mk, ck_mk zk_205, mcp_put h, mbegin_mk (by omega), b1_mk, gW, gR_mk zk_205 (zr_205_15 b), rdY zk_209 (by omega) hp.1 (by rw [zl_209]; omega) (by rw [zl_209]; omega), e9 p.toNat (by omega), ii_add, wrM (j := p.toNat) (by omega) (by omega) (by omega), gW, gR_mk zk_205 (zr_205_15 b), rdY zk_209 (by omega) hq.1 (by rw [zl_209]; omega) (by rw [zl_209]; omega), e9 q.toNat (by omega), ii_add, wrM (j := q.toNat) (by omega) (by omega) (by omega)]
  rfl
theorem from_c (hR : Rel g h y) (hg : g ≤ 80000000) (hL : 0 < y 0 0) (hp : Pr y (wk h 18)) : ∃ h1, f_X6_strokesFrom (mk h b) 175 1 18 = some (ii (nv (gon y 999 (wk h 18) 0)), mk h1 b) ∧ sw h h1 := by
  have hw := hR.2.1.1.2.2.2.2.1
  obtain ⟨H', r', f, o⟩ := strokes_mk (b := b) (N := 999) (H := h) iw_176 (by omega) hR.1.1 hL (by omega) hR.1.2.1 hR.2.1.1 hp (by omega)
  refine ⟨putW H' 176 r', ?_, fun c k q => by rw [putW_o _ _ _ (by omega), o c k (by omega)]⟩
  unfold f_X6_strokesFrom
  rw [gR_mk zk_175 (zr_175_8 b), ck_mk iw_176.1, become_mk iw_176 iw_18 (by omega) hw, b1_mk, gR_mk zk_175 (zr_175_8 b), ck_mk zk_175, show (999 : Int32) = ii ((999 : Nat) : Int) by decide, f, b2_mk]
theorem fresh_c {p q : Int} (hR : Rel g h y) (hg0 : 0 ≤ g) (hg : g ≤ 80000000) (hL : 0 < y 0 0) (h2 : two y p q) : ∃ h1, f_X6_strokesFresh (mk h b) 175 1 18 (ii p) (ii q) = some (ii (nv (gon y 999 (frs h p q) 0)), mk h1 b) ∧ sw h h1 := by
  have ht := frs_tw hR hg0 h2 hL
  obtain ⟨H', r', f, o⟩ := strokes_mk (b := b) (N := 999) (H := h) iw_176 (by omega) hR.1.1 hL (by omega) hR.1.2.1 ht.1 ht.2.2.1 (by omega)
  refine ⟨putW H' 176 r', ?_, fun c k q => by rw [putW_o _ _ _ (by omega), o c k (by omega)]⟩
  unfold f_X6_strokesFresh
  rw [ck_mk zk_175, begin_c hR, b1_mk, gR_mk zk_175 (zr_175_8 b), ck_mk zk_175, show (999 : Int32) = ii ((999 : Nat) : Int) by decide, f, b2_mk]
theorem now_m (hR : Rel g h y) (hg : g ≤ 80000000) (hp : Pr y (wk h 18)) : ∃ h1, f_X10_goOnNow (mk h b) 205 = some (ii (fv (gon y 999 (wk h 18) 0)), mk h1 b) ∧ sm h h1 := by
  have hO := hR.2.1
  have hs := mcp_sm h
  have hYm : Ym (mcH h) y := Ym_c hR.1.2.2 (fun c k q => hs c k (by omega))
  have ht := Tw_ok hO hp
  obtain ⟨r', f⟩ := mgo_mk (b := b) (N := 999) (H := mcH h) hR.1.1 hYm (by omega) ht.2.1 (rq_Pr ht.2.2.2 hp) (by omega)
  refine ⟨_, ?_, putM_sm (m := r') hs⟩
  unfold f_X10_goOnNow
  rw [ck_mk zk_205, show (0 : Int32) = ii ((0 : Nat) : Int) by decide, show (28 : Int32) = ii ((28 : Nat) : Int) by decide, mcopy_mk (by omega) (by omega) (by omega), b1_mk, ck_mk zk_205, mcp_put h, show (999 : Int32) = ii ((999 : Nat) : Int) by decide, f, b2_mk, gon_tw hR.1.1 999 0 g _ _ ht]
theorem fresh_m {p q : Int} (hR : Rel g h y) (hg0 : 0 ≤ g) (hg : g ≤ 80000000) (hL : 0 < y 0 0) (h2 : two y p q) : ∃ h1, f_X10_freshOf (mk h b) 205 (ii p) (ii q) = some (ii (fv (gon y 999 (frs h p q) 0)), mk h1 b) ∧ sm h h1 := by
  have ht := frs_tw hR hg0 h2 hL
  have hs := mcp_sm h
  have hYm : Ym (mcH h) y := Ym_c hR.1.2.2 (fun c k q => hs c k (by omega))
  obtain ⟨r', f⟩ := mgo_mk (b := b) (N := 999) (H := mcH h) hR.1.1 hYm (by omega) ht.2.1 (rq_Pr ht.2.2.2 ht.2.2.1) (by omega)
  refine ⟨_, ?_, putM_sm (m := r') hs⟩
  unfold f_X10_freshOf
  rw [ck_mk zk_205, begin_m hR h2, b1_mk, ck_mk zk_205, show (999 : Int32) = ii ((999 : Nat) : Int) by decide, f, b2_mk, gon_tw hR.1.1 999 0 g _ _ ht]
theorem mrefTwo {p q t : Int} (hRY : RY h y) (x1 : -2147483648 ≤ p) (x2 : p < 2147483648) (z1 : -2147483648 ≤ q) (z2 : q < 2147483648) (hc : (t = -1000000001 ∧ ¬ two y p q) ∨ (t = -1000000003 ∧ two y p q ∧ y 0 0 = 0) ∨ (t = 0 ∧ two y p q ∧ 0 < y 0 0)) : f_X10_refusedTwo (mk h b) 205 (ii p) (ii q) = some (ii t, mk h b) := by
  obtain ⟨hy, hYd, hYm⟩ := hRY
  have hL := hy.1
  unfold f_X10_refusedTwo
  rw [ck_mk zk_205, isPerson_mk x1 x2 hy hYm.2.1, b2_mk]
  unfold two at hc
  by_cases c1 : 0 ≤ p ∧ p < y 0 1
  · rw [if_pos c1, if_neg (by decide), ck_mk zk_205, isPerson_mk z1 z2 hy hYm.2.1, b2_mk]
    by_cases c2 : 0 ≤ q ∧ q < y 0 1
    · rw [if_pos c2, if_neg (by decide)]
      by_cases c3 : p = q
      · rw [if_pos (by rw [c3]), show t = -1000000001 by omega]
        rfl
      · rw [if_neg (by rw [ii_eq x1 x2 z1 z2]; exact c3), gI_mk zk_205, hYm.1]
        by_cases c0 : y 0 0 = 0
        · rw [c0, if_pos (by decide), show t = -1000000003 by omega]
          rfl
        · rw [if_neg (by rw [ii_lits.1, ii_eq (by omega) (by omega) (by omega) (by omega)]; exact c0), show t = 0 by omega]
          rfl
    · rw [if_neg c2, if_pos (by decide), show t = -1000000001 by omega]
      rfl
  · rw [if_neg c1, if_pos (by decide), show t = -1000000001 by omega]
    rfl
def tv (o : Option Nat) : Int := match o with | none => -1 | some n => n
theorem never_mk {M : ps_M} {r : Nat → Int} : f_X9_noneIfNever M (ii (nv (gon y 999 r 0))) = some (ii (tv (gon y 999 r 0)), M) := by
  unfold f_X9_noneIfNever
  cases ho : gon y 999 r 0 with
  | none => rw [show (1000 : Int32) = ii 1000 by decide, if_pos (by rfl)]; rfl
  | some n =>
    have := gon_b _ _ _ _ ho
    rw [show (1000 : Int32) = ii 1000 by decide, if_neg (by show ¬ ii (n : Int) = ii 1000; rw [ii_eq (by omega) (by omega) (by omega) (by omega)]; omega)]
    rfl
theorem far_mk {α : Type} {r : Nat → Int} {A : α} {B : Int32 → α} (hA : A = B (ii (-1))) : (if ii (fv (gon y 999 r 0)) = (99999999 : Int32) then A else B (ii (fv (gon y 999 r 0)))) = B (ii (tv (gon y 999 r 0))) := by
  cases ho : gon y 999 r 0 with
  | none => rw [show (99999999 : Int32) = ii 99999999 by decide, if_pos (by rfl), hA]; rfl
  | some n =>
    have := gon_b _ _ _ _ ho
    rw [show (99999999 : Int32) = ii 99999999 by decide, if_neg (by show ¬ ii (n : Int) = ii 99999999; rw [ii_eq (by omega) (by omega) (by omega) (by omega)]; omega)]
    rfl
end
theorem arm17 : ps_arm17 Inv := by
  rintro k M hk ⟨h, b, y, rfl, hR⟩
  have hb := wk16_b hR.2.1 hR.1.1
  by_cases cp : wk h 18 16 = -1
  · refine eqv_of (r := ii (-1000000003)) (h1 := h) (h2 := h) (b1 := b) (b2 := b) ?_ ?_ (inv_of hR)
    · unfold f_X9_toGo
      rw [g0_2, ck_mk iw_18.1, pair18 hR.2.1 hR.1.1, b2_mk, if_pos cp, if_pos (by decide)]
      rfl
    · show f_X10_toGo (mk h b) 205 = _
      unfold f_X10_toGo
      rw [ck_mk zk_205, mpair hR.2.1 hR.1.1 (fun _ _ => rfl), b2_mk, if_pos cp, if_pos (by decide)]
      rfl
  · obtain ⟨hL, hp⟩ := hb.2.2 cp
    obtain ⟨h1, f1, s1⟩ := from_c (b := b) hR (by omega) hL hp
    have hR1 := Rel_sc hR (sw_sc s1)
    have e18 := sc_wk (sw_sc s1)
    obtain ⟨h2, f2, s2⟩ := now_m (b := b) hR1 (by omega) (by rw [e18]; exact hp)
    rw [e18] at f2
    refine eqv_of (r := ii (tv (gon y 999 (wk h 18) 0))) (h1 := h1) (h2 := h2) (b1 := b) (b2 := b) ?_ ?_ (inv_of (Rel_sc hR1 (sm_sc s2)))
    · unfold f_X9_toGo
      rw [g0_2, ck_mk iw_18.1, pair18 hR.2.1 hR.1.1, b2_mk, if_neg cp, if_neg (by decide), g0_4, g0_0, g0_2, ck_mk zk_175, f1, b2_mk, never_mk, b2_mk]
      rfl
    · show f_X10_toGo (mk h1 b) 205 = _
      unfold f_X10_toGo
      rw [ck_mk zk_205, mpair hR1.2.1 hR1.1.1 (fun _ _ => rfl), b2_mk, if_neg (by rw [e18]; exact cp : ¬ wk h1 18 16 = -1), if_neg (by decide), ck_mk zk_205, f2, b2_mk]
      exact far_mk (A := f_X10_toGo_b26 (mk h2 b) (-1)) (B := fun z => f_X10_toGo_b26 (mk h2 b) z) rfl
theorem arm18 : ps_arm18 Inv := by
  rintro k M x z hk ⟨h, b, y, rfl, hR⟩
  obtain ⟨X, rfl, x1, x2⟩ := ex_ii x
  obtain ⟨Z, rfl, z1, z2⟩ := ex_ii z
  obtain ⟨t, ft, hc⟩ := refTwo (b := b) hR.1 x1 x2 z1 z2
  have hc0 := hc
  have fail : ∀ t : Int, t < 0 → -2147483648 ≤ t → f_X9_refusalOfTwo (mk h b) 0 (ii X) (ii Z) = some (ii t, mk h b) → ((t = -1000000001 ∧ ¬ two y X Z) ∨ (t = -1000000003 ∧ two y X Z ∧ y 0 0 = 0) ∨ (t = 0 ∧ two y X Z ∧ 0 < y 0 0)) → ps_eqv Inv k (mk h b) (f_X9_fresh (mk h b) 0 (ii X) (ii Z)) (fun M => f_X10_fresh M 205 (ii X) (ii Z)) := by
    intro t ht0 ht1 ft hc
    refine eqv_of (r := ii t) (h1 := h) (h2 := h) (b1 := b) (b2 := b) ?_ ?_ (inv_of hR)
    · unfold f_X9_fresh
      rw [ck_mk zk_0, ft, b2_mk, if_neg (by rw [ii_lits.1, ii_eq (by omega) (by omega) (by omega) (by omega)]; omega)]
      rfl
    · show f_X10_fresh (mk h b) 205 (ii X) (ii Z) = _
      unfold f_X10_fresh
      rw [ck_mk zk_205, mrefTwo hR.1 x1 x2 z1 z2 hc, b2_mk, if_neg (by rw [ii_lits.1, ii_le (by omega) (by omega) (by omega) (by omega)]; omega), ck_mk zk_205, mrefTwo hR.1 x1 x2 z1 z2 hc, b2_mk]
  rcases hc with ⟨rfl, c⟩ | ⟨rfl, c, c0⟩ | ⟨rfl, h2, hL⟩
  · exact fail _ (by omega) (by omega) ft hc0
  · exact fail _ (by omega) (by omega) ft hc0
  · obtain ⟨h1, f1, s1⟩ := fresh_c (b := b) hR (by omega) (by omega) hL h2
    have hR1 := Rel_sc hR (sw_sc s1)
    obtain ⟨h3, f2, s2⟩ := fresh_m (b := b) hR1 (by omega) (by omega) hL h2
    rw [frs_sc (sw_sc s1)] at f2
    refine eqv_of (r := ii (tv (gon y 999 (frs h X Z) 0))) (h1 := h1) (h2 := h3) (b1 := b) (b2 := b) ?_ ?_ (inv_of (Rel_sc hR1 (sm_sc s2)))
    · unfold f_X9_fresh
      rw [ck_mk zk_0, ft, b2_mk, if_pos (by decide), g0_4, g0_0, g0_2, ck_mk zk_175, f1, b2_mk, never_mk, b2_mk]
      rfl
    · show f_X10_fresh (mk h1 b) 205 (ii X) (ii Z) = _
      unfold f_X10_fresh
      rw [ck_mk zk_205, mrefTwo hR1.1 x1 x2 z1 z2 hc0, b2_mk, if_pos (by decide), ck_mk zk_205, f2, b2_mk]
      exact far_mk (A := f_X10_fresh_b34 (mk h3 b) (-1)) (B := fun z => f_X10_fresh_b34 (mk h3 b) z) rfl
