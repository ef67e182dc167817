/-! when to wedge -/
def pl (y : Nat → Nat → Int) : Nat → (Nat → Int) → Nat → Int
  | 0, r => r
  | k + 1, r => if thr y (pl y k r) then pl y k r else plr y (pl y k r)
theorem pl_stop {y : Nat → Nat → Int} {r : Nat → Int} {i : Nat} (h : thr y (pl y i r)) : ∀ d, pl y (i + d) r = pl y i r := by
  intro d
  induction d with
  | zero => rfl
  | succ d ih =>
    show (if thr y (pl y (i + d) r) then pl y (i + d) r else plr y (pl y (i + d) r)) = _
    rw [ih, if_pos h]
theorem pl_tw {y : Nat → Nat → Int} (hy : Yk y) {g : Int} {r m : Nat → Int} (h : Tw y g r m) : ∀ k : Nat, Tw y (g + 9 * k) (pl y k r) (pl y k m) := by
  intro k
  induction k with
  | zero => exact Tw_up h (by omega)
  | succ k ih =>
    show Tw y _ (if thr y (pl y k r) then pl y k r else plr y (pl y k r)) (if thr y (pl y k m) then pl y k m else plr y (pl y k m))
    by_cases ht : thr y (pl y k r)
    · rw [if_pos ht, if_pos ((Tw_thr ih).mpr ht)]
      exact Tw_up ih (by omega)
    · rw [if_neg ht, if_neg (fun q => ht ((Tw_thr ih).mp q))]
      exact Tw_up (ih.pull hy ht) (by omega)
theorem Tw_req {y : Nat → Nat → Int} {g : Int} {r r' : Nat → Int} (hv : Vb y g r) (hp : Pr y r) (h : req y r r') : Tw y g r r' := by
  refine ⟨hv, req_Vb h hv, hp, h.1, fun p q => ?_⟩
  obtain ⟨⟨p1, p2⟩, ⟨q1, q2⟩, -⟩ := hp
  exact h.2 p (by omega)
theorem Tw_rf {y : Nat → Nat → Int} {g : Int} {r : Nat → Int} (hv : Vb y g r) (hp : Pr y r) : Tw y g r r := Tw_req hv hp ⟨fun _ _ _ => rfl, fun _ _ => ⟨rfl, rfl, rfl, rfl⟩⟩
/-- what a Work's cells hold of a row -/
theorem req_wk {y : Nat → Nat → Int} {g : Int} {r : Nat → Int} (hy : Yk y) (hv : Vb y g r) (hp : Pr y r) (hL : 0 < y 0 0) (hg : g ≤ 100000000) (H : zM) (a : Nat) : req y r (wk (putW H a r) a) := by
  obtain ⟨h1, h2⟩ := rel_b (m := r) ⟨hv, Or.inr ⟨hL, hp⟩, fun _ _ _ => rfl, fun _ _ => ⟨rfl, rfl, rfl, rfl⟩⟩ hy hg
  have hn := hy.2.1.2
  refine ⟨fun j a c => by rw [wk_put _ _ _ j c, h1 j a c], fun p hp => ?_⟩
  obtain ⟨c1, c2, c3, c4⟩ := h2 p hp
  exact ⟨by rw [wk_put _ _ _ _ (by omega), c1], by rw [wk_put _ _ _ _ (by omega), c2], by rw [wk_put _ _ _ _ (by omega), c3], by rw [wk_put _ _ _ _ (by omega), c4]⟩
def wv (y : Nat → Nat → Int) (r : Nat → Int) (k : Nat) : Option Nat := gon y (999 - k) (rs (pl y k r) 23 1) 0
def wed (y : Nat → Nat → Int) (r : Nat → Int) : Nat → Nat → Int × Int → Int × Int
  | 0, _, S => S
  | d + 1, k, S => if thr y (pl y k r) then S else wed y r d (k + 1) (if k + nv (wv y r k) + 3 < S.2 then ((k : Int), k + nv (wv y r k) + 3) else S)
theorem wed_thr {y : Nat → Nat → Int} {r : Nat → Int} {k d : Nat} {S : Int × Int} (h : thr y (pl y k r)) : wed y r d k S = S := by
  cases d with
  | zero => rfl
  | succ d => unfold wed; rw [if_pos h]
theorem nvN_b {y : Nat → Nat → Int} {N : Nat} (r : Nat → Int) (hN : N ≤ 999) : (gon y N r 0 = none ∧ nv (gon y N r 0) = 1000 ∧ fv (gon y N r 0) = 99999999) ∨ (0 ≤ nv (gon y N r 0) ∧ nv (gon y N r 0) ≤ N ∧ fv (gon y N r 0) = nv (gon y N r 0)) := by
  cases ho : gon y N r 0 with
  | none => exact Or.inl ⟨rfl, rfl, rfl⟩
  | some n => have := gon_b _ _ _ _ ho; right; show 0 ≤ (n : Int) ∧ (n : Int) ≤ N ∧ (n : Int) = n; omega
/-- the states of the search -/
def WD (S : Int × Int) : Prop := 0 ≤ S.2 ∧ S.2 ≤ 1003 ∧ (S.1 = -1 ∨ (0 ≤ S.1 ∧ S.1 ≤ 99 ∧ S.2 ≤ 1002))
def fm (v : Int) : Int := if v = 1003 then 99999999 else v
section
variable {h : zM} {b : Bool} {y : Nat → Nat → Int} {g : Int} {r : Nat → Int}
theorem wedge_c (hy : Yk y) (hYd : Yd h y) (hL : 0 < y 0 0) (hv : Vb y g r) (hp : Pr y r) (hg : g ≤ 80000000) : ∀ (d k m : Nat) (H : zM) (S : Int × Int), k + d = 100 → d < m → sv h H → H 175 0 = ii S.2 → WD S → ∃ h1, f_X6_findWedge_l56 m (mk (putW H 176 (pl y k r)) b) 175 1 (ii S.1) (ii k) = some (ii (wed y r d k S).1, mk h1 b) ∧ sv h h1 ∧ h1 175 0 = ii (wed y r d k S).2 ∧ WD (wed y r d k S) := by
  intro d
  induction d with
  | zero =>
    intro k m H S hk hm hs h0 hW
    obtain ⟨m', rfl⟩ : ∃ m', m = m' + 1 := ⟨m - 1, by omega⟩
    refine ⟨putW H 176 (pl y k r), ?_, fun c k q => by rw [putW_o _ _ _ (by omega), hs c k q], by rw [putW_o _ _ _ (by omega), h0]; rfl, hW⟩
    show f_X6_findWedge_w56 (f_X6_findWedge_l56 m') (mk (putW H 176 (pl y k r)) b) 175 1 (ii S.1) (ii k) = _
    unfold f_X6_findWedge_w56
    rw [show (99 : Int32) = ii 99 by decide, if_pos (by rw [ii_lt (by omega) (by omega) (by omega) (by omega)]; omega)]
    rfl
  | succ d ih =>
    intro k m H S hk hm hs h0 hW
    obtain ⟨m', rfl⟩ : ∃ m', m = m' + 1 := ⟨m - 1, by omega⟩
    show ∃ h1, f_X6_findWedge_w56 (f_X6_findWedge_l56 m') (mk (putW H 176 (pl y k r)) b) 175 1 (ii S.1) (ii k) = _ ∧ _
    have hYdH : Yd H y := Yd_c hYd (fun c k _ _ => hs c k (by omega))
    have hT := pl_tw hy (Tw_rf hv hp) k
    have hvk := hT.1
    have hpk := hT.2.2.1
    unfold f_X6_findWedge_w56 wed
    rw [show (99 : Int32) = ii 99 by decide, if_neg (by rw [ii_lt (by omega) (by omega) (by omega) (by omega)]; omega), gR_mk zk_175 (zr_175_8 b), ck_mk iw_176.1, through_mk iw_176 hy hYdH hvk hL, b2_mk]
    by_cases ht : thr y (pl y k r)
    · refine ⟨putW H 176 (pl y k r), ?_, fun c k q => by rw [putW_o _ _ _ (by omega), hs c k q], by rw [putW_o _ _ _ (by omega), h0, if_pos ht], by rw [if_pos ht]; exact hW⟩
      rw [if_pos ht, if_neg (by decide), if_pos ht]
      rfl
    · have hreq := req_wk hy hvk hpk hL (by omega) H 176
      have hT1 := Tw_rs (j := 23) (v := 1) (Tw_req hvk hpk hreq) hy.2.1.2 (by omega) (fun _ => Or.inr rfl) (fun a => by omega) (fun a => by omega) (fun a => by omega)
      have hwk8 : wk (putW H 176 (pl y k r)) 176 23 = 0 ∨ wk (putW H 176 (pl y k r)) 176 23 = 1 := (req_Vb hreq hvk).2.2.2.2.1
      have hYd2 : Yd (putW H 176 (pl y k r)) y := Yd_c hYdH (fun c k _ _ => putW_o _ _ _ (by omega) k)
      obtain ⟨H', r', f, o⟩ := strokes_mk (b := b) (N := 999 - k) (H := putW H 176 (pl y k r)) iw_181 (by omega) hy hL (by omega) hYd2 hT1.2.1 (rq_Pr hT1.2.2.2 hT1.2.2.1) (by omega)
      rw [gon_tw hy (999 - k) 0 _ _ _ hT1] at f
      have eb := nvN_b (y := y) (N := 999 - k) (rs (pl y k r) 23 1) (by omega)
      have hWd := hW
      obtain ⟨w1, w2, w3⟩ := hW
      have e9 : (999 : Int32) - ii (k : Int) = ii ((999 - k : Nat) : Int) := by rw [show (999 : Int32) = ii 999 by decide, ii_sub]; congr 1; omega
      -- the memory behind the tries
      generalize hF : putW H' 181 r' = F at f
      have oF : ∀ c j, ¬ (c = 175 ∧ 4 ≤ j ∧ j < 8) → ¬ (181 ≤ c ∧ c ≤ 185) → F c j = putW H 176 (pl y k r) c j := fun c j q1 q2 => by rw [← hF, putW_o _ _ _ (by omega), o c j q1]
      have sF : sv h F := fun c k q => by rw [oF c k (by omega) (by omega), putW_o _ _ _ (by omega), hs c k q]
      have eF : ∀ F' : zM, (∀ c k, c ≠ 175 → F' c k = F c k) → putW F' 176 (pl y k r) = F' := fun F' hF' => putW_self (fun c k' hi => by
        have hi' := hi
        unfold inW at hi'
        rw [hF' c k' (by omega), oF c k' (by omega) (by omega), putW_in _ _ _ hi])
      have f0 : F 175 0 = ii S.2 := by rw [oF 175 0 (by omega) (by omega), putW_o _ _ _ (by omega), h0]
      rw [if_neg ht, if_pos (by decide), gR_mk zk_175 (zr_175_9 b), gR_mk zk_175 (zr_175_8 b), ck_mk iw_181.1, become_mk iw_181 iw_176 (by omega) hwk8, b1_mk, gR_mk zk_175 (zr_175_9 b), show (1 : Int32) = ii 1 by decide, pZ_mk iw_181.1 (Or.inr (by decide)), (uI_w _ 181 _ _).2.2.2.2.2.2.2.2, gR_mk zk_175 (zr_175_9 b), ck_mk zk_175, e9, f, b2_mk, show (3 : Int32) = ii 3 by decide, ii_add, ii_add, v_mk, gI_mk zk_175, f0, if_neg ht]
      -- a stroke of the one that goes on
      have nxt : ∀ (F' : zM) (S' : Int × Int), (∀ c k, ¬ (c = 175 ∧ k = 0) → F' c k = F c k) → F' 175 0 = ii S'.2 → WD S' → ∃ h1, f_X6_findWedge_b133 (f_X6_findWedge_l56 m') (mk F' b) 175 1 (ii S'.1) (ii (k : Int)) = some (ii (wed y r d (k + 1) S').1, mk h1 b) ∧ sv h h1 ∧ h1 175 0 = ii (wed y r d (k + 1) S').2 ∧ WD (wed y r d (k + 1) S') := by
        intro F' S' hF' h0' hW'
        have sF' : sv h F' := fun c k q => by rw [hF' c k (by omega), sF c k q]
        have hYdF : Yd F' y := Yd_c hYd (fun c k _ _ => sF' c k (by omega))
        have e := eF F' (fun c k q => hF' c k (by omega))
        have hpl : pl y (k + 1) r = plr y (pl y k r) := by
          show (if thr y (pl y k r) then pl y k r else plr y (pl y k r)) = _
          rw [if_neg ht]
        obtain ⟨h1, f1, s1⟩ := ih (k + 1) m' F' S' (by omega) (by omega) sF' h0' hW'
        rw [hpl] at f1
        refine ⟨h1, ?_, s1⟩
        unfold f_X6_findWedge_b133
        rw [← e, gR_mk zk_175 (zr_175_8 b), ck_mk iw_176.1, once_mk iw_176 hy hYdF hvk (by omega) hpk ht, b2_mk, suc_ii, v_mk]
        exact f1
      show ∃ h1, (if ii S.2 ≤ ii (k + nv (wv y r k) + 3) then _ else _) = _ ∧ _
      have eb' : (0 ≤ nv (wv y r k) ∧ nv (wv y r k) ≤ 1000) := by unfold wv; omega
      by_cases hc : S.2 ≤ k + nv (wv y r k) + 3
      · rw [if_pos (by rw [ii_le (by omega) (by omega) (by omega) (by omega)]; exact hc), if_neg (by omega : ¬ (k + nv (wv y r k) + 3 < S.2))]
        exact nxt F S (fun _ _ _ => rfl) f0 hWd
      · rw [if_neg (by rw [ii_le (by omega) (by omega) (by omega) (by omega)]; exact hc), if_pos (by omega : k + nv (wv y r k) + 3 < S.2), pI_mk zk_175]
        exact nxt _ ((k : Int), k + nv (wv y r k) + 3) (fun c k q => uI_o q) (uI_s ..) ⟨by show 0 ≤ (k : Int) + nv (wv y r k) + 3; omega, by show (k : Int) + nv (wv y r k) + 3 ≤ 1003; omega, Or.inr ⟨by show 0 ≤ (k : Int); omega, by show (k : Int) ≤ 99; omega, by show (k : Int) + nv (wv y r k) + 3 ≤ 1002; omega⟩⟩
theorem wpull_m {H : zM} {m0 : Nat → Int} {X x3 x4 : Int32} (hy : Yk y) (hYm : Ym H y) (hv : Vb y g m0) (hp : Pr y m0) (hg : g ≤ 80000000) (k36 : ps_M → Nat → Int32 → Int32 → Int32 → Int32 → Option (Int32 × ps_M)) : ∀ (d i m k : Nat), i + d = k → k ≤ 100 → d < m → f_X10_whenWedge_l63 k36 m (mk (putM H 28 (pl y i m0)) b) 205 X x3 x4 (ii (k : Int)) (ii (i : Int)) = f_X10_whenWedge_b93 k36 (mk (putM H 28 (pl y k m0)) b) 205 X x3 x4 (ii (k : Int)) := by
  intro d
  induction d with
  | zero =>
    intro i m k hi hk hm
    obtain ⟨m', rfl⟩ : ∃ m', m = m' + 1 := ⟨m - 1, by omega⟩
    have : i = k := by omega
    subst this
    show f_X10_whenWedge_w63 k36 (f_X10_whenWedge_l63 k36 m') (mk (putM H 28 (pl y i m0)) b) 205 X x3 x4 (ii (i : Int)) (ii (i : Int)) = _
    unfold f_X10_whenWedge_w63
    rw [if_pos (by rw [ii_le (by omega) (by omega) (by omega) (by omega)]; omega)]
  | succ d ih =>
    intro i m k hi hk hm
    obtain ⟨m', rfl⟩ : ∃ m', m = m' + 1 := ⟨m - 1, by omega⟩
    have hT := pl_tw hy (Tw_rf hv hp) i
    show f_X10_whenWedge_w63 k36 (f_X10_whenWedge_l63 k36 m') (mk (putM H 28 (pl y i m0)) b) 205 X x3 x4 (ii (k : Int)) (ii (i : Int)) = _
    unfold f_X10_whenWedge_w63
    rw [if_neg (by rw [ii_le (by omega) (by omega) (by omega) (by omega)]; omega), ck_mk zk_205, show (28 : Int32) = ii ((28 : Nat) : Int) by decide, mthrough_mk hy hYm hT.1 (by omega), b2_mk]
    by_cases ht : thr y (pl y i m0)
    · rw [if_pos ht, if_neg (by decide), show k = i + (d + 1) by omega, pl_stop ht]
    · have hpl : plr y (pl y i m0) = pl y (i + 1) m0 := by
        show _ = (if thr y (pl y i m0) then pl y i m0 else plr y (pl y i m0))
        rw [if_neg ht]
      rw [if_neg ht, if_pos (by decide), ck_mk zk_205, mpull_mk hy hYm hT.1 (by omega) (by omega) hT.2.2.1 ht, b2_mk, suc_ii, v_mk, hpl]
      exact ih (i + 1) m' k (by omega) hk (by omega)
theorem wedge_m {X : Int} (hR : Rel g h y) (hg : g ≤ 70000000) (hL : 0 < y 0 0) (hp : Pr y (wk h 18)) (h23 : wk h 18 23 = 0) : ∀ (d k m : Nat) (h' : zM) (S : Int × Int), k + d = 100 → d < m → sm h h' → WD S → ∃ h1, f_X10_whenWedge_l36 m (mk h' b) 205 (ii X) (ii S.1) (ii (fm S.2)) (ii (k : Int)) = f_X10_whenWedge_b163 (mk h1 b) (ii X) (ii (wed y (wk h 18) d k S).1) (ii (fm (wed y (wk h 18) d k S).2)) ∧ sm h h1 := by
  have hy := hR.1.1
  intro d
  induction d with
  | zero =>
    intro k m h' S hk hm hs hW
    obtain ⟨m', rfl⟩ : ∃ m', m = m' + 1 := ⟨m - 1, by omega⟩
    refine ⟨h', ?_, hs⟩
    show f_X10_whenWedge_w36 (f_X10_whenWedge_l36 m') (mk h' b) 205 (ii X) (ii S.1) (ii (fm S.2)) (ii (k : Int)) = _
    unfold f_X10_whenWedge_w36
    rw [show (100 : Int32) = ii 100 by decide, if_pos (by rw [ii_le (by omega) (by omega) (by omega) (by omega)]; omega)]
    rfl
  | succ d ih =>
    intro k m h' S hk hm hs hW
    obtain ⟨m', rfl⟩ : ∃ m', m = m' + 1 := ⟨m - 1, by omega⟩
    show ∃ h1, f_X10_whenWedge_w36 (f_X10_whenWedge_l36 m') (mk h' b) 205 (ii X) (ii S.1) (ii (fm S.2)) (ii (k : Int)) = _ ∧ _
    have hR' := Rel_sc hR (sm_sc hs)
    have e18 := sc_wk (sm_sc hs)
    have hT0 := Tw_ok hR'.2.1 (by rw [e18]; exact hp)
    rw [e18] at hT0
    have e23 : h' 206 23 = ii 0 := by
      have := hT0.2.2.2.1 23 (by omega) (by omega)
      rw [h23] at this
      rw [← this]
      unfold mrow
      rw [ii_toInt]
    have hms := mcp_sm h'
    have hYm : Ym (mcH h') y := Ym_c hR'.1.2.2 (fun c k q => hms c k (by omega))
    have hT := pl_tw hy hT0 k
    have hpm := rq_Pr hT0.2.2.2 hT0.2.2.1
    have hpmk := rq_Pr hT.2.2.2 hT.2.2.1
    unfold f_X10_whenWedge_w36 wed
    rw [show (100 : Int32) = ii 100 by decide, if_neg (by rw [ii_le (by omega) (by omega) (by omega) (by omega)]; omega), gW, show (23 : Int32) = ii 23 by decide, aI_mk zk_206 (by omega) (by rw [zl_206]; omega) (by rw [zl_206]; omega), show (23 : Int).toNat = 23 from rfl, e23, if_pos (by decide), ck_mk zk_205, show (0 : Int32) = ii ((0 : Nat) : Int) by decide, show (28 : Int32) = ii ((28 : Nat) : Int) by decide, mcopy_mk (by omega) (by omega) (by omega), b1_mk, mcp_put h']
    have hwp := wpull_m (b := b) (X := ii X) (x3 := ii S.1) (x4 := ii (fm S.2)) hy hYm hT0.2.1 hpm (by omega) (f_X10_whenWedge_l36 m') k 0 ps_fu k (by omega) (by omega) (by unfold ps_fu; omega)
    rw [show f_X10_whenWedge_l63 (f_X10_whenWedge_l36 m') ps_fu (mk (putM (mcH h') 28 (mrow h' 0)) b) 205 (ii X) (ii S.1) (ii (fm S.2)) (ii (k : Int)) (ii ((0 : Nat) : Int)) = _ from hwp]
    have s1 : ∀ rr, sm h (putM (mcH h') 28 rr) := fun rr => sm_tr hs (putM_sm hms)
    have fmb : 0 ≤ fm S.2 ∧ fm S.2 ≤ 99999999 := by have := hW.1; have := hW.2.1; unfold fm; split <;> omega
    unfold f_X10_whenWedge_b93
    rw [ck_mk zk_205, show (28 : Int32) = ii ((28 : Nat) : Int) by decide, mthrough_mk hy hYm hT.2.1 (by omega), b2_mk]
    by_cases ht : thr y (pl y k (wk h 18))
    · have ht1 : thr y (pl y (k + 1) (wk h 18)) := by rw [pl_stop ht 1]; exact ht
      obtain ⟨h1, f1, s2⟩ := ih (k + 1) m' _ S (by omega) (by omega) (s1 (pl y k (mrow h' 0))) hW
      rw [wed_thr ht1] at f1
      refine ⟨h1, ?_, s2⟩
      rw [if_pos ((Tw_thr hT).mpr ht), if_neg (by decide), if_pos ht]
      unfold f_X10_whenWedge_b157
      rw [suc_ii, v_mk]
      exact f1
    · have hT1 := Tw_rs (j := 23) (v := 1) hT hy.2.1.2 (by omega) (fun _ => Or.inr rfl) (fun a => by omega) (fun a => by omega) (fun a => by omega)
      obtain ⟨r', f⟩ := mgo_mk (b := b) (N := 999 - k) (H := mcH h') hy hYm (by omega) hT1.2.1 (rq_Pr hT1.2.2.2 hT1.2.2.1) (by omega)
      rw [gon_tw hy (999 - k) 0 _ _ _ hT1] at f
      have e9 : (999 : Int32) - ii (k : Int) = ii ((999 - k : Nat) : Int) := by rw [show (999 : Int32) = ii 999 by decide, ii_sub]; congr 1; omega
      have eb := nvN_b (y := y) (N := 999 - k) (rs (pl y k (wk h 18)) 23 1) (by omega)
      rw [if_neg (fun q => ht ((Tw_thr hT).mp q)), if_pos (by decide), gW, show (51 : Int32) = ii 51 by decide, show (1 : Int32) = ii 1 by decide, wrM (j := 23) (by omega) (by omega) (by omega), ck_mk zk_205, e9, f, b2_mk, if_neg ht]
      have b141 : ∀ v : Int, 0 ≤ v ∧ v ≤ 99999999 → ((v < fm S.2) ↔ ((k : Int) + nv (wv y (wk h 18) k) + 3 < S.2)) → (v < fm S.2 → v = (k : Int) + nv (wv y (wk h 18) k) + 3 ∧ v ≤ 1002) → ∃ h1, f_X10_whenWedge_b141 (f_X10_whenWedge_l36 m') (mk (putM (mcH h') 28 r') b) 205 (ii X) (ii S.1) (ii (fm S.2)) (ii (k : Int)) (ii v) = f_X10_whenWedge_b163 (mk h1 b) (ii X) (ii (wed y (wk h 18) d (k + 1) (if (k : Int) + nv (wv y (wk h 18) k) + 3 < S.2 then ((k : Int), (k : Int) + nv (wv y (wk h 18) k) + 3) else S)).1) (ii (fm (wed y (wk h 18) d (k + 1) (if (k : Int) + nv (wv y (wk h 18) k) + 3 < S.2 then ((k : Int), (k : Int) + nv (wv y (wk h 18) k) + 3) else S)).2)) ∧ sm h h1 := by
        intro v hvb hiff hval
        unfold f_X10_whenWedge_b141 f_X10_whenWedge_b157
        rw [suc_ii, v_mk]
        by_cases hc : fm S.2 ≤ v
        · rw [if_pos (by rw [ii_le (by omega) (by omega) (by omega) (by omega)]; exact hc), if_neg (fun q => by have := hiff.mpr q; omega)]
          exact ih (k + 1) m' _ S (by omega) (by omega) (s1 r') hW
        · rw [if_neg (by rw [ii_le (by omega) (by omega) (by omega) (by omega)]; exact hc), if_pos (hiff.mp (by omega)), v_mk]
          obtain ⟨hv1, hv2⟩ := hval (by omega)
          have hW' : WD ((k : Int), (k : Int) + nv (wv y (wk h 18) k) + 3) := ⟨by show 0 ≤ (k : Int) + nv (wv y (wk h 18) k) + 3; omega, by show (k : Int) + nv (wv y (wk h 18) k) + 3 ≤ 1003; omega, Or.inr ⟨by show 0 ≤ (k : Int); omega, by show (k : Int) ≤ 99; omega, by show (k : Int) + nv (wv y (wk h 18) k) + 3 ≤ 1002; omega⟩⟩
          have := ih (k + 1) m' _ _ (by omega) (by omega) (s1 r') hW'
          rw [show fm ((k : Int), (k : Int) + nv (wv y (wk h 18) k) + 3).2 = v by show fm ((k : Int) + nv (wv y (wk h 18) k) + 3) = v; unfold fm; rw [if_neg (by omega)]; omega] at this
          exact this
      have hS := hW.1
      have hS2 := hW.2.1
      have wve : wv y (wk h 18) k = gon y (999 - k) (rs (pl y k (wk h 18)) 23 1) 0 := rfl
      rcases eb with ⟨e1, e2, e3⟩ | ⟨e1, e2, e3⟩
      · rw [e3, show (99999999 : Int32) = ii 99999999 by decide, if_pos rfl]
        exact b141 99999999 (by omega) (by rw [wve, e2]; unfold fm; split <;> omega) (fun q => by omega)
      · rw [e3, show (99999999 : Int32) = ii 99999999 by decide, if_neg (by rw [ii_eq (by omega) (by omega) (by omega) (by omega)]; omega), show (3 : Int32) = ii 3 by decide, ii_add, ii_add]
        exact b141 _ (by omega) (by rw [wve]; unfold fm; split <;> omega) (fun q => by rw [wve]; omega)
end
theorem arm23 : ps_arm23 Inv := by
  rintro k M x hk ⟨h, b, y, rfl, hR⟩
  obtain ⟨X, rfl, x1, x2⟩ := ex_ii x
  have hb := wk16_b hR.2.1 hR.1.1
  have min_ : ∀ H : zM, f_X10_in (mk H b) ((ii X).toInt64) (0 : Int64) (1 : Int64) = some (ii (if 0 ≤ X ∧ X ≤ 1 then 1 else 0), mk H b) := fun H => by
    rw [ii_l64 x1 x2, show (1 : Int64) = l64 1 by decide, show (0 : Int64) = l64 0 by decide, in_mk (by omega) (by omega) (by omega) (by omega) (by omega) (by omega)]
  have win_ : ∀ H : zM, f_X9_isWithin (mk H b) (ii X) (0 : Int32) (1 : Int32) = some (ii (if 0 ≤ X ∧ X ≤ 1 then 1 else 0), mk H b) := fun H => by
    rw [show (1 : Int32) = ii 1 by decide, show (0 : Int32) = ii 0 by decide, within_mk (by omega) (by omega) (by omega) (by omega) (by omega) (by omega)]
  by_cases c : 0 ≤ X ∧ X ≤ 1
  · by_cases cp : wk h 18 16 = -1
    · refine eqv_of (r := ii (-1000000003)) (h1 := h) (h2 := h) (b1 := b) (b2 := b) ?_ ?_ (inv_of hR)
      · unfold f_X9_whenWedge
        rw [win_, b2_mk, if_pos c, if_neg (by decide), g0_2, ck_mk iw_18.1, pair18 hR.2.1 hR.1.1, b2_mk, if_pos cp, if_pos (by decide)]
        rfl
      · show f_X10_whenWedge (mk h b) 205 (ii X) = _
        unfold f_X10_whenWedge
        rw [min_, b2_mk, if_pos c, if_neg (by decide), ck_mk zk_205, mpair hR.2.1 hR.1.1 (fun _ _ => rfl), b2_mk, if_pos cp, if_pos (by decide)]
        rfl
    · obtain ⟨hL, hp⟩ := hb.2.2 cp
      have hv := hR.2.1.1
      have hw := hv.2.2.2.2.1
      obtain ⟨h1, f1, s1⟩ := from_c (b := b) hR (by omega) hL hp
      have ebw := nvN_b (y := y) (N := 999) (wk h 18) (by omega)
      have e8 : h 18 8 = ii (wk h 18 23) := (wk_or h 18).2.2.2.2.2.2.2.2
      by_cases h23 : wk h 18 23 = 0
      · -- not wedged
        have s0 : sv h (ps_uI (ps_uI h1 175 0 (ii (nv (gon y 999 (wk h 18) 0)))) 175 0 (ii (if nv (gon y 999 (wk h 18) 0) = 1000 then 1003 else nv (gon y 999 (wk h 18) 0)))) := fun c k q => by rw [uI_o (by omega), uI_o (by omega), s1 c k (by omega)]
        have hW0 : WD (-1, if nv (gon y 999 (wk h 18) 0) = 1000 then 1003 else nv (gon y 999 (wk h 18) 0)) := by
          refine ⟨?_, ?_, Or.inl rfl⟩
          · show 0 ≤ if nv (gon y 999 (wk h 18) 0) = 1000 then 1003 else nv (gon y 999 (wk h 18) 0)
            split <;> omega
          · show (if nv (gon y 999 (wk h 18) 0) = 1000 then 1003 else nv (gon y 999 (wk h 18) 0)) ≤ 1003
            split <;> omega
        obtain ⟨h2, f2, s2, z2, hWe⟩ := wedge_c (b := b) hR.1.1 hR.1.2.1 hL hv hp (by omega) 100 0 ps_fu _ (-1, if nv (gon y 999 (wk h 18) 0) = 1000 then 1003 else nv (gon y 999 (wk h 18) 0)) (by omega) (by unfold ps_fu; omega) s0 (uI_s ..) hW0
        have hR2 := Rel_sc hR (sv_sc s2)
        have e18 := sc_wk (sv_sc s2)
        obtain ⟨h3, f3, s3⟩ := now_m (b := b) hR2 (by omega) (by rw [e18]; exact hp)
        have hR3 := Rel_sc hR2 (sm_sc s3)
        have e18' := sc_wk (sm_sc s3)
        obtain ⟨h4, f4, s4⟩ := wedge_m (b := b) (X := X) hR3 (by omega) hL (by rw [e18', e18]; exact hp) (by rw [e18', e18]; exact h23) 100 0 ps_fu h3 (-1, if nv (gon y 999 (wk h 18) 0) = 1000 then 1003 else nv (gon y 999 (wk h 18) 0)) (by omega) (by unfold ps_fu; omega) (sm_rf h3) hW0
        rw [e18', e18] at f4
        rw [e18] at f3
        generalize wed y (wk h 18) 100 0 (-1, if nv (gon y 999 (wk h 18) 0) = 1000 then 1003 else nv (gon y 999 (wk h 18) 0)) = S at *
        obtain ⟨q1, q2, q3⟩ := hWe
        refine eqv_of (h1 := h2) (h2 := h4) (b1 := b) (b2 := b) (r := ii (if S.1 = -1 then S.1 else if X = 0 then S.1 else S.2)) ?_ ?_ (inv_of (Rel_sc hR3 (sm_sc s4)))
        · unfold f_X9_whenWedge f_X6_findWedge f_X6_findWedge_b42
          have hwk : ∀ F : zM, (∀ c k, 18 ≤ c → c ≤ 22 → F c k = h c k) → f_X7_become (mk F b) 176 18 = some (mk (putW F 176 (wk h 18)) b) := fun F hF => by
            have e := wk_c (a := 18) (h := h) (h' := F) (fun c k a b => hF c k a (by omega))
            rw [become_mk iw_176 iw_18 (by omega) (by rw [e]; exact hw), e]
          rw [win_, b2_mk, if_pos c, if_neg (by decide), g0_2, ck_mk iw_18.1, pair18 hR.2.1 hR.1.1, b2_mk, if_neg cp, if_neg (by decide), g0_4, g0_0, g0_2, ck_mk zk_175, ck_mk zk_175, f1, b2_mk, pI_mk zk_175, gI_mk iw_18.1, uI_o (by omega), s1 18 8 (by omega), e8, h23, if_pos (by decide), gI_mk zk_175, uI_s, show (1000 : Int32) = ii 1000 by decide, show (0 : Int32) = ii ((0 : Nat) : Int) by decide]
          have fin : ∀ z : Int, f_X6_findWedge_l56 ps_fu (mk (putW (ps_uI (ps_uI h1 175 0 (ii (nv (gon y 999 (wk h 18) 0)))) 175 0 (ii z)) 176 (wk h 18)) b) 175 1 (ii (-1)) (ii ((0 : Nat) : Int)) = some (ii S.1, mk h2 b) → ps_b2 (ps_pI (mk (ps_uI h1 175 0 (ii (nv (gon y 999 (wk h 18) 0)))) b) 175 5 0 (ii z) fun M => ps_gR M 175 5 8 fun av16 => ps_ck M av16 6 (ps_b1 (f_X7_become M av16 18) fun M => f_X6_findWedge_l56 ps_fu M 175 1 (-1) (ii ((0 : Nat) : Int)))) (fun xv9 M => if xv9 = (-1 : Int32) then f_X9_whenWedge_b50 M xv9 else if ii X = ii ((0 : Nat) : Int) then f_X9_whenWedge_b50 M xv9 else ps_gR M 0 8 4 fun av12 => ps_gI M av12 5 0 fun xv13 => f_X9_whenWedge_b61 M xv13) = some (ii (if S.1 = -1 then S.1 else if X = 0 then S.1 else S.2), mk h2 b) := by
            intro z hz
            rw [pI_mk zk_175, gR_mk zk_175 (zr_175_8 b), ck_mk iw_176.1, hwk _ (fun c k a b => by rw [uI_o (by omega), uI_o (by omega), s1 c k (by omega)]), b1_mk, show (-1 : Int32) = ii (-1) by decide, hz, b2_mk]
            by_cases c1 : S.1 = -1
            · rw [if_pos (by rw [c1]), if_pos c1]
              rfl
            · rw [if_neg (by rw [ii_eq (by omega) (by omega) (by omega) (by omega)]; exact c1), if_neg c1]
              by_cases c2 : X = 0
              · rw [if_pos (by rw [c2]; rfl), if_pos c2]
                rfl
              · rw [if_neg (by rw [ii_eq (by omega) (by omega) (by omega) (by omega)]; exact c2), if_neg c2, g0_4, gI_mk zk_175, z2]
                rfl
          by_cases c0 : nv (gon y 999 (wk h 18) 0) = 1000
          · rw [if_pos (by rw [c0]), show (1003 : Int32) = ii 1003 by decide]
            refine fin 1003 ?_
            rw [if_pos c0] at f2
            exact f2
          · rw [if_neg (by rw [ii_eq (by omega) (by omega) (by omega) (by omega)]; exact c0), gI_mk zk_175, uI_s]
            refine fin _ ?_
            rw [if_neg c0] at f2
            exact f2
        · show f_X10_whenWedge (mk h2 b) 205 (ii X) = _
          unfold f_X10_whenWedge
          rw [min_, b2_mk, if_pos c, if_neg (by decide), ck_mk zk_205, mpair hR2.2.1 hR2.1.1 (fun _ _ => rfl), b2_mk, if_neg (by rw [e18]; exact cp : ¬ wk h2 18 16 = -1), if_neg (by decide), ck_mk zk_205, f3, b2_mk]
          have e5 : fv (gon y 999 (wk h 18) 0) = fm (-1, if nv (gon y 999 (wk h 18) 0) = 1000 then 1003 else nv (gon y 999 (wk h 18) 0)).2 := by
            show _ = fm (if nv (gon y 999 (wk h 18) 0) = 1000 then 1003 else nv (gon y 999 (wk h 18) 0))
            unfold fm
            rcases ebw with ⟨a1, a2, a3⟩ | ⟨a1, a2, a3⟩
            · rw [a3, a2, if_pos rfl, if_pos rfl]
            · rw [a3, if_neg (by omega), if_neg (by omega)]
          rw [e5, show (-1 : Int32) = ii (-1) by decide, show (0 : Int32) = ii ((0 : Nat) : Int) by decide]
          refine f4.trans ?_
          unfold f_X10_whenWedge_b163
          by_cases c1 : S.1 = -1
          · rw [if_pos (by rw [ii_lits.1, ii_lt (by omega) (by omega) (by omega) (by omega)]; omega), if_pos c1]
            rfl
          · rw [if_neg (by rw [ii_lits.1, ii_lt (by omega) (by omega) (by omega) (by omega)]; omega), if_neg c1]
            by_cases c2 : X = 0
            · rw [if_pos (by rw [c2]; rfl), if_pos c2]
              rfl
            · rw [if_neg (by rw [ii_lits.1, ii_eq (by omega) (by omega) (by omega) (by omega)]; exact c2), if_neg c2]
              unfold fm
              rw [if_neg (by omega)]
              rfl
      · have h23' : wk h 18 23 = 1 := by omega
        have s0 : sc h (ps_uI h1 175 0 (ii (nv (gon y 999 (wk h 18) 0)))) := fun c k q => by rw [uI_o (by omega), s1 c k (by omega)]
        generalize hH : ps_uI h1 175 0 (ii (nv (gon y 999 (wk h 18) 0))) = h2 at s0
        have hR2 := Rel_sc hR s0
        have e18 := sc_wk s0
        obtain ⟨h3, f3, s3⟩ := now_m (b := b) hR2 (by omega) (by rw [e18]; exact hp)
        have hR3 := Rel_sc hR2 (sm_sc s3)
        have e18' := sc_wk (sm_sc s3)
        have e23 : h3 206 23 = ii 1 := by
          have := hR3.2.1.2.2.1 23 (by omega) (by omega)
          rw [e18', e18, h23'] at this
          rw [← this]
          unfold mrow
          rw [ii_toInt]
        refine eqv_of (h1 := h2) (h2 := h3) (b1 := b) (b2 := b) (r := ii (-1)) ?_ ?_ (inv_of hR3)
        · unfold f_X9_whenWedge f_X6_findWedge
          rw [win_, b2_mk, if_pos c, if_neg (by decide), g0_2, ck_mk iw_18.1, pair18 hR.2.1 hR.1.1, b2_mk, if_neg cp, if_neg (by decide), g0_4, g0_0, g0_2, ck_mk zk_175, ck_mk zk_175, f1, b2_mk, pI_mk zk_175, hH, gI_mk iw_18.1, s0 18 8 (by omega), e8, h23', if_neg (by decide), b2_mk, if_pos rfl]
          rfl
        · show f_X10_whenWedge (mk h2 b) 205 (ii X) = _
          unfold f_X10_whenWedge
          rw [min_, b2_mk, if_pos c, if_neg (by decide), ck_mk zk_205, mpair hR2.2.1 hR2.1.1 (fun _ _ => rfl), b2_mk, if_neg (by rw [e18]; exact cp : ¬ wk h2 18 16 = -1), if_neg (by decide), ck_mk zk_205, f3, b2_mk, show ps_fu = 4095 + 1 from rfl]
          show f_X10_whenWedge_w36 (f_X10_whenWedge_l36 4095) (mk h3 b) 205 (ii X) _ _ _ = _
          unfold f_X10_whenWedge_w36 f_X10_whenWedge_b163
          rw [if_neg (by decide), gW, show (23 : Int32) = ii 23 by decide, aI_mk zk_206 (by omega) (by rw [zl_206]; omega) (by rw [zl_206]; omega), show (23 : Int).toNat = 23 from rfl, e23, if_neg (by decide), if_pos (by decide)]
          rfl
  · refine eqv_of (r := ii (-1000000002)) (h1 := h) (h2 := h) (b1 := b) (b2 := b) ?_ ?_ (inv_of hR)
    · unfold f_X9_whenWedge
      rw [win_, b2_mk, if_neg c, if_pos (by decide)]
      rfl
    · show f_X10_whenWedge (mk h b) 205 (ii X) = _
      unfold f_X10_whenWedge
      rw [min_, b2_mk, if_neg c, if_pos (by decide)]
      rfl
