/-! deeds: what every one of them has -/
theorem wk_put (h : zM) (a : Nat) (r : Nat → Int) : ∀ i, i < 25 → wk (putW h a r) a i = (ii (r i)).toInt := by
  intro i hi
  have key : ∀ c j, inW a c j → ixW a c j = i → wk (putW h a r) a i = (ii (r i)).toInt := by
    intro c j hin hix
    have h2 := wk_ix (putW h a r) a hin
    rw [hix, putW_in _ _ _ hin, hix] at h2
    exact h2
  by_cases c1 : i < 4
  · exact key (a + 1) i (by unfold inW; omega) (by unfold ixW; (repeat' split); all_goals omega)
  by_cases c2 : i < 8
  · exact key (a + 3) (i - 4) (by unfold inW; omega) (by unfold ixW; (repeat' split); all_goals omega)
  by_cases c3 : i < 12
  · exact key (a + 4) (i - 8) (by unfold inW; omega) (by unfold ixW; (repeat' split); all_goals omega)
  by_cases c4 : i < 16
  · exact key (a + 2) (i - 12) (by unfold inW; omega) (by unfold ixW; (repeat' split); all_goals omega)
  by_cases c5 : i = 24
  · exact key a 7 (by unfold inW; omega) (by unfold ixW; (repeat' split); all_goals omega)
  by_cases c6 : i = 23
  · exact key a 8 (by unfold inW; omega) (by unfold ixW; (repeat' split); all_goals omega)
  · exact key a (i - 16) (by unfold inW; omega) (by unfold ixW; (repeat' split); all_goals omega)
theorem mrow_put (h : zM) (x : Nat) (m : Nat → Int) : ∀ i, i < 25 → mrow (putM h x m) x i = (ii (m i)).toInt := by
  intro i hi
  unfold mrow
  rw [putM_r h m hi]
theorem putM_cg (h : zM) (x : Nat) {m m' : Nat → Int} (hm : ∀ i, i < 25 → m' i = m i) : putM h x m' = putM h x m := by
  funext c k
  unfold putM
  split
  · rename_i q
    rw [hm _ (by omega)]
  · rfl
/-- what is relevant of a row stands as it is in the memory -/
theorem rel_b {y : Nat → Nat → Int} {g : Int} {r m : Nat → Int} (h : Ok y g r m) (hy : Yk y) (hg : g ≤ 100000000) : (∀ j, 16 ≤ j → j < 25 → (ii (r j)).toInt = r j) ∧ ∀ p : Nat, (p : Int) < y 0 1 → (ii (r p)).toInt = r p ∧ (ii (r (4 + p))).toInt = r (4 + p) ∧ (ii (r (8 + p))).toInt = r (8 + p) ∧ (ii (r (12 + p))).toInt = r (12 + p) := by
  obtain ⟨⟨v1, v2, v3, v4, v5, v6, v7⟩, hp, -⟩ := h
  have hL := hy.1
  have hn := hy.2.1
  have h16 : (-1 ≤ r 16 ∧ r 16 ≤ 4) ∧ (-1 ≤ r 17 ∧ r 17 ≤ 4) ∧ (-1 ≤ r 18 ∧ r 18 ≤ 4) := by
    rcases hp with q | ⟨-, q1, q2, q3, q4⟩
    · omega
    · omega
  refine ⟨fun j a b => ?_, fun p hp' => ?_⟩
  · rcases (show j = 16 ∨ j = 17 ∨ j = 18 ∨ j = 19 ∨ j = 20 ∨ j = 21 ∨ j = 22 ∨ j = 23 ∨ j = 24 by omega) with rfl | rfl | rfl | rfl | rfl | rfl | rfl | rfl | rfl <;> exact toInt_ii (by omega) (by omega)
  · obtain ⟨w1, w2, w3, w4⟩ := v7 p hp'
    exact ⟨toInt_ii (by omega) (by omega), toInt_ii (by omega) (by omega), toInt_ii (by omega) (by omega), toInt_ii (by omega) (by omega)⟩
theorem Ok_r {y : Nat → Nat → Int} {g : Int} {r r2 m m2 : Nat → Int} (h : Ok y g r m) (hr : req y r r2) (hm : req y m m2) : Ok y g r2 m2 := by
  obtain ⟨h1, h2, h3⟩ := h
  refine ⟨req_Vb hr h1, ?_, fun j a b => by rw [hm.1 j a b, hr.1 j a b]; exact h3.1 j a b, fun p hp => ?_⟩
  · rcases h2 with q | ⟨q1, q2⟩
    · rw [hr.1 16 (by omega) (by omega), hr.1 17 (by omega) (by omega), hr.1 18 (by omega) (by omega)]
      exact Or.inl q
    · exact Or.inr ⟨q1, req_Pr hr q2⟩
  · obtain ⟨a1, a2, a3, a4⟩ := hm.2 p hp
    obtain ⟨b1, b2, b3, b4⟩ := hr.2 p hp
    rw [a1, a2, a3, a4, b1, b2, b3, b4]
    exact h3.2 p hp
theorem Ok_put {y : Nat → Nat → Int} {g : Int} {r m : Nat → Int} (h : Ok y g r m) (hy : Yk y) (hg : g ≤ 100000000) (h1 h2 : zM) (a x : Nat) : Ok y g (wk (putW h1 a r) a) (mrow (putM h2 x m) x) := by
  have hb := rel_b h hy hg
  have hm : Ok y g m m := by
    obtain ⟨v1, v2, v3⟩ := h
    refine ⟨req_Vb v3 v1, ?_, fun _ _ _ => rfl, fun _ _ => ⟨rfl, rfl, rfl, rfl⟩⟩
    rcases v2 with q | ⟨q1, q2⟩
    · rw [v3.1 16 (by omega) (by omega), v3.1 17 (by omega) (by omega), v3.1 18 (by omega) (by omega)]
      exact Or.inl q
    · exact Or.inr ⟨q1, req_Pr v3 q2⟩
  have hb2 := rel_b hm hy hg
  have hn := hy.2.1
  refine Ok_r h ⟨fun j a' b' => ?_, fun p hp => ?_⟩ ⟨fun j a' b' => ?_, fun p hp => ?_⟩
  · rw [wk_put _ _ _ j b', hb.1 j a' b']
  · rw [wk_put _ _ _ _ (by omega), wk_put _ _ _ _ (by omega), wk_put _ _ _ _ (by omega), wk_put _ _ _ _ (by omega)]
    exact hb.2 p hp
  · rw [mrow_put _ _ _ j b', hb2.1 j a' b']
  · rw [mrow_put _ _ _ _ (by omega), mrow_put _ _ _ _ (by omega), mrow_put _ _ _ _ (by omega), mrow_put _ _ _ _ (by omega)]
    exact hb2.2 p hp
/-- behind a deed that is remembered -/
theorem deed {h : zM} {y : Nat → Nat → Int} {g g' : Int} {n t : Nat} {r m : Nat → Int} (hR : Rel g h y) (hn : n ≤ 30) (ht : t < 30) (hold : ∀ j, j < n → Ok y g (wk h (25 + 5 * ((t + 30 - n + j) % 30))) (mrow h (112 + 28 * j))) (hg : g ≤ g') (hg8 : g' ≤ 100000000) (hO : Ok y g' r m) : Rel g' (putM (mrem (putW (crem h n t) 18 r) n) 0 m) y := by
  have hy4 := Rel_y4 hR
  obtain ⟨hRY, hN, hS, hseen, hbook, htext, hF, hI0, hI1, hP⟩ := hR
  have o1 : ∀ c k, (c < 18 ∨ 174 < c) → ¬ (c = 205 ∧ k = 26) → ¬ (c = 206 ∧ (k < 25 ∨ 112 ≤ k)) → putM (mrem (putW (crem h n t) 18 r) n) 0 m c k = h c k := by
    intro c k a1 a2 a3
    rw [putM_o _ _ (by omega)]
    by_cases c206 : c = 206 ∧ 952 ≤ k
    · exact absurd c206 (by omega)
    · rw [mrem_o a2 (by omega) hn, putW_o _ _ _ (by omega), crem_o (by omega) ht]
  refine ⟨RY_c hRY (fun c k q => o1 c k (by omega) (by omega) (by omega)), ?_, RS_c hS (fun c k q => o1 c k (by omega) (by omega) (by omega)), Ls_c hseen (fun c k q => o1 c k (by omega) (by omega) (by omega)), Ls_c hbook (fun c k q => o1 c k (by omega) (by omega) (by omega)), Ls_c htext (fun c k q => o1 c k (by omega) (by omega) (by omega)), RF_c hF (fun c k q => o1 c k (by omega) (by omega) (by omega)), RI_up (RI_c hy4 hI0 (fun c k q => o1 c k (by omega) (by omega) (by omega))) hg, RI_up (RI_c hy4 hI1 (fun c k q => o1 c k (by omega) (by omega) (by omega))) hg, ?_⟩
  · unfold RN
    have e1 : wk (putM (mrem (putW (crem h n t) 18 r) n) 0 m) 18 = wk (putW (crem h n t) 18 r) 18 := wk_c (fun c k a b => by rw [putM_o _ _ (by omega), mrem_o (by omega) (by omega) hn])
    rw [e1]
    exact Ok_put hO hRY.1 hg8 _ _ 18 0
  · refine RP_rem (h := h) hy4 hg hn ht hold hN ?_ ?_ ?_ ?_ ?_
    · rw [putM_o _ _ (by omega), mrem_o (by omega) (by omega) hn, putW_o _ _ _ (by omega)]
      unfold crem
      rw [uI_s]
    · rw [putM_o _ _ (by omega), mrem_o (by omega) (by omega) hn, putW_o _ _ _ (by omega)]
      unfold crem
      rw [uI_o (by omega), uI_s]
    · intro s hs i hi
      have e1 : wk (putM (mrem (putW (crem h n t) 18 r) n) 0 m) (25 + 5 * s) = wk (crem h n t) (25 + 5 * s) := wk_c (fun c k a b => by rw [putM_o _ _ (by omega), mrem_o (by omega) (by omega) hn, putW_o _ _ _ (by omega)])
      rw [e1]
      exact crem_wk hn ht hs i hi
    · rw [putM_o _ _ (by omega)]
      unfold mrem
      rw [if_pos ⟨rfl, rfl⟩]
    · intro k hk hk2
      have e : ∀ k, putW (crem h n t) 18 r 206 k = h 206 k := fun k => by rw [putW_o _ _ _ (by omega), crem_o (by omega) ht]
      rw [putM_o _ _ (by omega)]
      unfold mrem
      rw [if_neg (by omega), e, e, e]
      by_cases c1 : 112 + 28 * (min n 29) ≤ k ∧ k < 140 + 28 * (min n 29)
      · rw [if_pos ⟨rfl, c1.1, c1.2⟩, if_pos c1]
      · rw [if_neg (fun q => c1 q.2), if_neg c1]
        by_cases c2 : n = 30 ∧ k < 924
        · rw [if_pos ⟨c2.1, rfl, hk, c2.2⟩, if_pos c2]
        · rw [if_neg (by omega), if_neg c2]
/-- ready to be sawn -/
def rdy (y : Nat → Nat → Int) (r : Nat → Int) : Prop := (0 < y 0 0 ∧ Pr y r) ∧ ¬ thr y r
section
variable {h : zM} {b : Bool} {y : Nat → Nat → Int} {g : Int}
theorem wk16_b (hN : RN h y g) (hy : Yk y) : (-1 ≤ wk h 18 16 ∧ wk h 18 16 ≤ 4) ∧ (wk h 18 16 = -1 → ¬ Pr y (wk h 18)) ∧ (wk h 18 16 ≠ -1 → 0 < y 0 0 ∧ Pr y (wk h 18)) := by
  have hn := hy.2.1
  obtain ⟨-, h2, -⟩ := hN
  rcases h2 with q | ⟨q1, q2⟩
  · refine ⟨by omega, fun _ hp => ?_, fun q2 => absurd q.1 q2⟩
    have := hp.1
    omega
  · have := q2.1
    exact ⟨by omega, fun a => by omega, fun _ => ⟨q1, q2⟩⟩
theorem pair18 (hN : RN h y g) (hy : Yk y) : f_X7_hasPair (mk h b) 18 = some (ii (if wk h 18 16 = -1 then 0 else 1), mk h b) := by
  have hb := wk16_b hN hy
  have := pair_mk (h := h) (b := b) (r := wk h 18) iw_18 (by omega)
  rw [putW_wk] at this
  exact this
theorem sawing (hR : Rel g h y) {x : Int} (x1 : -2147483648 ≤ x) (x2 : x < 2147483648) : ∃ t : Int, f_X9_refusalOfSawing (mk h b) 0 (ii x) = some (ii t, mk h b) ∧ ((t = -1000000002 ∧ ¬ (1 ≤ x ∧ x ≤ 99)) ∨ (t = -1000000003 ∧ (1 ≤ x ∧ x ≤ 99) ∧ ¬ rdy y (wk h 18)) ∨ (t = 0 ∧ (1 ≤ x ∧ x ≤ 99) ∧ rdy y (wk h 18))) := by
  obtain ⟨hRY, hN, -⟩ := hR
  have hb := wk16_b hN hRY.1
  unfold f_X9_refusalOfSawing
  rw [show (1 : Int32) = ii 1 by decide, show (99 : Int32) = ii 99 by decide, within_mk (by omega) (by omega) (by omega) (by omega) (by omega) (by omega), b2_mk]
  by_cases c : 1 ≤ x ∧ x ≤ 99
  · rw [if_pos c, if_neg (by decide), g0_2, ck_mk iw_18.1, pair18 hN hRY.1, b2_mk]
    by_cases cp : wk h 18 16 = -1
    · exact ⟨-1000000003, by rw [if_pos cp, if_pos (by decide)]; rfl, Or.inr (Or.inl ⟨rfl, c, fun q => hb.2.1 cp q.1.2⟩)⟩
    · obtain ⟨hL, hP⟩ := hb.2.2 cp
      rw [if_neg cp, if_neg (by decide), g0_2, g0_0, ck_mk iw_18.1, through18 hRY hN, b2_mk]
      by_cases ct : thr y (wk h 18)
      · exact ⟨-1000000003, by rw [if_pos (⟨hL, ct⟩ : 0 < y 0 0 ∧ thr y (wk h 18)), if_neg (by decide)]; rfl, Or.inr (Or.inl ⟨rfl, c, fun q => q.2 ct⟩)⟩
      · exact ⟨0, by rw [if_neg (fun q => ct q.2 : ¬ (0 < y 0 0 ∧ thr y (wk h 18))), if_pos (by decide)]; rfl, Or.inr (Or.inr ⟨rfl, c, ⟨hL, hP⟩, ct⟩)⟩
  · exact ⟨-1000000002, by rw [if_neg c, if_pos (by decide)]; rfl, Or.inl ⟨rfl, c⟩⟩
/-- the model's pair and through, of a memory whose first row is as h's -/
theorem mpair (hN : RN h y g) (hy : Yk y) {H : zM} (hH : ∀ k, k < 25 → H 206 k = h 206 k) : f_X10_isPair (mk H b) 205 = some (ii (if wk h 18 16 = -1 then 0 else 1), mk H b) := by
  have hb := wk16_b hN hy
  have e16 : mrow H 0 16 = wk h 18 16 := by
    have := hN.2.2.1 16 (by omega) (by omega)
    rw [← this]
    unfold mrow
    rw [Nat.zero_add, hH 16 (by omega)]
  have := mpair_mk (h := H) (b := b) (r := mrow H 0) (by rw [e16]; omega)
  rw [putM_mrow, e16] at this
  rw [this]
  by_cases c : wk h 18 16 = -1
  · rw [if_neg (by omega), if_pos c]
  · rw [if_pos (by omega), if_neg c]
theorem mrow_H (hN : RN h y g) {H : zM} (hH : ∀ k, k < 25 → H 206 k = h 206 k) (hy4 : y 0 1 ≤ 4) : Ok y g (wk h 18) (mrow H 0) := Ok_m hN (fun j hj => by unfold mrow; rw [Nat.zero_add, hH j hj]) hy4
theorem mthru (hN : RN h y g) (hy : Yk y) {H : zM} (hYm : Ym H y) (hH : ∀ k, k < 25 → H 206 k = h 206 k) : f_X10_isThrough (mk H b) 205 (ii 0) = some (ii (if thr y (wk h 18) then 1 else 0), mk H b) := by
  have hO := mrow_H hN hH hy.2.1.2
  have hv := req_Vb hO.2.2 hO.1
  have := mthrough_mk (b := b) (h := H) (x := 0) (r := mrow H 0) hy hYm hv (by omega)
  rw [putM_mrow] at this
  rw [show (ii 0) = ii ((0 : Nat) : Int) from rfl, this]
  by_cases ht : thr y (wk h 18)
  · rw [if_pos ht, if_pos ((req_thr hO.2.2).mpr ht)]
  · rw [if_neg ht, if_neg (fun q => ht ((req_thr hO.2.2).mp q))]
/-- the class has remembered -/
theorem crem_mk {n t : Nat} (hN : RN h y g) (hn : n ≤ 30) (ht : t < 30) (h0 : h 23 0 = ii n) (h1 : h 23 1 = ii t) : f_X2_remember (mk h b) 23 18 = some (mk (putW (crem h n t) 18 (wk h 18)) b) := by
  rw [remember_mk hn ht h0 h1 hN.1.2.2.2.2.1]
  have e : wk (crem h n t) 18 = wk h 18 := wk_c (fun c k a b => crem_o (by omega) ht)
  rw [← e, putW_wk]
theorem mrem_mk {H : zM} {n : Nat} (hn : n ≤ 30) (h0 : H 205 26 = ii n) : f_X10_remember (mk H b) 205 = some (mk (putM (mrem H n) 0 (mrow H 0)) b) := by
  rw [mremember_mk hn h0]
  refine congrArg (fun z => some (mk z b)) ?_
  have e : putM (mrem H n) 0 (mrow H 0) = putM (mrem H n) 0 (mrow (mrem H n) 0) := putM_cg _ _ (fun i hi => by unfold mrow; rw [mrem_o (by omega) (by omega) hn])
  rw [e, putM_mrow]
/-- many strokes -/
def sit (y : Nat → Nat → Int) : Nat → (Nat → Int) → Int → (Nat → Int) × Int
  | 0, r, s => (r, s)
  | d + 1, r, s => if thr y r then (r, s) else sit y d (plr y r) (s + cut y r)
theorem sit_ok (hy : Yk y) : ∀ (d : Nat) (g : Int) (r m : Nat → Int) (s : Int), Ok y g r m → Pr y r → 0 < y 0 0 → (sit y d m s).2 = (sit y d r s).2 ∧ Ok y (g + 9 * d) (sit y d r s).1 (sit y d m s).1 := by
  intro d
  induction d with
  | zero => intro g r m s hO hp hL; exact ⟨rfl, hO.up (by omega)⟩
  | succ d ih =>
    intro g r m s hO hp hL
    unfold sit
    by_cases ht : thr y r
    · rw [if_pos ht, if_pos ((req_thr hO.2.2).mpr ht)]
      exact ⟨rfl, hO.up (by omega)⟩
    · rw [if_neg ht, if_neg (fun q => ht ((req_thr hO.2.2).mp q)), req_cut hO.2.2 hy hp]
      have := ih (g + 9) (plr y r) (plr y m) (s + cut y r) (hO.pull hy hp ht) (plr_Pr hy hp).1 hL
      exact ⟨this.1, this.2.up (by omega)⟩
theorem strokes_c (hy : Yk y) (hL : 0 < y 0 0) {h1 : zM} (hYd : ∀ r, Yd (putW h1 18 r) y) : ∀ (d i m N : Nat) (g : Int) (r : Nat → Int) (s : Int), i + d = N → N ≤ 99 → d < m → Vb y g r → Pr y r → g + 9 * d ≤ 100000000 → f_X9_stroke_l28 m (mk (putW h1 18 r) b) 0 (ii N) (ii s) (ii i) = some (ii (sit y d r s).2, mk (putW h1 18 (sit y d r s).1) b) := by
  intro d
  induction d with
  | zero =>
    intro i m N g r s hi hN hm hv hp hg
    obtain ⟨m', rfl⟩ : ∃ m', m = m' + 1 := ⟨m - 1, by omega⟩
    show f_X9_stroke_w28 (f_X9_stroke_l28 m') (mk (putW h1 18 r) b) 0 (ii N) (ii s) (ii i) = _
    unfold f_X9_stroke_w28
    rw [if_pos (by rw [ii_le (by omega) (by omega) (by omega) (by omega)]; omega)]
    rfl
  | succ d ih =>
    intro i m N g r s hi hN hm hv hp hg
    obtain ⟨m', rfl⟩ : ∃ m', m = m' + 1 := ⟨m - 1, by omega⟩
    show f_X9_stroke_w28 (f_X9_stroke_l28 m') (mk (putW h1 18 r) b) 0 (ii N) (ii s) (ii i) = _
    have hYd0 : Yd h1 y := by have := hYd (wk h1 18); rwa [putW_wk] at this
    unfold f_X9_stroke_w28 sit
    rw [if_neg (by rw [ii_le (by omega) (by omega) (by omega) (by omega)]; omega), g0_2, g0_0, ck_mk iw_18.1, through_mk iw_18 hy hYd0 hv hL, b2_mk]
    by_cases ht : thr y r
    · rw [if_pos ht, if_neg (by decide), if_pos ht]
      rfl
    · rw [if_neg ht, if_pos (by decide), if_neg ht, g0_2, g0_0, ck_mk iw_18.1, once_mk iw_18 hy hYd0 hv (by omega) hp ht, b2_mk, ii_add, v_mk, v_mk, show ii (i : Int) + 1 = ii ((i + 1 : Nat) : Int) by rw [ii_lits.2.1, ii_add]; rfl]
      exact ih (i + 1) m' N (g + 9) (plr y r) _ (by omega) hN (by omega) (plr_Vb hy hv hp ht) (plr_Pr hy hp).1 (by omega)
theorem strokes_m (hy : Yk y) {h1 : zM} (hYm : ∀ r, Ym (putM h1 0 r) y) : ∀ (d i m N : Nat) (g : Int) (r : Nat → Int) (s : Int), i + d = N → N ≤ 99 → d < m → Vb y g r → Pr y r → g + 9 * d ≤ 100000000 → f_X10_stroke_l41 m (mk (putM h1 0 r) b) 205 (ii N) (ii s) (ii i) = some (ii (sit y d r s).2, mk (putM h1 0 (sit y d r s).1) b) := by
  intro d
  induction d with
  | zero =>
    intro i m N g r s hi hN hm hv hp hg
    obtain ⟨m', rfl⟩ : ∃ m', m = m' + 1 := ⟨m - 1, by omega⟩
    show f_X10_stroke_w41 (f_X10_stroke_l41 m') (mk (putM h1 0 r) b) 205 (ii N) (ii s) (ii i) = _
    unfold f_X10_stroke_w41
    rw [if_pos (by rw [ii_le (by omega) (by omega) (by omega) (by omega)]; omega)]
    rfl
  | succ d ih =>
    intro i m N g r s hi hN hm hv hp hg
    obtain ⟨m', rfl⟩ : ∃ m', m = m' + 1 := ⟨m - 1, by omega⟩
    show f_X10_stroke_w41 (f_X10_stroke_l41 m') (mk (putM h1 0 r) b) 205 (ii N) (ii s) (ii i) = _
    have hYm0 : Ym h1 y := by have := hYm (mrow h1 0); rwa [putM_mrow] at this
    unfold f_X10_stroke_w41 sit
    rw [if_neg (by rw [ii_le (by omega) (by omega) (by omega) (by omega)]; omega), ck_mk zk_205, show (0 : Int32) = ii ((0 : Nat) : Int) by decide, mthrough_mk hy hYm0 hv (by omega), b2_mk]
    by_cases ht : thr y r
    · rw [if_pos ht, if_neg (by decide), if_pos ht]
      rfl
    · rw [if_neg ht, if_pos (by decide), if_neg ht, ck_mk zk_205, mpull_mk hy hYm0 hv (by omega) (by omega) hp ht, b2_mk, ii_add, v_mk, v_mk, show ii (i : Int) + 1 = ii ((i + 1 : Nat) : Int) by rw [ii_lits.2.1, ii_add]; rfl]
      exact ih (i + 1) m' N (g + 9) (plr y r) _ (by omega) hN (by omega) (plr_Vb hy hv hp ht) (plr_Pr hy hp).1 (by omega)
end
theorem arm7 : ps_arm7 Inv := by
  rintro k M x hk ⟨h, b, y, rfl, hR⟩
  obtain ⟨X, rfl, x1, x2⟩ := ex_ii x
  have hR0 := hR
  obtain ⟨t0, hs, hcase⟩ := sawing (b := b) hR x1 x2
  obtain ⟨hRY, hN, hS, hseen, hbook, htext, hF, hI0, hI1, hP⟩ := hR
  have hb := wk16_b hN hRY.1
  obtain ⟨n, t, hn, ht, p0, p26, p1, hold⟩ := hP
  have hy4 := hRY.1.2.1.2
  have min_ : ∀ H : zM, f_X10_in (mk H b) ((ii X).toInt64) (1 : Int64) (99 : Int64) = some (ii (if 1 ≤ X ∧ X ≤ 99 then 1 else 0), mk H b) := fun H => by
    rw [ii_l64 x1 x2, l64_lits.2.1, show (99 : Int64) = l64 99 by decide, in_mk (by omega) (by omega) (by omega) (by omega) (by omega) (by omega)]
  rcases hcase with ⟨rfl, c⟩ | ⟨rfl, c, cr⟩ | ⟨rfl, c, ⟨hL, hp⟩, hth⟩
  · refine eqv_of (r := ii (-1000000002)) (h1 := h) (h2 := h) (b1 := b) (b2 := b) ?_ ?_ (inv_of hR0)
    · unfold f_X9_stroke
      rw [ck_mk zk_0, hs, b2_mk, if_neg (by decide)]
    · show f_X10_stroke (mk h b) 205 (ii X) = _
      unfold f_X10_stroke
      rw [min_, b2_mk, if_neg c, if_pos (by decide)]
      rfl
  · refine eqv_of (r := ii (-1000000003)) (h1 := h) (h2 := h) (b1 := b) (b2 := b) ?_ ?_ (inv_of hR0)
    · unfold f_X9_stroke
      rw [ck_mk zk_0, hs, b2_mk, if_neg (by decide)]
    · show f_X10_stroke (mk h b) 205 (ii X) = _
      unfold f_X10_stroke
      rw [min_, b2_mk, if_pos c, if_neg (by decide), ck_mk zk_205, mpair hN hRY.1 (fun _ _ => rfl), b2_mk]
      by_cases cp : wk h 18 16 = -1
      · rw [if_pos cp, if_pos (by decide)]
        rfl
      · rw [if_neg cp, if_neg (by decide), ck_mk zk_205, show (0 : Int32) = ii 0 by decide, mthru hN hRY.1 hRY.2.2 (fun _ _ => rfl), b2_mk]
        have hth : thr y (wk h 18) := Classical.byContradiction fun q => cr ⟨hb.2.2 cp, q⟩
        rw [if_pos hth, if_neg (by decide)]
        rfl
  · obtain ⟨N, hNX⟩ : ∃ N : Nat, X = N := ⟨X.toNat, by omega⟩
    subst hNX
    have hYd1 : ∀ r, Yd (putW (crem h n t) 18 r) y := fun r => Yd_c hRY.2.1 (fun c k a b => by rw [putW_o _ _ _ (by omega), crem_o (by omega) ht])
    have hsit := sit_ok hRY.1 N (891 * k) (wk h 18) (mrow h 0) 0 hN hp hL
    generalize hH : putW (crem h n t) 18 (sit y N (wk h 18) 0).1 = H
    have oH : ∀ c k, c < 18 ∨ 174 < c → H c k = h c k := fun c k q => by rw [← hH, putW_o _ _ _ (by omega), crem_o (by omega) ht]
    have hYmH : Ym H y := Ym_c hRY.2.2 (fun c k q => oH c k (by omega))
    have em : mrow H 0 = mrow h 0 := by funext j; exact mrow_c (oH _ _ (by omega))
    refine eqv_of (r := ii (sit y N (wk h 18) 0).2) (h1 := H) (h2 := putM (mrem H n) 0 (sit y N (mrow h 0) 0).1) (b1 := b) (b2 := b) ?_ ?_ ⟨_, b, y, rfl, ?_⟩
    · unfold f_X9_stroke
      rw [ck_mk zk_0, hs, b2_mk, if_pos (by decide), g0_3, g0_2, ck_mk zk_23, crem_mk hN hn ht p0 p1, b1_mk, ii_lits.1, show f_X9_stroke_l28 ps_fu (mk (putW (crem h n t) 18 (wk h 18)) b) 0 (ii (N : Int)) (ii 0) (ii 0) = _ from strokes_c hRY.1 hL hYd1 N 0 ps_fu N (891 * k) (wk h 18) 0 (by omega) (by omega) (by unfold ps_fu; omega) hN.1 hp (by omega), hH]
    · show f_X10_stroke (mk H b) 205 (ii (N : Int)) = _
      unfold f_X10_stroke
      have hYm1 : ∀ r, Ym (putM (mrem H n) 0 r) y := fun r => Ym_c hYmH (fun c k q => by rw [putM_o _ _ (by omega), mrem_o (by omega) (by omega) hn])
      rw [min_, b2_mk, if_pos c, if_neg (by decide), ck_mk zk_205, mpair hN hRY.1 (fun k _ => oH 206 k (by omega)), b2_mk, if_neg (fun q => hb.2.1 q hp : ¬ wk h 18 16 = -1), if_neg (by decide), ck_mk zk_205, show (0 : Int32) = ii 0 by decide, mthru hN hRY.1 hYmH (fun k _ => oH 206 k (by omega)), b2_mk, if_neg hth, if_pos rfl, ck_mk zk_205, mrem_mk hn (by rw [oH 205 26 (by omega)]; exact p26), b1_mk, em, show f_X10_stroke_l41 ps_fu (mk (putM (mrem H n) 0 (mrow h 0)) b) 205 (ii (N : Int)) (ii 0) (ii 0) = _ from strokes_m hRY.1 hYm1 N 0 ps_fu N (891 * k) (mrow h 0) 0 (by omega) (by omega) (by unfold ps_fu; omega) (req_Vb hN.2.2 hN.1) (req_Pr hN.2.2 hp) (by omega), hsit.1]
    · rw [← hH]
      exact Rel_up (deed hR0 hn ht hold (by omega) (by omega) (hsit.2)) (by omega)
