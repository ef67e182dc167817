theorem uI_put {h : zM} {a c k : Nat} {r : Nat → Int} {v : Int32} (hc : c < a ∨ a + 4 < c) : ps_uI (putW h a r) c k v = putW (ps_uI h c k v) a r := by
  funext c' k'
  unfold ps_uI
  by_cases hi : inW a c' k'
  · rw [putW_in _ _ _ hi, putW_in _ _ _ hi, if_neg]
    intro q
    unfold inW at hi
    omega
  · rw [putW_out _ _ _ hi, putW_out _ _ _ hi]
theorem putW_self {h : zM} {a : Nat} {r : Nat → Int} (hc : ∀ c k, inW a c k → h c k = ii (r (ixW a c k))) : putW h a r = h := by
  funext c k
  by_cases hi : inW a c k
  · rw [putW_in _ _ _ hi, hc c k hi]
  · rw [putW_out _ _ _ hi]
def nv (o : Option Nat) : Int := match o with | none => 1000 | some n => n
def fv (o : Option Nat) : Int := match o with | none => 99999999 | some n => n
/-- what is remembered of a pair -/
def r4 (H : zM) (A : Nat → Int) : Prop := H 175 4 = ii (A (4 + (A 16).toNat)) ∧ H 175 5 = ii (A (4 + (A 17).toNat)) ∧ H 175 6 = ii (A (8 + (A 16).toNat)) ∧ H 175 7 = ii (A (8 + (A 17).toNat))
section
variable {h : zM} {b : Bool} {y : Nat → Nat → Int} {r : Nat → Int} {a : Nat} {g : Int}
theorem remem_mk (ha : isW a) (h5 : 175 < a) (hy : Yk y) (hp : Pr y r) : ∃ H, f_X6_rememberPair (mk (putW h a r) b) 175 a = some (mk (putW H a r) b) ∧ r4 H r ∧ ∀ c k, ¬ (c = 175 ∧ 4 ≤ k ∧ k < 8) → H c k = h c k := by
  have hn := hy.2.1.2
  obtain ⟨⟨p1, p2⟩, ⟨q1, q2⟩, hne, hx⟩ := hp
  obtain ⟨k0, k1, k2, k3, k4, l1, l2, l3, l4, r9, r10, r11, r12, g1, g2, g3⟩ := ha
  refine ⟨ps_uI (ps_uI (ps_uI (ps_uI h 175 4 (ii (r (4 + (r 16).toNat)))) 175 5 (ii (r (4 + (r 17).toNat)))) 175 6 (ii (r (8 + (r 16).toNat)))) 175 7 (ii (r (8 + (r 17).toNat))), ?_, ⟨?_, ?_, ?_, ?_⟩, fun c k q => ?_⟩
  · unfold f_X6_rememberPair
    rw [gR_mk k0 (r11 b), gI_mk k0, (putW_r _ _ _).1, at_mk k3 (by omega) (by omega) (by omega), b2_mk, putW_3 _ _ _ (by omega), pI_mk zk_175, uI_put (by omega), gR_mk k0 (r11 b), gI_mk k0, (putW_r _ _ _).2.1, at_mk k3 (by omega) (by omega) (by omega), b2_mk, putW_3 _ _ _ (by omega), pI_mk zk_175, uI_put (by omega), gR_mk k0 (r12 b), gI_mk k0, (putW_r _ _ _).1, at_mk k4 (by omega) (by omega) (by omega), b2_mk, putW_4 _ _ _ (by omega), pI_mk zk_175, uI_put (by omega), gR_mk k0 (r12 b), gI_mk k0, (putW_r _ _ _).2.1, at_mk k4 (by omega) (by omega) (by omega), b2_mk, putW_4 _ _ _ (by omega), pI_mk zk_175, uI_put (by omega)]
  · rw [uI_o (by omega), uI_o (by omega), uI_o (by omega), uI_s]
  · rw [uI_o (by omega), uI_o (by omega), uI_s]
  · rw [uI_o (by omega), uI_s]
  · rw [uI_s]
  · rw [uI_o (by omega), uI_o (by omega), uI_o (by omega), uI_o (by omega)]
theorem fresher_mk {A : Nat → Int} {g' : Int} (ha : isW a) (h5 : 175 < a) (hy : Yk y) (hp : Pr y r) (hv : Vb y g r) (hvA : Vb y g' A) (e16 : r 16 = A 16) (e17 : r 17 = A 17) (hr : r4 h A) : ∃ t : Int, f_X6_isNoFresher (mk (putW h a r) b) 175 a = some (ii t, mk (putW h a r) b) ∧ (t = 0 ∨ (t = 1 ∧ ∀ p : Nat, ((p : Int) = A 16 ∨ (p : Int) = A 17) → A (4 + p) ≤ r (4 + p) ∧ r (8 + p) = A (8 + p))) := by
  have hn := hy.2.1.2
  obtain ⟨⟨p1, p2⟩, ⟨q1, q2⟩, hne, hx⟩ := hp
  have ha' := ha
  obtain ⟨k0, k1, k2, k3, k4, l1, l2, l3, l4, r9, r10, r11, r12, g1, g2, g3⟩ := ha
  obtain ⟨f4, f5, f6, f7⟩ := hr
  rw [← e16] at f4 f6
  rw [← e17] at f5 f7
  obtain ⟨-, -, -, -, -, -, hvp⟩ := hv
  obtain ⟨-, -, -, -, -, -, hvq⟩ := hvA
  obtain ⟨-, v1, v2, -⟩ := hvp (r 16).toNat (by omega)
  obtain ⟨-, v3, v4, -⟩ := hvp (r 17).toNat (by omega)
  obtain ⟨-, w1, w2, -⟩ := hvq (r 16).toNat (by omega)
  obtain ⟨-, w3, w4, -⟩ := hvq (r 17).toNat (by omega)
  have o4 : ∀ k, putW h a r 175 k = h 175 k := fun k => putW_o _ _ _ (by omega) k
  have e76 : f_X6_isNoFresher_b76 (mk (putW h a r) b) = some (ii 0, mk (putW h a r) b) := rfl
  unfold f_X6_isNoFresher
  rw [gR_mk k0 (r11 b), gI_mk k0, (putW_r _ _ _).1, at_mk k3 (by omega) (by omega) (by omega), b2_mk, putW_3 _ _ _ (by omega), gI_mk zk_175, o4, f4]
  by_cases c1 : r (4 + (r 16).toNat) < A (4 + (r 16).toNat)
  · rw [if_pos (by rw [ii_lt (by omega) (by omega) (by omega) (by omega)]; exact c1)]
    exact ⟨0, e76, Or.inl rfl⟩
  rw [if_neg (by rw [ii_lt (by omega) (by omega) (by omega) (by omega)]; exact c1), gR_mk k0 (r11 b), gI_mk k0, (putW_r _ _ _).2.1, at_mk k3 (by omega) (by omega) (by omega), b2_mk, putW_3 _ _ _ (by omega), gI_mk zk_175, o4, f5]
  by_cases c2 : r (4 + (r 17).toNat) < A (4 + (r 17).toNat)
  · rw [if_pos (by rw [ii_lt (by omega) (by omega) (by omega) (by omega)]; exact c2)]
    exact ⟨0, e76, Or.inl rfl⟩
  rw [if_neg (by rw [ii_lt (by omega) (by omega) (by omega) (by omega)]; exact c2), gR_mk k0 (r12 b), gI_mk k0, (putW_r _ _ _).1, at_mk k4 (by omega) (by omega) (by omega), b2_mk, putW_4 _ _ _ (by omega), gI_mk zk_175, o4, f6]
  by_cases c3 : r (8 + (r 16).toNat) = A (8 + (r 16).toNat)
  · rw [if_pos (by rw [ii_eq (by omega) (by omega) (by omega) (by omega)]; exact c3), gR_mk k0 (r12 b), gI_mk k0, (putW_r _ _ _).2.1, at_mk k4 (by omega) (by omega) (by omega), b2_mk, putW_4 _ _ _ (by omega), gI_mk zk_175, o4, f7]
    by_cases c4 : r (8 + (r 17).toNat) = A (8 + (r 17).toNat)
    · rw [if_pos (by rw [ii_eq (by omega) (by omega) (by omega) (by omega)]; exact c4)]
      refine ⟨1, rfl, Or.inr ⟨rfl, fun p hp => ?_⟩⟩
      rcases hp with hp | hp
      · rw [show p = (r 16).toNat by omega]
        exact ⟨by omega, c3⟩
      · rw [show p = (r 17).toNat by omega]
        exact ⟨by omega, c4⟩
    · rw [if_neg (by rw [ii_eq (by omega) (by omega) (by omega) (by omega)]; exact c4)]
      exact ⟨0, e76, Or.inl rfl⟩
  · rw [if_neg (by rw [ii_eq (by omega) (by omega) (by omega) (by omega)]; exact c3)]
    exact ⟨0, e76, Or.inl rfl⟩
/-- where the strokes that cut nothing stand -/
def ist (y : Nat → Nat → Int) (H : zM) (r : Nat → Int) (i : Int) : Prop := i = 0 ∨ (i = 1 ∧ r4 H r) ∨ (i = 2 ∧ ∃ (A : Nat → Int) (g : Int), r = plr y A ∧ cut y A = 0 ∧ ¬ thr y A ∧ Vb y g A ∧ Pr y A ∧ r4 H A)
theorem mate2 {y : Nat → Nat → Int} {A : Nat → Int} (hy : Yk y) (hp : Pr y A) : mate (plr y A) = A 18 := by
  obtain ⟨-, e16, e17, e18⟩ := plr_Pr hy hp
  obtain ⟨-, -, hne, hx⟩ := hp
  unfold mate at e18 ⊢
  rw [e16, e17, e18]
  split <;> split <;> omega
theorem wor_of {A : Nat → Int} {g : Int} (hy : Yk y) (hv : Vb y g A) (hp : Pr y A) (h1 : cut y A = 0) (h2 : cut y (plr y A) = 0) (hc : ∀ p : Nat, ((p : Int) = A 16 ∨ (p : Int) = A 17) → A (4 + p) ≤ plr y (plr y A) (4 + p) ∧ plr y (plr y A) (8 + p) = A (8 + p)) : wor A (plr y (plr y A)) := by
  have hp2 := (plr_Pr hy hp).1
  obtain ⟨-, a16, a17, a18⟩ := plr_Pr hy hp
  obtain ⟨-, b16, b17, b18⟩ := plr_Pr hy hp2
  obtain ⟨a19, a22, aj, -⟩ := plr_at hy hp
  obtain ⟨b19, b22, bj, -⟩ := plr_at hy hp2
  have hres := hy.2.2.2.1
  have hd := hv.1
  refine ⟨⟨by rw [b16, a16], by rw [b17, a17], by rw [b18, mate2 hy hp], by rw [b19, a19, h1, h2]; omega, by rw [b22, a22]; omega, by rw [bj 23 (by omega), aj 23 (by omega)], by rw [bj 24 (by omega), aj 24 (by omega)]⟩, fun p hpp => ?_⟩
  obtain ⟨p4, -⟩ := pair_of hy hp hpp
  obtain ⟨c1, c2⟩ := hc p hpp
  exact ⟨by rw [bj p (by omega), aj p (by omega)], c1, c2, by rw [bj (12 + p) (by omega), aj (12 + p) (by omega)]⟩
theorem strokes_t (ha : isW a) (h5 : 175 < a) (hy : Yk y) (hL : 0 < y 0 0) : ∀ (d i m N : Nat) (g : Int) (r : Nat → Int) (H : zM) (idle : Int), i + d = N → N ≤ 999 → d < m → Yd H y → Vb y g r → Pr y r → g + 9 * d ≤ 100000000 → ist y H r idle → ∃ H' r', f_X6_strokesThrough_l6 m (mk (putW H a r) b) 175 1 a (ii N) (ii i) (ii idle) = some (ii (nv (gon y d r i)), mk (putW H' a r') b) ∧ ∀ c k, ¬ (c = 175 ∧ 4 ≤ k ∧ k < 8) → H' c k = H c k := by
  intro d
  induction d with
  | zero =>
    intro i m N g r H idle hi hN hm hYd hv hp hg hs
    obtain ⟨m', rfl⟩ : ∃ m', m = m' + 1 := ⟨m - 1, by omega⟩
    refine ⟨H, r, ?_, fun _ _ _ => rfl⟩
    show f_X6_strokesThrough_w6 (f_X6_strokesThrough_l6 m') (mk (putW H a r) b) 175 1 a (ii N) (ii i) (ii idle) = _
    unfold f_X6_strokesThrough_w6 f_X6_strokesThrough_b76 gon
    rw [if_pos (by rw [ii_le (by omega) (by omega) (by omega) (by omega)]; omega), ck_mk ha.1, through_mk ha hy hYd hv hL, b2_mk]
    by_cases ht : thr y r
    · rw [if_pos ht, if_neg (by decide), if_pos ht]
      rfl
    · rw [if_neg ht, if_pos (by decide), if_neg ht]
      rfl
  | succ d ih =>
    intro i m N g r H idle hi hN hm hYd hv hp hg hs
    obtain ⟨m', rfl⟩ : ∃ m', m = m' + 1 := ⟨m - 1, by omega⟩
    show ∃ H' r', f_X6_strokesThrough_w6 (f_X6_strokesThrough_l6 m') (mk (putW H a r) b) 175 1 a (ii N) (ii i) (ii idle) = _ ∧ _
    unfold f_X6_strokesThrough_w6 gon
    rw [if_neg (by rw [ii_le (by omega) (by omega) (by omega) (by omega)]; omega), ck_mk ha.1, through_mk ha hy hYd hv hL, b2_mk]
    by_cases ht : thr y r
    · refine ⟨H, r, ?_, fun _ _ _ => rfl⟩
      unfold f_X6_strokesThrough_b76
      rw [if_pos ht, if_neg (by decide), ck_mk ha.1, through_mk ha hy hYd hv hL, b2_mk, if_pos ht, if_neg (by decide), if_pos ht]
      rfl
    · rw [if_neg ht, if_pos (by decide), ck_mk ha.1, once_mk ha hy hYd hv (by omega) hp ht, b2_mk, if_neg ht]
      have hv2 := plr_Vb hy hv hp ht
      have hp2 := (plr_Pr hy hp).1
      have hcb := cut_b hy hv hp ht
      obtain ⟨-, a16, a17, a18⟩ := plr_Pr hy hp
      have e1 : (1 : Int32) = ii 1 := by decide
      have e3 : (3 : Int32) = ii 3 := by decide
      have ei : ii (i : Int) + 1 = ii ((i + 1 : Nat) : Int) := by rw [e1, ii_add]; rfl
      -- what follows a stroke, when the pair is to be remembered
      have k1 : ∀ H1 : zM, (∀ c k, ¬ (c = 175 ∧ 4 ≤ k ∧ k < 8) → H1 c k = H c k) → ∃ H' r', f_X6_strokesThrough_b62 (f_X6_strokesThrough_l6 m') (mk (putW H1 a (plr y r)) b) 175 1 a (ii N) (ii ((i + 1 : Nat) : Int)) (ii 1) = some (ii (nv (gon y d (plr y r) (i + 1))), mk (putW H' a r') b) ∧ ∀ c k, ¬ (c = 175 ∧ 4 ≤ k ∧ k < 8) → H' c k = H c k := by
        intro H1 hH1
        obtain ⟨H2, f2, q2, o2⟩ := remem_mk (h := H1) (b := b) ha h5 hy hp2
        obtain ⟨H3, r3, f3, o3⟩ := ih (i + 1) m' N (g + 9) (plr y r) H2 1 (by omega) hN (by omega) (Yd_c hYd (fun c k _ _ => by rw [o2 c k (by omega), hH1 c k (by omega)])) hv2 hp2 (by omega) (Or.inr (Or.inl ⟨rfl, q2⟩))
        refine ⟨H3, r3, ?_, fun c k q => by rw [o3 c k q, o2 c k q, hH1 c k q]⟩
        unfold f_X6_strokesThrough_b62
        rw [e1, if_pos rfl, ck_mk zk_175, f2, b1_mk]
        exact f3
      have k0 : ∀ idle' : Int, (idle' = 0 ∨ idle' = 2) → ist y H (plr y r) idle' → ∃ H' r', f_X6_strokesThrough_b62 (f_X6_strokesThrough_l6 m') (mk (putW H a (plr y r)) b) 175 1 a (ii N) (ii ((i + 1 : Nat) : Int)) (ii idle') = some (ii (nv (gon y d (plr y r) (i + 1))), mk (putW H' a r') b) ∧ ∀ c k, ¬ (c = 175 ∧ 4 ≤ k ∧ k < 8) → H' c k = H c k := by
        intro idle' h0 hs'
        obtain ⟨H3, r3, f3, o3⟩ := ih (i + 1) m' N (g + 9) (plr y r) H idle' (by omega) hN (by omega) hYd hv2 hp2 (by omega) hs'
        refine ⟨H3, r3, ?_, o3⟩
        unfold f_X6_strokesThrough_b62
        rw [e1, if_neg (by rw [ii_eq (by omega) (by omega) (by omega) (by omega)]; omega)]
        exact f3
      by_cases hc : cut y r = 0
      · rw [if_pos (by rw [ii_lits.1, ii_le (by omega) (by omega) (by omega) (by omega)]; omega)]
        unfold f_X6_strokesThrough_b36
        rw [e1, ii_add, ii_add, v_mk, e3]
        rcases hs with rfl | ⟨rfl, hs⟩ | ⟨rfl, A, gA, rA, cA, tA, vA, pA, q4⟩
        · rw [if_neg (by decide)]
          exact k1 H (fun _ _ _ => rfl)
        · rw [if_neg (by decide)]
          exact k0 2 (Or.inr rfl) (Or.inr (Or.inr ⟨rfl, r, g, rfl, hc, ht, hv, hp, hs⟩))
        · rw [if_pos (by decide), ck_mk zk_175]
          subst rA
          obtain ⟨-, b16, b17, b18⟩ := plr_Pr hy pA
          obtain ⟨t, ft, hcase⟩ := fresher_mk (h := H) (b := b) (r := plr y (plr y A)) (A := A) ha h5 hy hp2 hv2 vA (by rw [a16, b16]) (by rw [a17, b17]) q4
          rw [ft, b2_mk]
          rcases hcase with rfl | ⟨rfl, hcase⟩
          · rw [if_pos (by decide)]
            exact k1 H (fun _ _ _ => rfl)
          · rw [if_neg (by decide)]
            refine ⟨H, plr y (plr y A), ?_, fun _ _ _ => rfl⟩
            rw [stall hy d (i + 1) gA A vA pA tA cA hc (wor_of hy vA pA cA hc hcase)]
            rfl
      · rw [if_neg (by rw [ii_lits.1, ii_le (by omega) (by omega) (by omega) (by omega)]; omega)]
        unfold f_X6_strokesThrough_b36
        rw [ei, v_mk, e3, if_neg (by decide)]
        exact k0 0 (Or.inl rfl) (Or.inl rfl)
theorem strokes_mk {N : Nat} {H : zM} (ha : isW a) (h5 : 175 < a) (hy : Yk y) (hL : 0 < y 0 0) (hN : N ≤ 999) (hYd : Yd H y) (hv : Vb y g r) (hp : Pr y r) (hg : g ≤ 90000000) : ∃ H' r', f_X6_strokesThrough (mk (putW H a r) b) 175 1 a (ii N) = some (ii (nv (gon y N r 0)), mk (putW H' a r') b) ∧ ∀ c k, ¬ (c = 175 ∧ 4 ≤ k ∧ k < 8) → H' c k = H c k := by
  unfold f_X6_strokesThrough
  exact strokes_t ha h5 hy hL N 0 ps_fu N g r H 0 (by omega) hN (by unfold ps_fu; omega) hYd hv hp (by omega) (Or.inl rfl)
/-! the model's tries -/
theorem mgo_t (hy : Yk y) {H : zM} (hYm : Ym H y) : ∀ (d i m N : Nat) (g : Int) (r : Nat → Int), i + d = N → N ≤ 999 → d < m → Vb y g r → Pr y r → g + 9 * d ≤ 100000000 → ∃ r', f_X10_goOn_l2 m (mk (putM H 28 r) b) 205 (ii N) (ii i) = some (ii (fv (gon y d r i)), mk (putM H 28 r') b) := by
  intro d
  induction d with
  | zero =>
    intro i m N g r hi hN hm hv hp hg
    obtain ⟨m', rfl⟩ : ∃ m', m = m' + 1 := ⟨m - 1, by omega⟩
    refine ⟨r, ?_⟩
    show f_X10_goOn_w2 (f_X10_goOn_l2 m') (mk (putM H 28 r) b) 205 (ii N) (ii i) = _
    unfold f_X10_goOn_w2 f_X10_goOn_b29 gon
    rw [if_pos (by rw [ii_le (by omega) (by omega) (by omega) (by omega)]; omega), ck_mk zk_205, show (28 : Int32) = ii ((28 : Nat) : Int) by decide, mthrough_mk hy hYm hv (by omega), b2_mk]
    by_cases ht : thr y r
    · rw [if_pos ht, if_neg (by decide), if_pos ht]
      rfl
    · rw [if_neg ht, if_pos (by decide), if_neg ht]
      rfl
  | succ d ih =>
    intro i m N g r hi hN hm hv hp hg
    obtain ⟨m', rfl⟩ : ∃ m', m = m' + 1 := ⟨m - 1, by omega⟩
    show ∃ r', f_X10_goOn_w2 (f_X10_goOn_l2 m') (mk (putM H 28 r) b) 205 (ii N) (ii i) = _
    unfold f_X10_goOn_w2 gon
    rw [if_neg (by rw [ii_le (by omega) (by omega) (by omega) (by omega)]; omega), ck_mk zk_205, show (28 : Int32) = ii ((28 : Nat) : Int) by decide, mthrough_mk hy hYm hv (by omega), b2_mk]
    by_cases ht : thr y r
    · refine ⟨r, ?_⟩
      unfold f_X10_goOn_b29
      rw [if_pos ht, if_neg (by decide), show (28 : Int32) = ii ((28 : Nat) : Int) by decide, ck_mk zk_205, mthrough_mk hy hYm hv (by omega), b2_mk, if_pos ht, if_neg (by decide), if_pos ht]
      rfl
    · rw [if_neg ht, if_pos (by decide), ck_mk zk_205, mpull_mk hy hYm hv (by omega) (by omega) hp ht, b2_mk, if_neg ht, show ii (i : Int) + 1 = ii ((i + 1 : Nat) : Int) by rw [ii_lits.2.1, ii_add]; rfl, v_mk]
      exact ih (i + 1) m' N (g + 9) (plr y r) (by omega) hN (by omega) (plr_Vb hy hv hp ht) (plr_Pr hy hp).1 (by omega)
theorem mgo_mk {N : Nat} {H : zM} (hy : Yk y) (hYm : Ym H y) (hN : N ≤ 999) (hv : Vb y g r) (hp : Pr y r) (hg : g ≤ 90000000) : ∃ r', f_X10_goOn (mk (putM H 28 r) b) 205 (ii N) = some (ii (fv (gon y N r 0)), mk (putM H 28 r') b) := by
  unfold f_X10_goOn
  exact mgo_t hy hYm N 0 ps_fu N g r (by omega) hN (by unfold ps_fu; omega) hv hp (by omega)
end
