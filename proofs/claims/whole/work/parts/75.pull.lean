/-! a stroke, in whole numbers: y 0 0 layers, 1 people, 3 limit, 4 resin, 5 closes; y 1 woods, 2 forces, 3 heights, 4 tires, 6 bents -/
def Yk (y : Nat → Nat → Int) : Prop := (0 ≤ y 0 0 ∧ y 0 0 ≤ 12) ∧ (0 ≤ y 0 1 ∧ y 0 1 ≤ 4) ∧ (0 ≤ y 0 3 ∧ y 0 3 ≤ 9) ∧ (0 ≤ y 0 4 ∧ y 0 4 ≤ 9) ∧ (0 ≤ y 0 5 ∧ y 0 5 ≤ 12) ∧ (∀ j : Nat, (j : Int) < y 0 0 → 1 ≤ y 1 j ∧ y 1 j ≤ 9) ∧ ∀ p : Nat, (p : Int) < y 0 1 → (1 ≤ y 2 p ∧ y 2 p ≤ 20) ∧ (0 ≤ y 3 p ∧ y 3 p ≤ 9) ∧ (0 ≤ y 4 p ∧ y 4 p ≤ 5) ∧ (0 ≤ y 6 p ∧ y 6 p ≤ 2)
/-- the class's yard -/
def Yd (h : Nat → Nat → Int32) (y : Nat → Nat → Int) : Prop := h 1 0 = ii (y 0 0) ∧ h 1 1 = ii (y 0 1) ∧ h 1 3 = ii (y 0 3) ∧ h 1 4 = ii (y 0 4) ∧ h 1 5 = ii (y 0 5) ∧ (∀ j : Nat, (j : Int) < y 0 0 → h 2 j = ii (y 1 j)) ∧ ∀ p : Nat, (p : Int) < y 0 1 → h 3 p = ii (y 2 p) ∧ h 4 p = ii (y 3 p) ∧ h 5 p = ii (y 4 p) ∧ h 7 p = ii (y 6 p)
/-- the bounds of a row -/
def Vb (y : Nat → Nat → Int) (g : Int) (r : Nat → Int) : Prop := (0 ≤ r 19 ∧ r 19 ≤ 100 * y 0 0) ∧ (0 ≤ r 20 ∧ r 20 ≤ g) ∧ (-g ≤ r 21 ∧ r 21 ≤ g) ∧ (0 ≤ r 22 ∧ r 22 ≤ g) ∧ (r 23 = 0 ∨ r 23 = 1) ∧ (1 ≤ r 24 ∧ r 24 ≤ 9) ∧ ∀ p : Nat, (p : Int) < y 0 1 → (1 ≤ r p ∧ r p ≤ 20) ∧ (0 ≤ r (4 + p) ∧ r (4 + p) ≤ 999) ∧ (-9 ≤ r (8 + p) ∧ r (8 + p) ≤ 9) ∧ (0 ≤ r (12 + p) ∧ r (12 + p) ≤ 9)
def Pr (y : Nat → Nat → Int) (r : Nat → Int) : Prop := (0 ≤ r 16 ∧ r 16 < y 0 1) ∧ (0 ≤ r 17 ∧ r 17 < y 0 1) ∧ r 16 ≠ r 17 ∧ (r 18 = r 16 ∨ r 18 = r 17)
abbrev thr (y : Nat → Nat → Int) (r : Nat → Int) : Prop := 100 * y 0 0 ≤ r 19
def mate (r : Nat → Int) : Int := if r 18 = r 16 then r 17 else r 16
def pa (y : Nat → Nat → Int) (r : Nat → Int) (p : Nat) : Int := max 0 (min (y 2 p) (r p) + r (8 + p) - r (4 + p) / 10)
def bk (y : Nat → Nat → Int) (d : Int) : Int := if 5 < d ∧ y 0 3 < d - 5 then 1 else 0
def pb (y : Nat → Nat → Int) (r : Nat → Int) (p : Nat) (d : Int) : Int := if bk y d = 1 then 0 else if 5 < d then pa y r p + pa y r p / 2 else if d < 5 then pa y r p - d else pa y r p
def pc (y : Nat → Nat → Int) (r : Nat → Int) (p : Nat) (d : Int) : Int := pb y r p d - r 22 / 10
def pe (y : Nat → Nat → Int) (r : Nat → Int) (p : Nat) (d : Int) : Int := max 0 (if r 23 = 0 ∧ y 0 5 ≤ r 19 / 100 then td (pc y r p d) 2 else pc y r p d)
def pq (y : Nat → Nat → Int) (r : Nat → Int) (p q : Nat) : Int := pe y r p (r (12 + q)) * r 24 / y 1 (r 19 / 100).toNat
def cut (y : Nat → Nat → Int) (r : Nat → Int) : Int := pq y r (r 18).toNat (mate r).toNat
def fe (v d bent : Int) : Int := cl9 (if 1 ≤ d ∧ d < 5 then (if bent = 1 then v + 1 else if bent = 2 then v - 1 else v) else if v = 0 then v else if 0 < v then v - 1 else v + 1)
/-- the row behind a stroke -/
def plr (y : Nat → Nat → Int) (r : Nat → Int) : Nat → Int := fun k =>
  if k = 19 then min (r 19 + cut y r) (100 * y 0 0) else if k = 22 then r 22 + y 0 4
  else if k = 4 + (r 18).toNat then clt (clt (r (4 + (r 18).toNat) + 2 * bk y (r (12 + (mate r).toNat))) + y 4 (r 18).toNat)
  else if k = 4 + (mate r).toNat then clt (clt (r (4 + (mate r).toNat) + 2 * bk y (r (12 + (mate r).toNat))) - 1)
  else if k = 8 + (r 18).toNat then fe (r (8 + (r 18).toNat)) (r (12 + (mate r).toNat)) (y 6 (r 18).toNat)
  else if k = 21 then (if 0 < cut y r then r 21 + (y 3 (r 16).toNat - y 3 (r 17).toNat) else r 21)
  else if k = 20 then r 20 + 1 else if k = 18 then mate r else r k
theorem pa_b {y : Nat → Nat → Int} {r : Nat → Int} {p : Nat} {g : Int} (hy : Yk y) (hv : Vb y g r) (hp : (p : Int) < y 0 1) : 0 ≤ pa y r p ∧ pa y r p ≤ 29 := by
  obtain ⟨-, -, -, -, -, -, hy⟩ := hy
  obtain ⟨-, -, -, -, -, -, hv⟩ := hv
  obtain ⟨⟨h1, h2⟩, -⟩ := hy p hp
  obtain ⟨⟨v1, v2⟩, ⟨v3, v4⟩, ⟨v5, v6⟩, -⟩ := hv p hp
  unfold pa
  omega
theorem pb_b {y : Nat → Nat → Int} {r : Nat → Int} {p : Nat} {g d : Int} (hy : Yk y) (hv : Vb y g r) (hp : (p : Int) < y 0 1) (hd : 0 ≤ d ∧ d ≤ 9) : -5 ≤ pb y r p d ∧ pb y r p d ≤ 43 := by
  have h := pa_b hy hv hp
  unfold pb
  repeat' split
  all_goals omega
theorem pe_b {y : Nat → Nat → Int} {r : Nat → Int} {p : Nat} {g d : Int} (hy : Yk y) (hv : Vb y g r) (hp : (p : Int) < y 0 1) (hd : 0 ≤ d ∧ d ≤ 9) : 0 ≤ pe y r p d ∧ pe y r p d ≤ 43 := by
  have h := pb_b hy hv hp hd
  obtain ⟨-, -, -, ⟨g1, g2⟩, -⟩ := hv
  unfold pe pc td
  repeat' split
  all_goals omega
section
variable {h : Nat → Nat → Int32} {b : Bool} {y : Nat → Nat → Int} {r : Nat → Int} {a : Nat} {g : Int}
theorem lits2 : (999 : Int32) = ii 999 ∧ (100 : Int32) = ii 100 ∧ (10 : Int32) = ii 10 ∧ (5 : Int32) = ii 5 ∧ (2 : Int32) = ii 2 ∧ (1 : Int32) = ii 1 ∧ (0 : Int32) = ii 0 ∧ (9 : Int32) = ii 9 ∧ (-9 : Int32) = ii (-9) ∧ (-1 : Int32) = ii (-1) := by decide
theorem buckles_mk {d : Int} (hd : 0 ≤ d ∧ d ≤ 9) (hy : Yk y) (hh : h 1 3 = ii (y 0 3)) : f_X7_buckles (mk h b) 1 (ii d) = some (ii (bk y d), mk h b) := by
  obtain ⟨-, -, ⟨y1, y2⟩, -⟩ := hy
  unfold f_X7_buckles bk
  rw [lits2.2.2.2.1]
  by_cases h1 : d ≤ 5
  · rw [if_pos (by rw [ii_le (by omega) (by omega) (by omega) (by omega)]; omega), if_neg (by omega)]
    rfl
  · rw [if_neg (by rw [ii_le (by omega) (by omega) (by omega) (by omega)]; omega), gI_mk zk_1, hh, ii_sub]
    by_cases h2 : d - 5 ≤ y 0 3
    · rw [if_pos (by rw [ii_le (by omega) (by omega) (by omega) (by omega)]; omega), if_neg (by omega)]
      rfl
    · rw [if_neg (by rw [ii_le (by omega) (by omega) (by omega) (by omega)]; omega), if_pos (by omega)]
      rfl
/-- a person's number in a row of four -/
theorem pn {x n : Int} (h0 : 0 ≤ x) (h1 : x < n) (h2 : n ≤ 4) : x.toNat < 4 ∧ ((x.toNat : Nat) : Int) < n ∧ ((x.toNat : Nat) : Int) = x := by omega
theorem pullOf_mk {p d : Int} (ha : isW a) (hy : Yk y) (hYd : Yd h y) (hv : Vb y g r) (hg : g ≤ 100000000) (hp0 : 0 ≤ p) (hp : p < y 0 1) (hd : 0 ≤ d ∧ d ≤ 9) : f_X7_pullOf (mk (putW h a r) b) a 1 (ii p) (ii d) = some (ii (pe y r p.toNat d), mk (putW h a r) b) := by
  have hb1 := pa_b hy hv (p := p.toNat) (by omega)
  have hb2 := pb_b hy hv (p := p.toNat) (by omega) hd
  have hb3 := pe_b hy hv (p := p.toNat) (by omega) hd
  have hy' := hy
  obtain ⟨⟨L0, L1⟩, ⟨hn0, hn⟩, -, -, ⟨c1, c2⟩, -, hyp⟩ := hy
  obtain ⟨hp4, hpn, hpe⟩ := pn hp0 hp hn
  obtain ⟨⟨f1, f2⟩, -⟩ := hyp p.toNat hpn
  obtain ⟨-, -, Y3, -, Y5, -, Yp⟩ := hYd
  obtain ⟨Yf, -⟩ := Yp p.toNat hpn
  obtain ⟨⟨d1, d2⟩, -, -, ⟨g1, g2⟩, hw, -, hvp⟩ := hv
  obtain ⟨⟨v1, v2⟩, ⟨v3, v4⟩, ⟨v5, v6⟩, -⟩ := hvp p.toNat hpn
  obtain ⟨k0, k1, k2, k3, k4, l1, l2, l3, l4, r9, r10, r11, r12, gg1, gg2, gg3⟩ := ha
  have h18 : ∀ c, c < 18 → ∀ k, putW h a r c k = h c k := fun c hc k => putW_o h a r (Or.inl (by omega)) k
  obtain ⟨w0, w1, w2, w3, w4, w5, w6, w7, w8⟩ := putW_r h a r
  obtain ⟨e999, e100, e10, e5, e2, e1, e0, -⟩ := lits2
  unfold f_X7_pullOf
  rw [gR_mk zk_1 (zr_1_7 b), at_mk zk_3 hp0 (by rw [zl_3]; omega) (by rw [zl_3]; omega), b2_mk, gR_mk k0 (r9 b), at_mk k1 hp0 (by omega) (by omega), b2_mk, h18 3 (by omega), Yf, putW_1 _ _ _ hp4, ii_min (by omega) (by omega) (by omega) (by omega), v_mk, gR_mk k0 (r12 b), at_mk k4 hp0 (by omega) (by omega), b2_mk, gR_mk k0 (r11 b), at_mk k3 hp0 (by omega) (by omega), b2_mk, putW_4 _ _ _ hp4, putW_3 _ _ _ hp4, e10, ii_div (by omega) (by omega) (by omega) (by omega), ii_add, ii_sub, e0, ii_max (by omega) (by omega) (by omega) (by omega), v_mk, buckles_mk hd hy' (by rw [h18 1 (by omega)]; exact Y3), b2_mk]
  have e92 : ∀ x : Int, -5 ≤ x → x ≤ 43 → f_X7_pullOf_b92 (mk (putW h a r) b) a 1 (ii x) = some (ii (max 0 (if r 23 = 0 ∧ y 0 5 ≤ r 19 / 100 then td (x - r 22 / 10) 2 else x - r 22 / 10)), mk (putW h a r) b) := by
    intro x hx1 hx2
    have e131 : ∀ z : Int, -100000000 ≤ z → z ≤ 43 → f_X7_pullOf_b131 (mk (putW h a r) b) (ii z) = some (ii (max 0 z), mk (putW h a r) b) := by
      intro z h1 h2
      unfold f_X7_pullOf_b131
      rw [e0, ii_max (by omega) (by omega) (by omega) (by omega), v_mk]
    unfold f_X7_pullOf_b92
    rw [gI_mk k0, w6, e10, ii_div (by omega) (by omega) (by omega) (by omega), ii_sub, v_mk, gI_mk k0, w8, e0]
    rcases hw with hw | hw
    · rw [hw, if_pos rfl, gI_mk k0, w3, gI_mk zk_1, h18 1 (by omega), Y5, e100, ii_div (by omega) (by omega) (by omega) (by omega)]
      by_cases hc : r 19 / 100 < y 0 5
      · rw [if_pos (by rw [ii_lt (by omega) (by omega) (by omega) (by omega)]; exact hc), e131 _ (by omega) (by omega), if_neg (by omega)]
      · rw [if_neg (by rw [ii_lt (by omega) (by omega) (by omega) (by omega)]; exact hc), e2, ii_td (by omega) (by omega) (by omega) (by omega), v_mk, e131 _ (by unfold td; split <;> omega) (by unfold td; split <;> omega), if_pos (by omega)]
    · rw [hw, if_neg (by decide), e131 _ (by omega) (by omega), if_neg (by omega)]
  have hpe' : pe y r p.toNat d = max 0 (if r 23 = 0 ∧ y 0 5 ≤ r 19 / 100 then td (pb y r p.toNat d - r 22 / 10) 2 else pb y r p.toNat d - r 22 / 10) := rfl
  have hpa : max 0 (min (y 2 p.toNat) (r p.toNat) + r (8 + p.toNat) - r (4 + p.toNat) / 10) = pa y r p.toNat := rfl
  have hpa' : max (min (y 2 p.toNat) (r p.toNat) + r (8 + p.toNat) - r (4 + p.toNat) / 10) 0 = pa y r p.toNat := by rw [← hpa, Int.max_comm]
  rw [hpe']
  first | rw [hpa] | rw [hpa']
  by_cases hbk : bk y d = 1
  · rw [hbk, if_neg (by decide), e92 0 (by omega) (by omega)]
    have : pb y r p.toNat d = 0 := by unfold pb; rw [if_pos hbk]
    rw [this]
  · have hbk0 : bk y d = 0 := by unfold bk at hbk ⊢; split at hbk; exact absurd rfl hbk; rename_i hq; rw [if_neg hq]
    rw [hbk0, if_pos rfl, e5]
    by_cases h5 : d ≤ 5
    · rw [if_pos (by rw [ii_le (by omega) (by omega) (by omega) (by omega)]; exact h5)]
      by_cases h55 : 5 ≤ d
      · rw [if_pos (by rw [ii_le (by omega) (by omega) (by omega) (by omega)]; exact h55), e92 _ (by omega) (by omega)]
        have : pb y r p.toNat d = pa y r p.toNat := by unfold pb; rw [if_neg hbk, if_neg (by omega), if_neg (by omega)]
        rw [this]
      · rw [if_neg (by rw [ii_le (by omega) (by omega) (by omega) (by omega)]; exact h55), ii_sub, v_mk, e92 _ (by omega) (by omega)]
        have : pb y r p.toNat d = pa y r p.toNat - d := by unfold pb; rw [if_neg hbk, if_neg (by omega), if_pos (by omega)]
        rw [this]
    · rw [if_neg (by rw [ii_le (by omega) (by omega) (by omega) (by omega)]; exact h5), e2, ii_div (by omega) (by omega) (by omega) (by omega), ii_add, v_mk, e92 _ (by omega) (by omega)]
      have : pb y r p.toNat d = pa y r p.toNat + pa y r p.toNat / 2 := by unfold pb; rw [if_neg hbk, if_pos (by omega)]
      rw [this]
theorem cutBy_mk {x : Int} (ha : isW a) (hy : Yk y) (hYd : Yd h y) (hv : Vb y g r) (ht : ¬ thr y r) (hx : 0 ≤ x ∧ x ≤ 43) : f_X7_cutBy (mk (putW h a r) b) a 1 (ii x) = some (ii (x * r 24 / y 1 (r 19 / 100).toNat), mk (putW h a r) b) := by
  obtain ⟨⟨L0, L1⟩, -, -, -, -, hyw, -⟩ := hy
  obtain ⟨-, -, -, -, -, Yw, -⟩ := hYd
  obtain ⟨⟨d1, d2⟩, -, -, -, -, ⟨t1, t2⟩, -⟩ := hv
  unfold thr at ht
  have hj : (((r 19 / 100).toNat : Nat) : Int) = r 19 / 100 := by omega
  obtain ⟨w1, w2⟩ := hyw (r 19 / 100).toNat (by omega)
  have Y1 := Yw (r 19 / 100).toNat (by omega)
  obtain ⟨k0, k1, k2, k3, k4, l1, l2, l3, l4, r9, r10, r11, r12, gg1, gg2, gg3⟩ := ha
  have h18 : ∀ c, c < 18 → ∀ k, putW h a r c k = h c k := fun c hc k => putW_o h a r (Or.inl (by omega)) k
  obtain ⟨w0, w1', w2', w3, w4, w5, w6, w7, w8⟩ := putW_r h a r
  obtain ⟨e999, e100, e10, e5, e2, e1, e0, -⟩ := lits2
  have hm : 0 ≤ x * r 24 ∧ x * r 24 ≤ 387 := by
    have h1 : 0 ≤ x * r 24 := Int.mul_nonneg (by omega) (by omega)
    have h2 : x * r 24 ≤ 43 * 9 := Int.mul_le_mul hx.2 t2 (by omega) (by omega)
    omega
  unfold f_X7_cutBy
  rw [gR_mk zk_1 (zr_1_6 b), gI_mk k0, w3, e100, ii_div (by omega) (by omega) (by omega) (by omega), at_mk zk_2 (by omega) (by rw [zl_2]; omega) (by rw [zl_2]; omega), b2_mk, h18 2 (by omega), Y1, e0, if_neg (by rw [ii_le (by omega) (by omega) (by omega) (by omega)]; omega), gI_mk k0, w7]
  unfold ps_dv
  rw [e0, if_neg (by rw [ii_eq (by omega) (by omega) (by omega) (by omega)]; omega), ii_mul, ii_div (by omega) (by omega) (by omega) (by omega)]
  rfl
theorem lean_mk (ha : isW a) (hy : Yk y) (hYd : Yd h y) (hp : Pr y r) : f_X7_lean (mk (putW h a r) b) a 1 = some (ii (y 3 (r 16).toNat - y 3 (r 17).toNat), mk (putW h a r) b) := by
  obtain ⟨-, ⟨hn0, hn⟩, -⟩ := hy
  obtain ⟨-, -, -, -, -, -, Yp⟩ := hYd
  obtain ⟨⟨p1, p2⟩, ⟨q1, q2⟩, -⟩ := hp
  obtain ⟨-, Yl, -⟩ := Yp (r 16).toNat (by omega)
  obtain ⟨-, Yr, -⟩ := Yp (r 17).toNat (by omega)
  obtain ⟨k0, k1, k2, k3, k4, l1, l2, l3, l4, r9, r10, r11, r12, gg1, gg2, gg3⟩ := ha
  have h18 : ∀ c, c < 18 → ∀ k, putW h a r c k = h c k := fun c hc k => putW_o h a r (Or.inl (by omega)) k
  obtain ⟨w0, w1', w2', w3, w4, w5, w6, w7, w8⟩ := putW_r h a r
  unfold f_X7_lean
  rw [gR_mk zk_1 (zr_1_8 b), gI_mk k0, w0, at_mk zk_4 p1 (by rw [zl_4]; omega) (by rw [zl_4]; omega), b2_mk, gR_mk zk_1 (zr_1_8 b), gI_mk k0, w1', at_mk zk_4 q1 (by rw [zl_4]; omega) (by rw [zl_4]; omega), b2_mk, h18 4 (by omega), h18 4 (by omega), Yl, Yr, ii_sub]
theorem feel_mk {p d t : Int} (ha : isW a) (hp0 : 0 ≤ p) (hp4 : p < 4) (hd : 0 ≤ d ∧ d ≤ 9) (ht : 0 ≤ t ∧ t ≤ 2) (hr : -9 ≤ r (8 + p.toNat) ∧ r (8 + p.toNat) ≤ 9) : f_X7_feel (mk (putW h a r) b) a (ii p) (ii t) (ii d) = some (mk (putW h a (rs r (8 + p.toNat) (fe (r (8 + p.toNat)) d t))) b) := by
  have hp : p.toNat < 4 := by omega
  obtain ⟨k0, k1, k2, k3, k4, l1, l2, l3, l4, r9, r10, r11, r12, gg1, gg2, gg3⟩ := ha
  obtain ⟨e999, e100, e10, e5, e2, e1, e0, e9, e99, em1⟩ := lits2
  have e67 : ∀ z : Int, -10 ≤ z → z ≤ 10 → f_X7_feel_b67 (mk (putW h a r) b) a (ii p) (ii z) = some (mk (putW h a (rs r (8 + p.toNat) (cl9 z))) b) := by
    intro z h1 h2
    unfold f_X7_feel_b67
    rw [gR_mk k0 (r12 b), e99, ii_max (by omega) (by omega) (by omega) (by omega), v_mk, e9, ii_min (by omega) (by omega) (by omega) (by omega), v_mk, put_mk k4 hp0 (by omega) (by omega), b1_mk, uI_4 _ _ _ _ hp]
    have : min (max (-9) z) 9 = cl9 z ∧ min 9 (max (-9) z) = cl9 z ∧ min (max z (-9)) 9 = cl9 z ∧ min 9 (max z (-9)) = cl9 z := by unfold cl9; omega
    first | rw [this.1] | rw [this.2.1] | rw [this.2.2.1] | rw [this.2.2.2]
  unfold f_X7_feel fe
  rw [gR_mk k0 (r12 b), at_mk k4 hp0 (by omega) (by omega), b2_mk, putW_4 _ _ _ hp]
  have e47 : (d < 1 ∨ 5 ≤ d) → f_X7_feel_b47 (mk (putW h a r) b) a (ii p) (ii (r (8 + p.toNat))) = some (mk (putW h a (rs r (8 + p.toNat) (cl9 (if 1 ≤ d ∧ d < 5 then (if t = 1 then r (8 + p.toNat) + 1 else if t = 2 then r (8 + p.toNat) - 1 else r (8 + p.toNat)) else if r (8 + p.toNat) = 0 then r (8 + p.toNat) else if 0 < r (8 + p.toNat) then r (8 + p.toNat) - 1 else r (8 + p.toNat) + 1)))) b) := by
    intro hd'
    rw [if_neg (by omega)]
    unfold f_X7_feel_b47
    rw [e0]
    by_cases hz : r (8 + p.toNat) = 0
    · rw [if_pos (by rw [ii_eq (by omega) (by omega) (by omega) (by omega)]; exact hz), e67 _ (by omega) (by omega), if_pos hz]
    · rw [if_neg (by rw [ii_eq (by omega) (by omega) (by omega) (by omega)]; exact hz), if_neg hz]
      by_cases hz0 : r (8 + p.toNat) ≤ 0
      · rw [if_pos (by rw [ii_le (by omega) (by omega) (by omega) (by omega)]; exact hz0), if_neg (by omega)]
        unfold f_X7_feel_b64
        rw [e1, ii_add, v_mk, e67 _ (by omega) (by omega)]
      · rw [if_neg (by rw [ii_le (by omega) (by omega) (by omega) (by omega)]; exact hz0), if_pos (by omega)]
        unfold f_X7_feel_b64
        rw [em1, ii_add, v_mk, e67 _ (by omega) (by omega)]
        rfl
  rw [e1]
  by_cases h1 : d < 1
  · rw [if_pos (by rw [ii_lt (by omega) (by omega) (by omega) (by omega)]; exact h1)]
    exact e47 (Or.inl h1)
  · rw [if_neg (by rw [ii_lt (by omega) (by omega) (by omega) (by omega)]; exact h1), e5]
    by_cases h5 : 5 ≤ d
    · rw [if_pos (by rw [ii_le (by omega) (by omega) (by omega) (by omega)]; exact h5)]
      exact e47 (Or.inr h5)
    · rw [if_neg (by rw [ii_le (by omega) (by omega) (by omega) (by omega)]; exact h5), if_pos (⟨by omega, by omega⟩ : 1 ≤ d ∧ d < 5)]
      by_cases ht1 : t = 1
      · rw [if_pos (by rw [ii_eq (by omega) (by omega) (by omega) (by omega)]; exact ht1), if_pos ht1]
        unfold f_X7_feel_b41
        rw [ii_add, v_mk, e67 _ (by omega) (by omega)]
      · rw [if_neg (by rw [ii_eq (by omega) (by omega) (by omega) (by omega)]; exact ht1), if_neg ht1, e2]
        by_cases ht2 : t = 2
        · rw [if_pos (by rw [ii_eq (by omega) (by omega) (by omega) (by omega)]; exact ht2), if_pos ht2]
          unfold f_X7_feel_b41
          rw [ii_neg, ii_add, v_mk, e67 _ (by omega) (by omega)]
          rfl
        · rw [if_neg (by rw [ii_eq (by omega) (by omega) (by omega) (by omega)]; exact ht2), if_neg ht2]
          unfold f_X7_feel_b41
          rw [e0, ii_add, v_mk, e67 _ (by omega) (by omega), Int.add_zero]
end
