/-! the fewest changes of sides: costs of what lies ahead -/
def bhd (A m v x : Int) : Int := if ((A + x).natAbs : Int) ≤ m then v else 1000
def bcd (A D m : Int) : Nat → Int → Int → Int
  | 0, _, _ => 0
  | d + 1, x, s => min 1000 (min (bhd A m (bcd A D m d (x + s * D) s) (x + s * D)) (bhd A m (bcd A D m d (x - s * D) (-s)) (x - s * D) + 1))
def sty (A D m : Int) (d : Nat) (x s : Int) : Int := bhd A m (bcd A D m d (x + s * D) s) (x + s * D)
def chg (A D m : Int) (d : Nat) (x s : Int) : Int := bhd A m (bcd A D m d (x - s * D) (-s)) (x - s * D) + 1
theorem bcd_s (A D m : Int) (d : Nat) (x s : Int) : bcd A D m (d + 1) x s = min 1000 (min (sty A D m d x s) (chg A D m d x s)) := rfl
theorem bcd_b (A D m : Int) : ∀ (d : Nat) (x s : Int), 0 ≤ bcd A D m d x s ∧ bcd A D m d x s ≤ 1000 := by
  intro d
  induction d with
  | zero => intro x s; exact ⟨Int.le_refl _, by show (0 : Int) ≤ 1000; omega⟩
  | succ d ih =>
    intro x s
    have h1 := ih (x + s * D) s
    have h2 := ih (x - s * D) (-s)
    unfold bcd bhd
    repeat' split
    all_goals omega
theorem sty_b (A D m : Int) (d : Nat) (x s : Int) : (0 ≤ sty A D m d x s ∧ sty A D m d x s ≤ 1000) ∧ 1 ≤ chg A D m d x s ∧ chg A D m d x s ≤ 1001 := by
  have h1 := bcd_b A D m d (x + s * D) s
  have h2 := bcd_b A D m d (x - s * D) (-s)
  unfold sty chg bhd
  repeat' split
  all_goals omega
/-- the latest first change of the fewest, out of the way without any -/
def lfd (A D m : Int) (N : Nat) : Nat → Int
  | 0 => 99
  | d + 1 => if chg A D m d (((N : Int) - (d + 1 : Nat)) * D) 1 < sty A D m d (((N : Int) - (d + 1 : Nat)) * D) 1 then (N : Int) - (d + 1 : Nat) else lfd A D m N d
theorem lfd_s (A D m : Int) (N d : Nat) : lfd A D m N (d + 1) = if chg A D m d (((N : Int) - (d + 1 : Nat)) * D) 1 < sty A D m d (((N : Int) - (d + 1 : Nat)) * D) 1 then (N : Int) - (d + 1 : Nat) else lfd A D m N d := rfl
def lz (v : Int) : Int := if v = 99 then -1 else v
def cbx (b : Bool) : Nat := if b = true then 188 else 187
def lbx (b : Bool) : Nat := if b = true then 187 else 188
def px (st s : Int) : Int := 30 + st + (if 0 ≤ s then 0 else 61)
def rowB (A D m : Int) (H : zM) (c d T : Nat) : Prop := ∀ st s : Int, -T ≤ st → st ≤ T → (s = 1 ∨ s = -1) → H c (px st s).toNat = ii (bcd A D m d (st * D) s)
def flds (A D m : Int) (H : zM) : Prop := H 186 2 = ii A ∧ H 186 3 = ii D ∧ H 186 4 = ii m
section
variable {H : zM} {b : Bool} {A D m : Int}
theorem zr5 (b : Bool) : zR b 186 5 = cbx b + 1 := by
  obtain ⟨h1, h2, h3, h4⟩ := lr_b
  cases b
  · exact h1
  · exact h3
theorem zr6 (b : Bool) : zR b 186 6 = lbx b + 1 := by
  obtain ⟨h1, h2, h3, h4⟩ := lr_b
  cases b
  · exact h2
  · exact h4
theorem cb_k (b : Bool) : zK (cbx b) = 21 ∧ zK (lbx b) = 21 ∧ zL (cbx b) = 122 ∧ zL (lbx b) = 122 ∧ cbx (!b) = lbx b ∧ lbx (!b) = cbx b ∧ cbx b ≠ lbx b ∧ 187 ≤ cbx b ∧ cbx b ≤ 188 ∧ 187 ≤ lbx b ∧ lbx b ≤ 188 := by
  cases b
  · exact ⟨zk_187, zk_188, zl_187, zl_188, rfl, rfl, by decide, by decide, by decide, by decide, by decide⟩
  · exact ⟨zk_188, zk_187, zl_188, zl_187, rfl, rfl, by decide, by decide, by decide, by decide, by decide⟩
theorem back_mk : f_X0_stepBack (mk H b) 186 = some (mk H (!b)) := by
  obtain ⟨h1, h2, h3, h4⟩ := lr_b
  unfold f_X0_stepBack
  rw [gR_mk zk_186 (zr6 b), gR_mk zk_186 (zr5 b)]
  unfold ps_pR
  rw [if_pos (by rw [mk_K]; exact zk_186)]
  show (if ps_K (ps_sR (mk H b) 186 6 (cbx b + 1)) 186 = 0 + 1 then some (ps_sR (ps_sR (mk H b) 186 6 (cbx b + 1)) 186 5 (lbx b + 1)) else none) = _
  rw [if_pos (show ps_K (ps_sR (mk H b) 186 6 (cbx b + 1)) 186 = 0 + 1 from zk_186)]
  have e : ps_uR (ps_uR (zR b) 186 6 (cbx b + 1)) 186 5 (lbx b + 1) = zR (!b) := by
    funext x k
    unfold ps_uR
    by_cases c5 : x = 186 ∧ k = 5
    · rw [if_pos c5, c5.1, c5.2, zr5, (cb_k b).2.2.2.2.1]
    · rw [if_neg c5]
      show (if x = 186 ∧ k = 6 then cbx b + 1 else zR b x k) = _
      by_cases c6 : x = 186 ∧ k = 6
      · rw [if_pos c6, c6.1, c6.2, zr6, (cb_k b).2.2.2.2.2.1]
      · rw [if_neg c6]
        unfold zR
        rw [if_neg (fun q => c5 q.2), if_neg (fun q => c6 q.2), if_neg (fun q => c5 q.2), if_neg (fun q => c6 q.2)]
  show some ((H, ps_uR (ps_uR (zR b) 186 6 (cbx b + 1)) 186 5 (lbx b + 1), zK, zL, zN) : ps_M) = _
  rw [e]
  rfl
theorem place_mk {M : ps_M} {st s : Int} (h1 : -100 ≤ st ∧ st ≤ 100) (hs : s = 1 ∨ s = -1) : f_X0_place M (ii st) (ii s) = some (ii (px st s), M) := by
  unfold f_X0_place f_X0_place_b14 px
  rw [show (30 : Int32) = ii 30 by decide, show (61 : Int32) = ii 61 by decide, show (0 : Int32) = ii 0 by decide, ii_add, ii_add, ii_add]
  rcases hs with rfl | rfl
  · rw [if_pos (by decide), if_pos (by decide)]
  · rw [if_neg (by decide), if_neg (by decide)]
theorem behind_mk {st s v : Int} (hf : flds A D m H) (hA : -100000000 ≤ A ∧ A ≤ 100000000) (hD : -9 ≤ D ∧ D ≤ 9) (hm : 0 ≤ m ∧ m ≤ 999) (h1 : -30 ≤ st ∧ st ≤ 30) (hs : s = 1 ∨ s = -1) (hv : H (lbx b) (px st s).toNat = ii v) : f_X0_costBehind (mk H b) 186 (ii st) (ii s) = some (ii (bhd A m v (st * D)), mk H b) := by
  obtain ⟨f2, f3, f4⟩ := hf
  obtain ⟨k1, k2, l1, l2, -⟩ := cb_k b
  have hb : -270 ≤ st * D ∧ st * D ≤ 270 := by
    have u1 : st * D ≤ 270 := by
      rcases Int.le_total 0 D with q | q
      · have := Int.mul_le_mul_of_nonneg_right h1.2 q; omega
      · have := Int.mul_le_mul_of_nonpos_right h1.1 q; omega
    have u2 : -270 ≤ st * D := by
      rcases Int.le_total 0 D with q | q
      · have := Int.mul_le_mul_of_nonneg_right h1.1 q; omega
      · have := Int.mul_le_mul_of_nonpos_right h1.2 q; omega
    exact ⟨u2, u1⟩
  have hpx : 0 ≤ px st s ∧ px st s < 122 := by unfold px; rcases hs with rfl | rfl <;> simp <;> omega
  unfold f_X0_costBehind f_X0_costBehind_b39
  rw [gI_mk zk_186, f2, gI_mk zk_186, f3, ii_mul, ii_add, show (0 : Int32) = ii 0 by decide, ii_abs (by omega) (by omega), v_mk, gI_mk zk_186, f4]
  unfold bhd
  by_cases c : ((A + st * D).natAbs : Int) ≤ m
  · rw [if_pos (by rw [ii_le (by omega) (by omega) (by omega) (by omega)]; exact c), if_pos c, gR_mk zk_186 (zr6 b), place_mk (by omega) hs, b2_mk, at_mk k2 hpx.1 (by rw [l2]; exact hpx.2) (by rw [l2]; omega), b2_mk, hv]
  · rw [if_neg (by rw [ii_le (by omega) (by omega) (by omega) (by omega)]; exact c), if_neg c]
    rfl
theorem stay_mk {st s : Int} {d T : Nat} (hf : flds A D m H) (hA : -100000000 ≤ A ∧ A ≤ 100000000) (hD : -9 ≤ D ∧ D ≤ 9) (hm : 0 ≤ m ∧ m ≤ 999) (hT : T + 1 ≤ 30) (h1 : -T ≤ st ∧ st ≤ T) (hs : s = 1 ∨ s = -1) (hr : rowB A D m H (lbx b) d (T + 1)) : f_X0_costOfStay (mk H b) 186 (ii st) (ii s) = some (ii (sty A D m d (st * D) s), mk H b) := by
  unfold f_X0_costOfStay
  rw [ck_mk zk_186, ii_add, behind_mk hf hA hD hm (by omega) hs (hr (st + s) s (by omega) (by omega) hs), b2_mk]
  unfold sty
  rw [Int.add_mul]
theorem change_mk {st s : Int} {d T : Nat} (hf : flds A D m H) (hA : -100000000 ≤ A ∧ A ≤ 100000000) (hD : -9 ≤ D ∧ D ≤ 9) (hm : 0 ≤ m ∧ m ≤ 999) (hT : T + 1 ≤ 30) (h1 : -T ≤ st ∧ st ≤ T) (hs : s = 1 ∨ s = -1) (hr : rowB A D m H (lbx b) d (T + 1)) : f_X0_costOfChange (mk H b) 186 (ii st) (ii s) = some (ii (chg A D m d (st * D) s), mk H b) := by
  unfold f_X0_costOfChange
  rw [ck_mk zk_186, ii_sub, ii_neg, behind_mk hf hA hD hm (by omega) (by omega) (hr (st - s) (-s) (by omega) (by omega) (by omega)), b2_mk, show (1 : Int32) = ii 1 by decide, ii_add]
  unfold chg
  rw [Int.sub_mul]
theorem ahead_mk {st s : Int} {d T : Nat} (hf : flds A D m H) (hA : -100000000 ≤ A ∧ A ≤ 100000000) (hD : -9 ≤ D ∧ D ≤ 9) (hm : 0 ≤ m ∧ m ≤ 999) (hT : T + 1 ≤ 30) (h1 : -T ≤ st ∧ st ≤ T) (hs : s = 1 ∨ s = -1) (hr : rowB A D m H (lbx b) d (T + 1)) : f_X0_weighAhead (mk H b) 186 (ii st) (ii s) = some (mk (ps_uI H (cbx b) (px st s).toNat (ii (bcd A D m (d + 1) (st * D) s))) b) := by
  obtain ⟨k1, k2, l1, l2, -⟩ := cb_k b
  obtain ⟨⟨s1, s2⟩, s3, s4⟩ := sty_b A D m d (st * D) s
  have hpx : 0 ≤ px st s ∧ px st s < 122 := by unfold px; rcases hs with rfl | rfl <;> simp <;> omega
  unfold f_X0_weighAhead
  rw [ck_mk zk_186, stay_mk hf hA hD hm hT h1 hs hr, b2_mk, ck_mk zk_186, change_mk hf hA hD hm hT h1 hs hr, b2_mk, ii_min (by omega) (by omega) (by omega) (by omega), v_mk, gR_mk zk_186 (zr5 b), place_mk (by omega) hs, b2_mk, show (1000 : Int32) = ii 1000 by decide, ii_min (by omega) (by omega) (by omega) (by omega), v_mk, put_mk k1 hpx.1 (by rw [l1]; exact hpx.2) (by rw [l1]; omega), b1_mk]
  rw [bcd_s]
theorem px_ne {st s st' s' : Int} (h1 : -29 ≤ st ∧ st ≤ 29) (h2 : -29 ≤ st' ∧ st' ≤ 29) (hs : s = 1 ∨ s = -1) (hs' : s' = 1 ∨ s' = -1) (hne : ¬ (st = st' ∧ s = s')) : (px st s).toNat ≠ (px st' s').toNat := by
  unfold px
  rcases hs with rfl | rfl <;> rcases hs' with rfl | rfl <;> simp <;> omega
theorem row_mk {d t : Nat} (hA : -100000000 ≤ A ∧ A ≤ 100000000) (hD : -9 ≤ D ∧ D ≤ 9) (hm : 0 ≤ m ∧ m ≤ 999) (hT : t + 1 ≤ 30) (k39 : ps_M → Nat → Int32 → Option ps_M) : ∀ (d2 i mm : Nat) (H : zM), i + d2 = 2 * t + 1 → d2 < mm → flds A D m H → rowB A D m H (lbx b) d (t + 1) → (∀ st s : Int, -t ≤ st → st < (i : Int) - t → (s = 1 ∨ s = -1) → H (cbx b) (px st s).toNat = ii (bcd A D m (d + 1) (st * D) s)) → ∃ H', f_X0_weigh_l53 k39 mm (mk H b) 186 (ii (t : Int)) (ii ((i : Int) - t)) = k39 (mk H' b) 186 (ii ((t : Int) - 1)) ∧ (∀ c k, c ≠ cbx b → ¬ (c = 186 ∧ k = 1) → H' c k = H c k) ∧ rowB A D m H' (cbx b) (d + 1) t ∧ H' 186 1 = (if chg A D m d ((t : Int) * D) 1 < sty A D m d ((t : Int) * D) 1 then ii (t : Int) else H 186 1) := by
  obtain ⟨k1, k2, l1, l2, -, -, hne, c1, c2, -⟩ := cb_k b
  intro d2
  induction d2 with
  | zero =>
    intro i mm H hi hmm hf hr hp
    obtain ⟨mm', rfl⟩ : ∃ mm', mm = mm' + 1 := ⟨mm - 1, by omega⟩
    show ∃ H', f_X0_weigh_w53 k39 (f_X0_weigh_l53 k39 mm') (mk H b) 186 (ii (t : Int)) (ii ((i : Int) - t)) = _ ∧ _
    obtain ⟨⟨s1, s2⟩, s3, s4⟩ := sty_b A D m d ((t : Int) * D) 1
    have hrow : ∀ F : zM, (∀ k, F (cbx b) k = H (cbx b) k) → rowB A D m F (cbx b) (d + 1) t := fun F hF st s a c e => by rw [hF]; exact hp st s a (by omega) e
    have e1 : ii (t : Int) + (-ii 1) = ii ((t : Int) - 1) := by rw [ii_neg, ii_add]; congr 1
    unfold f_X0_weigh_w53 f_X0_weigh_b103
    rw [if_pos (by rw [ii_lt (by omega) (by omega) (by omega) (by omega)]; omega), ck_mk zk_186, show (1 : Int32) = ii 1 by decide, change_mk hf hA hD hm hT (by omega) (Or.inl rfl) hr, b2_mk, ck_mk zk_186, stay_mk hf hA hD hm hT (by omega) (Or.inl rfl) hr, b2_mk, e1, v_mk]
    by_cases c : sty A D m d ((t : Int) * D) 1 ≤ chg A D m d ((t : Int) * D) 1
    · refine ⟨H, ?_, fun _ _ _ _ => rfl, hrow H (fun _ => rfl), by rw [if_neg (by omega)]⟩
      rw [if_pos (by rw [ii_le (by omega) (by omega) (by omega) (by omega)]; exact c)]
    · refine ⟨ps_uI H 186 1 (ii (t : Int)), ?_, fun c k _ q => uI_o q, hrow _ (fun k => uI_o (by omega)), by rw [uI_s, if_pos (by omega)]⟩
      rw [if_neg (by rw [ii_le (by omega) (by omega) (by omega) (by omega)]; exact c), pI_mk zk_186, v_mk]
  | succ d2 ih =>
    intro i mm H hi hmm hf hr hp
    obtain ⟨mm', rfl⟩ : ∃ mm', mm = mm' + 1 := ⟨mm - 1, by omega⟩
    show ∃ H', f_X0_weigh_w53 k39 (f_X0_weigh_l53 k39 mm') (mk H b) 186 (ii (t : Int)) (ii ((i : Int) - t)) = _ ∧ _
    have fl1 : ∀ (F : zM) (k : Nat) (v : Int32), flds A D m F → flds A D m (ps_uI F (cbx b) k v) := fun F k v hF => ⟨by rw [uI_o (by omega)]; exact hF.1, by rw [uI_o (by omega)]; exact hF.2.1, by rw [uI_o (by omega)]; exact hF.2.2⟩
    have rw1 : ∀ (F : zM) (k : Nat) (v : Int32), rowB A D m F (lbx b) d (t + 1) → rowB A D m (ps_uI F (cbx b) k v) (lbx b) d (t + 1) := fun F k v hF st s a c e => by rw [uI_o (by omega)]; exact hF st s a c e
    have hf1 := fl1 H (px ((i : Int) - t) 1).toNat (ii (bcd A D m (d + 1) (((i : Int) - t) * D) 1)) hf
    have hr1 := rw1 H (px ((i : Int) - t) 1).toNat (ii (bcd A D m (d + 1) (((i : Int) - t) * D) 1)) hr
    have hf2 := fl1 _ (px ((i : Int) - t) (-1)).toNat (ii (bcd A D m (d + 1) (((i : Int) - t) * D) (-1))) hf1
    have hr2 := rw1 _ (px ((i : Int) - t) (-1)).toNat (ii (bcd A D m (d + 1) (((i : Int) - t) * D) (-1))) hr1
    obtain ⟨H', g1, g2, g3, g4⟩ := ih (i + 1) mm' _ (by omega) (by omega) hf2 hr2 (by
      intro st s a c e
      by_cases q : st = (i : Int) - t ∧ s = -1
      · rw [q.1, q.2, uI_s]
      · rw [uI_o (fun w => px_ne (by omega) (by omega) e (Or.inr rfl) q w.2)]
        by_cases q2 : st = (i : Int) - t ∧ s = 1
        · rw [q2.1, q2.2, uI_s]
        · rw [uI_o (fun w => px_ne (by omega) (by omega) e (Or.inl rfl) q2 w.2)]
          exact hp st s a (by omega) e)
    refine ⟨H', ?_, fun c k a e => by rw [g2 c k a e, uI_o (fun q => a q.1), uI_o (fun q => a q.1)], g3, by rw [g4, uI_o (by omega), uI_o (by omega)]⟩
    unfold f_X0_weigh_w53
    rw [if_neg (by rw [ii_lt (by omega) (by omega) (by omega) (by omega)]; omega), ck_mk zk_186, show (1 : Int32) = ii 1 by decide, ahead_mk hf hA hD hm hT (by omega) (Or.inl rfl) hr, b1_mk, ck_mk zk_186, ii_neg, ahead_mk hf1 hA hD hm hT (by omega) (Or.inr rfl) hr1, b1_mk, ii_add, v_mk, show (i : Int) - t + 1 = ((i + 1 : Nat) : Int) - t by omega]
    exact g1
theorem weigh_l {N : Nat} (hA : -100000000 ≤ A ∧ A ≤ 100000000) (hD : -9 ≤ D ∧ D ≤ 9) (hm : 0 ≤ m ∧ m ≤ 999) (hN : N ≤ 30) : ∀ (t mm : Nat) (b : Bool) (H : zM), t ≤ N → t < mm → flds A D m H → rowB A D m H (cbx b) (N - t) t → H 186 1 = ii (lz (lfd A D m N (N - t))) → ∃ H' b', f_X0_weigh_l39 mm (mk H b) 186 (ii ((t : Int) - 1)) = some (mk H' b') ∧ (∀ c k, c < 186 ∨ 188 < c → H' c k = H c k) ∧ H' 186 0 = ii (if bcd A D m N 0 1 < 1000 then bcd A D m N 0 1 else -1) ∧ H' 186 1 = ii (if bcd A D m N 0 1 < 1000 then lz (lfd A D m N N) else -1) := by
  intro t
  induction t with
  | zero =>
    intro mm b H ht hmm hf hr h1
    obtain ⟨mm', rfl⟩ : ∃ mm', mm = mm' + 1 := ⟨mm - 1, by omega⟩
    obtain ⟨k1, k2, l1, l2, -⟩ := cb_k b
    show ∃ H' b', f_X0_weigh_w39 (f_X0_weigh_l39 mm') (mk H b) 186 (ii (((0 : Nat) : Int) - 1)) = _ ∧ _
    have hb := bcd_b A D m N 0 1
    have hv := hr 0 1 (by omega) (by omega) (Or.inl rfl)
    rw [Nat.sub_zero, Int.zero_mul] at hv
    rw [Nat.sub_zero] at h1
    unfold f_X0_weigh_w39 f_X0_weigh_b145
    rw [if_pos (by decide), gR_mk zk_186 (zr5 b), show (0 : Int32) = ii 0 by decide, show (1 : Int32) = ii 1 by decide, place_mk (by omega) (Or.inl rfl), b2_mk, at_mk k1 (by decide) (by rw [l1]; decide) (by rw [l1]; omega), b2_mk, hv, pI_mk zk_186, gI_mk zk_186, uI_s, show (1000 : Int32) = ii 1000 by decide]
    by_cases c : bcd A D m N 0 1 < 1000
    · refine ⟨ps_uI H 186 0 (ii (bcd A D m N 0 1)), b, ?_, fun c k q => uI_o (by omega), by rw [uI_s, if_pos c], by rw [uI_o (by omega), if_pos c]; exact h1⟩
      rw [if_pos (by rw [ii_lt (by omega) (by omega) (by omega) (by omega)]; exact c)]
    · refine ⟨ps_uI (ps_uI (ps_uI H 186 0 (ii (bcd A D m N 0 1))) 186 0 (ii (-1))) 186 1 (ii (-1)), b, ?_, fun c k q => by rw [uI_o (by omega), uI_o (by omega), uI_o (by omega)], by rw [uI_o (by omega), uI_s, if_neg c], by rw [uI_s, if_neg c]⟩
      rw [if_neg (by rw [ii_lt (by omega) (by omega) (by omega) (by omega)]; exact c), ii_neg, pI_mk zk_186, pI_mk zk_186]
  | succ t ih =>
    intro mm b H ht hmm hf hr h1
    obtain ⟨mm', rfl⟩ : ∃ mm', mm = mm' + 1 := ⟨mm - 1, by omega⟩
    obtain ⟨k1, k2, l1, l2, x1, x2, hne, c1, c2, c3, c4⟩ := cb_k b
    show ∃ H' b', f_X0_weigh_w39 (f_X0_weigh_l39 mm') (mk H b) 186 (ii (((t + 1 : Nat) : Int) - 1)) = _ ∧ _
    rw [show ((t + 1 : Nat) : Int) - 1 = (t : Int) by omega]
    have hd : N - t = (N - (t + 1)) + 1 := by omega
    obtain ⟨H1, f1, o1, r1, z1⟩ := row_mk (b := !b) (d := N - (t + 1)) (t := t) hA hD hm (by omega) (f_X0_weigh_l39 mm') (2 * t + 1) 0 ps_fu H (by omega) (by unfold ps_fu; omega) hf (by rw [x2]; exact hr) (fun st s a c e => by omega)
    rw [x1] at o1 r1
    have hf1 : flds A D m H1 := ⟨by rw [o1 186 2 (by omega) (by omega)]; exact hf.1, by rw [o1 186 3 (by omega) (by omega)]; exact hf.2.1, by rw [o1 186 4 (by omega) (by omega)]; exact hf.2.2⟩
    have eNt : ((N : Int) - ((N - (t + 1) + 1 : Nat) : Int)) = (t : Int) := by omega
    obtain ⟨H2, b2, f2, o2, z20, z21⟩ := ih mm' (!b) H1 (by omega) (by omega) hf1 (by rw [x1, hd]; exact r1) (by
      rw [z1, h1, hd]
      rw [lfd_s, eNt]
      by_cases q : chg A D m (N - (t + 1)) ((t : Int) * D) 1 < sty A D m (N - (t + 1)) ((t : Int) * D) 1
      · rw [if_pos q, if_pos q]
        unfold lz
        rw [if_neg (by omega)]
      · rw [if_neg q, if_neg q])
    refine ⟨H2, b2, ?_, fun c k q => by rw [o2 c k q, o1 c k (by omega) (by omega)], z20, z21⟩
    unfold f_X0_weigh_w39
    rw [if_neg (by rw [ii_lits.1, ii_lt (by omega) (by omega) (by omega) (by omega)]; omega), ck_mk zk_186, back_mk, b1_mk, ii_neg, v_mk, show -(t : Int) = ((0 : Nat) : Int) - t by omega]
    exact f1.trans f2
theorem weigh_mk {N : Nat} {b : Bool} {H : zM} (hA : -100000000 ≤ A ∧ A ≤ 100000000) (hD : -9 ≤ D ∧ D ≤ 9) (hm : 0 ≤ m ∧ m ≤ 999) (hN : 1 ≤ N ∧ N ≤ 30) : ∃ H' b', f_X0_weigh (mk H b) 186 (ii A) (ii D) (ii (N : Int)) (ii m) = some (mk H' b') ∧ (∀ c k, c < 186 ∨ 188 < c → H' c k = H c k) ∧ H' 186 0 = ii (if bcd A D m N 0 1 < 1000 then bcd A D m N 0 1 else -1) ∧ H' 186 1 = ii (if bcd A D m N 0 1 < 1000 then lz (lfd A D m N N) else -1) := by
  obtain ⟨k1, k2, l1, l2, x1, x2, hne, c1, c2, c3, c4⟩ := cb_k b
  have of : ∀ (F : zM) (c k : Nat), c ≠ cbx b → fil F (cbx b) 122 (ii 0) c k = F c k := fun F c k q => by unfold fil; rw [if_neg (fun w => q w.1)]
  obtain ⟨H', b', f1, o1, z1⟩ := weigh_l (A := A) (D := D) (m := m) (N := N) hA hD hm hN.2 N ps_fu b (fil (ps_uI (ps_uI (ps_uI (ps_uI H 186 2 (ii A)) 186 3 (ii D)) 186 4 (ii m)) 186 1 (ii (-1))) (cbx b) 122 (ii 0)) (by omega) (by unfold ps_fu; omega) ⟨by rw [of _ _ _ (by omega), uI_o (by omega), uI_o (by omega), uI_o (by omega), uI_s], by rw [of _ _ _ (by omega), uI_o (by omega), uI_o (by omega), uI_s], by rw [of _ _ _ (by omega), uI_o (by omega), uI_s]⟩ (by
    intro st s a c e
    rw [Nat.sub_self]
    unfold fil
    rw [if_pos ⟨rfl, by unfold px; rcases e with rfl | rfl <;> simp <;> omega⟩]
    rfl) (by rw [of _ _ _ (by omega), uI_s, Nat.sub_self]; rfl)
  refine ⟨H', b', ?_, fun c k q => by rw [o1 c k q, of _ _ _ (by omega), uI_o (by omega), uI_o (by omega), uI_o (by omega), uI_o (by omega)], z1⟩
  unfold f_X0_weigh
  rw [pI_mk zk_186, pI_mk zk_186, pI_mk zk_186, show (-1 : Int32) = ii (-1) by decide, pI_mk zk_186, gR_mk zk_186 (zr5 b), show (0 : Int32) = ii 0 by decide, fill_mk k1 l1 (by omega), b1_mk, show (30 : Int32) = ii 30 by decide, ii_min (by omega) (by omega) (by omega) (by omega), v_mk, show (1 : Int32) = ii 1 by decide, ii_sub, v_mk, show min (N : Int) 30 - 1 = (N : Int) - 1 by omega]
  exact f1
end
