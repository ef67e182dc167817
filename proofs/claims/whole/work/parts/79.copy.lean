def cpy (h : Nat → Nat → Int32) (c1 c2 n : Nat) : Nat → Nat → Int32 := fun c k => if c = c2 ∧ k < n then h c1 k else h c k
theorem cpy_0 (h : Nat → Nat → Int32) (c1 c2 : Nat) : cpy h c1 c2 0 = h := by
  funext c k
  simp [cpy]
theorem cpy_s (h : Nat → Nat → Int32) {c1 c2 : Nat} (hne : c1 ≠ c2) (n : Nat) : ps_uI (cpy h c1 c2 n) c2 n (h c1 n) = cpy h c1 c2 (n + 1) := by
  funext c k
  unfold ps_uI cpy
  by_cases h1 : c = c2 ∧ k = n
  · rw [if_pos h1, if_pos ⟨h1.1, by omega⟩, h1.2]
  · rw [if_neg h1]
    by_cases h2 : c = c2 ∧ k < n
    · rw [if_pos h2, if_pos ⟨h2.1, by omega⟩]
    · rw [if_neg h2, if_neg (by omega)]
theorem copy_mk {h : Nat → Nat → Int32} {b : Bool} {c1 c2 n : Nat} (hne : c1 ≠ c2) (k1 : zK c1 = 21) (k2 : zK c2 = 21) (l1 : zL c1 = n) (l2 : zL c2 = n) (hn : n ≤ 4000) : f_X4_copy (mk h b) c1 c2 = some (mk (cpy h c1 c2 n) b) := by
  have key : ∀ (d i m : Nat), i + d = n → d < m → f_X4_copy_l2 m (mk (cpy h c1 c2 i) b) c1 c2 (ii i) = some (mk (cpy h c1 c2 n) b) := by
    intro d
    induction d with
    | zero =>
      intro i m hi hm
      have hi' : i = n := by omega
      subst hi'
      obtain ⟨m', rfl⟩ : ∃ m', m = m' + 1 := ⟨m - 1, by omega⟩
      show f_X4_copy_w2 (f_X4_copy_l2 m') (mk (cpy h c1 c2 i) b) c1 c2 (ii i) = _
      unfold f_X4_copy_w2
      rw [aL_mk k1, if_pos (by rw [ii_le (by omega) (by omega) (by omega) (by omega)]; omega)]
      rfl
    | succ d ih =>
      intro i m hi hm
      obtain ⟨m', rfl⟩ : ∃ m', m = m' + 1 := ⟨m - 1, by omega⟩
      show f_X4_copy_w2 (f_X4_copy_l2 m') (mk (cpy h c1 c2 i) b) c1 c2 (ii i) = _
      unfold f_X4_copy_w2
      have e1 : cpy h c1 c2 i c1 (i : Int).toNat = h c1 i := by
        unfold cpy
        rw [if_neg (fun q => hne q.1), Int.toNat_natCast]
      rw [aL_mk k1, if_neg (by rw [ii_le (by omega) (by omega) (by omega) (by omega)]; omega), aL_mk k2, if_neg (by rw [ii_le (by omega) (by omega) (by omega) (by omega)]; omega), aI_mk k1 (by omega) (by omega) (by omega), xI_mk k2 (by omega) (by omega) (by omega), e1, Int.toNat_natCast, cpy_s h hne i, v_mk, show ii (i : Int) + 1 = ii ((i + 1 : Nat) : Int) by rw [ii_lits.2.1, ii_add]; rfl]
      exact ih (i + 1) m' (by omega) (by omega)
  unfold f_X4_copy
  have h0 := key n 0 ps_fu (by omega) (by unfold ps_fu; omega)
  rw [cpy_0] at h0
  exact h0
def fil (h : Nat → Nat → Int32) (c2 n : Nat) (v : Int32) : Nat → Nat → Int32 := fun c k => if c = c2 ∧ k < n then v else h c k
theorem fill_mk {h : Nat → Nat → Int32} {b : Bool} {c2 n : Nat} {v : Int32} (k2 : zK c2 = 21) (l2 : zL c2 = n) (hn : n ≤ 4000) : f_X4_fill (mk h b) c2 v = some (mk (fil h c2 n v) b) := by
  have key : ∀ (d i m : Nat), i + d = n → d < m → f_X4_fill_l2 m (mk (fil h c2 i v) b) c2 v (ii i) = some (mk (fil h c2 n v) b) := by
    intro d
    induction d with
    | zero =>
      intro i m hi hm
      have hi' : i = n := by omega
      subst hi'
      obtain ⟨m', rfl⟩ : ∃ m', m = m' + 1 := ⟨m - 1, by omega⟩
      show f_X4_fill_w2 (f_X4_fill_l2 m') (mk (fil h c2 i v) b) c2 v (ii i) = _
      unfold f_X4_fill_w2
      rw [aL_mk k2, if_pos (by rw [ii_le (by omega) (by omega) (by omega) (by omega)]; omega)]
    | succ d ih =>
      intro i m hi hm
      obtain ⟨m', rfl⟩ : ∃ m', m = m' + 1 := ⟨m - 1, by omega⟩
      show f_X4_fill_w2 (f_X4_fill_l2 m') (mk (fil h c2 i v) b) c2 v (ii i) = _
      unfold f_X4_fill_w2
      have e1 : ps_uI (fil h c2 i v) c2 i v = fil h c2 (i + 1) v := by
        funext c k
        unfold ps_uI fil
        by_cases h1 : c = c2 ∧ k = i
        · rw [if_pos h1, if_pos (by omega)]
        · rw [if_neg h1]
          by_cases h2 : c = c2 ∧ k < i
          · rw [if_pos h2, if_pos (by omega)]
          · rw [if_neg h2, if_neg (by omega)]
      rw [aL_mk k2, if_neg (by rw [ii_le (by omega) (by omega) (by omega) (by omega)]; omega), xI_mk k2 (by omega) (by omega) (by omega), Int.toNat_natCast, e1, v_mk, show ii (i : Int) + 1 = ii ((i + 1 : Nat) : Int) by rw [ii_lits.2.1, ii_add]; rfl]
      exact ih (i + 1) m' (by omega) (by omega)
  unfold f_X4_fill
  have h0 := key n 0 ps_fu (by omega) (by unfold ps_fu; omega)
  have e0 : fil h c2 0 v = h := by
    funext c k
    simp [fil]
  rw [e0] at h0
  exact h0
/-- an array of a Work, filled from one beside it: in the row -/
def rcp (r : Nat → Int) (j : Nat) (f : Nat → Int) : Nat → Int := fun k => if j ≤ k ∧ k < j + 4 then f (k - j) else r k
theorem cpy_W (h : Nat → Nat → Int32) (a : Nat) (r : Nat → Int) {c1 : Nat} (hc : c1 < a ∨ a + 4 < c1) : cpy (putW h a r) c1 (a + 1) 4 = putW h a (rcp r 0 (fun k => (h c1 k).toInt)) ∧ cpy (putW h a r) c1 (a + 2) 4 = putW h a (rcp r 12 (fun k => (h c1 k).toInt)) ∧ cpy (putW h a r) c1 (a + 3) 4 = putW h a (rcp r 4 (fun k => (h c1 k).toInt)) ∧ cpy (putW h a r) c1 (a + 4) 4 = putW h a (rcp r 8 (fun k => (h c1 k).toInt)) := by
  have key : ∀ (c2 j : Nat), a < c2 → c2 ≤ a + 4 → (∀ c k, inW a c k → (c = c2 ↔ (j ≤ ixW a c k ∧ ixW a c k < j + 4))) → (∀ k, k < 4 → ixW a c2 k = j + k) → cpy (putW h a r) c1 c2 4 = putW h a (rcp r j (fun k => (h c1 k).toInt)) := by
    intro c2 j h1 h2 h3 h4
    funext c k
    unfold cpy
    by_cases hi : inW a c k
    · rw [putW_in _ _ _ hi, putW_o _ _ _ hc, putW_in _ _ _ hi]
      unfold rcp
      by_cases hcc : c = c2
      · have h5 := (h3 c k hi).mp hcc
        have hk : k < 4 := by unfold inW at hi; omega
        rw [if_pos ⟨hcc, hk⟩, if_pos h5, hcc, h4 k hk, Nat.add_sub_cancel_left, ii_toInt]
      · rw [if_neg (fun q => hcc q.1), if_neg (fun q => hcc ((h3 c k hi).mpr q))]
    · rw [putW_out _ _ _ hi, putW_out _ _ _ hi, if_neg]
      intro q
      apply hi
      unfold inW
      omega
  refine ⟨key (a + 1) 0 (by omega) (by omega) ?_ ?_, key (a + 2) 12 (by omega) (by omega) ?_ ?_, key (a + 3) 4 (by omega) (by omega) ?_ ?_, key (a + 4) 8 (by omega) (by omega) ?_ ?_⟩
  all_goals first | (intro c k hi; unfold inW at hi; unfold ixW; (repeat' split); all_goals omega) | (intro k hk; unfold ixW; (repeat' split); all_goals omega)
theorem fil_W (h : Nat → Nat → Int32) (a : Nat) (r : Nat → Int) (v : Int) : fil (putW h a r) (a + 3) 4 (ii v) = putW h a (rcp r 4 (fun _ => v)) ∧ fil (putW h a r) (a + 4) 4 (ii v) = putW h a (rcp r 8 (fun _ => v)) := by
  have key : ∀ (c2 j : Nat), a < c2 → c2 ≤ a + 4 → (∀ c k, inW a c k → (c = c2 ↔ (j ≤ ixW a c k ∧ ixW a c k < j + 4))) → fil (putW h a r) c2 4 (ii v) = putW h a (rcp r j (fun _ => v)) := by
    intro c2 j h1 h2 h3
    funext c k
    unfold fil
    by_cases hi : inW a c k
    · rw [putW_in _ _ _ hi, putW_in _ _ _ hi]
      unfold rcp
      by_cases hcc : c = c2
      · have h5 := (h3 c k hi).mp hcc
        have hk : k < 4 := by unfold inW at hi; omega
        rw [if_pos ⟨hcc, hk⟩, if_pos h5]
      · rw [if_neg (fun q => hcc q.1), if_neg (fun q => hcc ((h3 c k hi).mpr q))]
    · rw [putW_out _ _ _ hi, putW_out _ _ _ hi, if_neg]
      intro q
      apply hi
      unfold inW
      omega
  refine ⟨key (a + 3) 4 (by omega) (by omega) ?_, key (a + 4) 8 (by omega) (by omega) ?_⟩
  all_goals (intro c k hi; unfold inW at hi; unfold ixW; (repeat' split); all_goals omega)
section
variable {h : Nat → Nat → Int32} {b : Bool} {a a2 : Nat} {r : Nat → Int}
theorem wk_or (h : Nat → Nat → Int32) (a : Nat) : (h a 0 = ii (wk h a 16) ∧ h a 1 = ii (wk h a 17) ∧ h a 2 = ii (wk h a 18) ∧ h a 3 = ii (wk h a 19) ∧ h a 4 = ii (wk h a 20) ∧ h a 5 = ii (wk h a 21) ∧ h a 6 = ii (wk h a 22) ∧ h a 7 = ii (wk h a 24) ∧ h a 8 = ii (wk h a 23)) := by
  simp [wk, ii_toInt]
/-- a Work becomes like another -/
theorem become_mk (ha : isW a) (ha2 : isW a2) (hd : a2 + 4 < a ∨ a + 4 < a2) (hw : wk h a2 23 = 0 ∨ wk h a2 23 = 1) : f_X7_become (mk h b) a a2 = some (mk (putW h a (wk h a2)) b) := by
  obtain ⟨k0, k1, k2, k3, k4, l1, l2, l3, l4, r9, r10, r11, r12, g1, g2, g3⟩ := ha
  obtain ⟨j0, j1, j2, j3, j4, m1, m2, m3, m4, s9, s10, s11, s12, f1, f2, f3⟩ := ha2
  have ho : ∀ r' : Nat → Int, ∀ c, a2 ≤ c → c ≤ a2 + 4 → ∀ k, putW h a r' c k = h c k := fun r' c h1 h2 k => putW_o h a r' (by omega) k
  obtain ⟨o0, o1, o2, o3, o4, o5, o6, o7, o8⟩ := wk_or h a2
  have u := uI_w h a
  have e1 := fun r' => (cpy_W h a r' (c1 := a2 + 1) (by omega)).1
  have e2 := fun r' => (cpy_W h a r' (c1 := a2 + 2) (by omega)).2.1
  have e3 := fun r' => (cpy_W h a r' (c1 := a2 + 3) (by omega)).2.2.1
  have e4 := fun r' => (cpy_W h a r' (c1 := a2 + 4) (by omega)).2.2.2
  unfold f_X7_become
  rw [show mk h b = mk (putW h a (wk h a)) b by rw [putW_wk], gI_mk j0, pI_mk k0, ho _ a2 (by omega) (by omega), o0, (u _ _).1]
  rw [gI_mk j0, pI_mk k0, ho _ a2 (by omega) (by omega), o1, (u _ _).2.1]
  rw [gI_mk j0, pI_mk k0, ho _ a2 (by omega) (by omega), o2, (u _ _).2.2.1]
  rw [gI_mk j0, pI_mk k0, ho _ a2 (by omega) (by omega), o3, (u _ _).2.2.2.1]
  rw [gI_mk j0, pI_mk k0, ho _ a2 (by omega) (by omega), o4, (u _ _).2.2.2.2.1]
  rw [gI_mk j0, pI_mk k0, ho _ a2 (by omega) (by omega), o5, (u _ _).2.2.2.2.2.1]
  rw [gI_mk j0, pI_mk k0, ho _ a2 (by omega) (by omega), o6, (u _ _).2.2.2.2.2.2.1]
  rw [gI_mk j0, pI_mk k0, ho _ a2 (by omega) (by omega), o7, (u _ _).2.2.2.2.2.2.2.1]
  rw [gI_mk j0, pZ_mk k0 (by rw [ho _ a2 (by omega) (by omega), o8]; rcases hw with e | e <;> rw [e] <;> decide), ho _ a2 (by omega) (by omega), o8, (u _ _).2.2.2.2.2.2.2.2]
  rw [gR_mk j0 (s9 b), gR_mk k0 (r9 b), copy_mk (by omega) j1 k1 m1 l1 (by omega), b1_mk, e1]
  rw [gR_mk j0 (s10 b), gR_mk k0 (r10 b), copy_mk (by omega) j2 k2 m2 l2 (by omega), b1_mk, e2]
  rw [gR_mk j0 (s11 b), gR_mk k0 (r11 b), copy_mk (by omega) j3 k3 m3 l3 (by omega), b1_mk, e3]
  rw [gR_mk j0 (s12 b), gR_mk k0 (r12 b), copy_mk (by omega) j4 k4 m4 l4 (by omega), b1_mk, e4]
  congr 2
  funext c k
  by_cases hi : inW a c k
  · rw [putW_in _ _ _ hi, putW_in _ _ _ hi]
    congr 1
    have hlt : ixW a c k < 25 := by unfold inW at hi; unfold ixW; (repeat' split); all_goals omega
    generalize ixW a c k = j at hlt ⊢
    unfold rcp rs
    by_cases h4 : j < 4
    · rw [if_neg (by omega), if_neg (by omega), if_neg (by omega), if_pos (by omega)]
      simp [wk, h4]
    by_cases h8 : j < 8
    · rw [if_neg (by omega), if_pos (by omega)]
      simp [wk, h4, h8]
    by_cases h12 : j < 12
    · rw [if_pos (by omega)]
      simp [wk, h4, h8, h12]
    by_cases h16 : j < 16
    · rw [if_neg (by omega), if_neg (by omega), if_pos (by omega)]
      simp [wk, h4, h8, h12, h16]
    rw [if_neg (by omega), if_neg (by omega), if_neg (by omega), if_neg (by omega)]
    rcases (show j = 16 ∨ j = 17 ∨ j = 18 ∨ j = 19 ∨ j = 20 ∨ j = 21 ∨ j = 22 ∨ j = 23 ∨ j = 24 by omega) with rfl | rfl | rfl | rfl | rfl | rfl | rfl | rfl | rfl <;> simp
  · rw [putW_out _ _ _ hi, putW_out _ _ _ hi]
/-- a new log in a row -/
def nlog (r : Nat → Int) (p q : Int) : Nat → Int := fun k => if k = 16 then p else if k = 17 then q else if k = 18 then p else if k = 19 then 0 else if k = 20 then 0 else if k = 21 then 0 else if k = 22 then 0 else if k = 23 then 0 else if 4 ≤ k ∧ k < 12 then 0 else r k
theorem startLog_mk {p q : Int} (ha : isW a) : f_X7_startLog (mk (putW h a r) b) a (ii p) (ii q) = some (mk (putW h a (nlog r p q)) b) := by
  obtain ⟨k0, k1, k2, k3, k4, l1, l2, l3, l4, r9, r10, r11, r12, g1, g2, g3⟩ := ha
  have u := uI_w h a
  unfold f_X7_startLog
  simp only [ii_lits]
  rw [pI_mk k0, (u _ _).1, pI_mk k0, (u _ _).2.1, pI_mk k0, (u _ _).2.2.1, pI_mk k0, (u _ _).2.2.2.1, pI_mk k0, (u _ _).2.2.2.2.1, pI_mk k0, (u _ _).2.2.2.2.2.1, pI_mk k0, (u _ _).2.2.2.2.2.2.1, pZ_mk k0 (Or.inl (by decide)), (u _ _).2.2.2.2.2.2.2.2, gR_mk k0 (r11 b), fill_mk k3 l3 (by omega), b1_mk, (fil_W h a _ _).1, gR_mk k0 (r12 b), fill_mk k4 l4 (by omega), b1_mk, (fil_W h a _ _).2]
  congr 3
  funext k
  unfold nlog rcp rs
  repeat' split
  all_goals first | rfl | (exfalso; omega)
/-- a rest in a row -/
def rst (r : Nat → Int) (n : Int) : Nat → Int := fun k => if k = 20 then r 20 + n else if k = 4 + (r 16).toNat ∨ k = 4 + (r 17).toNat then clt (r k - 3 * n) else r k
theorem restFor_mk {y : Nat → Nat → Int} {g n : Int} (ha : isW a) (hy : Yk y) (hv : Vb y g r) (hp : Pr y r) (hn : 0 ≤ n ∧ n ≤ 99) : f_X7_restFor (mk (putW h a r) b) a (ii n) = some (mk (putW h a (rst r n)) b) := by
  obtain ⟨⟨p1, p2⟩, ⟨q1, q2⟩, hne, hx⟩ := hp
  have hn4 : y 0 1 ≤ 4 := hy.2.1.2
  obtain ⟨hvd, hvs, hva, hvg, hvw, hvt, hvp⟩ := hv
  have t1 := (hvp (r 16).toNat (by omega)).2.1
  have t2 := (hvp (r 17).toNat (by omega)).2.1
  have k0 := ha.1
  have w := putW_r h a
  have u := uI_w h a
  unfold f_X7_restFor
  simp only [ii_lits, ii_neg, ii_mul]
  rw [gI_mk k0, (w r).1, ck_mk k0, tire_mk ha p1 (by omega) t1.1 t1.2 (by omega) (by omega), b1_mk, gI_mk k0, (w _).2.1, rs_ne _ _ (by omega), ck_mk k0, tire_mk ha q1 (by omega) (by rw [rs_ne _ _ (by omega)]; exact t2.1) (by rw [rs_ne _ _ (by omega)]; exact t2.2) (by omega) (by omega), b1_mk, gI_mk k0, (w _).2.2.2.2.1, ii_add, pI_mk k0, (u _ _).2.2.2.2.1, rs_ne _ _ (by omega), rs_ne _ _ (by omega), rs_ne _ _ (by omega)]
  congr 3
  funext k
  unfold rst rs
  by_cases e0 : k = 20
  · rw [if_pos e0, if_pos e0]
  rw [if_neg e0, if_neg e0]
  by_cases e1 : k = 4 + (r 17).toNat
  · rw [if_pos e1, if_pos (Or.inr e1), e1]
    congr 1
    omega
  rw [if_neg e1]
  by_cases e2 : k = 4 + (r 16).toNat
  · rw [if_pos e2, if_pos (Or.inl e2), e2]
    congr 1
    omega
  rw [if_neg e2, if_neg (by omega)]
end
