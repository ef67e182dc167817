def mcp (h : Nat → Nat → Int32) (x z n : Nat) : Nat → Nat → Int32 := fun c k => if c = 206 ∧ z ≤ k ∧ k < z + n then h 206 (k - z + x) else h c k
theorem mcopy_mk {h : Nat → Nat → Int32} {b : Bool} {x z : Nat} (hd : x + 28 ≤ z ∨ z + 28 ≤ x) (hx : x + 28 ≤ 952) (hz : z + 28 ≤ 952) : f_X10_copy (mk h b) 205 (ii x) (ii z) = some (mk (mcp h x z 28) b) := by
  have key : ∀ (d i m : Nat), i + d = 28 → d < m → f_X10_copy_l2 m (mk (mcp h x z i) b) 205 (ii x) (ii z) (ii i) = some (mk (mcp h x z 28) b) := by
    intro d
    induction d with
    | zero =>
      intro i m hi hm
      have hi' : i = 28 := by omega
      subst hi'
      obtain ⟨m', rfl⟩ : ∃ m', m = m' + 1 := ⟨m - 1, by omega⟩
      show f_X10_copy_w2 (f_X10_copy_l2 m') (mk (mcp h x z 28) b) 205 (ii x) (ii z) (ii (28 : Nat)) = _
      unfold f_X10_copy_w2
      rw [if_pos (by rw [show (28 : Int32) = ii 28 by decide, ii_le (by omega) (by omega) (by omega) (by omega)]; omega)]
    | succ d ih =>
      intro i m hi hm
      obtain ⟨m', rfl⟩ : ∃ m', m = m' + 1 := ⟨m - 1, by omega⟩
      show f_X10_copy_w2 (f_X10_copy_l2 m') (mk (mcp h x z i) b) 205 (ii x) (ii z) (ii i) = _
      unfold f_X10_copy_w2
      have e1 : mcp h x z i 206 (x + i) = h 206 (x + i) := by
        unfold mcp
        rw [if_neg (by omega)]
      have e2 : ps_uI (mcp h x z i) 206 (z + i) (h 206 (x + i)) = mcp h x z (i + 1) := by
        funext c k
        unfold ps_uI mcp
        by_cases h1 : c = 206 ∧ k = z + i
        · rw [if_pos h1, if_pos (by omega), h1.2, show z + i - z + x = x + i by omega]
        · rw [if_neg h1]
          by_cases h2 : c = 206 ∧ z ≤ k ∧ k < z + i
          · rw [if_pos h2, if_pos (by omega)]
          · rw [if_neg h2, if_neg (by omega)]
      rw [if_neg (by rw [show (28 : Int32) = ii 28 by decide, ii_le (by omega) (by omega) (by omega) (by omega)]; omega), gW, gW, ii_add, ii_add, aI_mk zk_206 (by omega) (by rw [zl_206]; omega) (by rw [zl_206]; omega), xI_mk zk_206 (by omega) (by rw [zl_206]; omega) (by rw [zl_206]; omega), show ((x : Int) + (i : Int)).toNat = x + i by omega, show ((z : Int) + (i : Int)).toNat = z + i by omega, e1, e2, v_mk, show ii (i : Int) + 1 = ii ((i + 1 : Nat) : Int) by rw [ii_lits.2.1, ii_add]; rfl]
      exact ih (i + 1) m' (by omega) (by omega)
  unfold f_X10_copy
  have h0 := key 28 0 ps_fu (by omega) (by unfold ps_fu; omega)
  have e0 : mcp h x z 0 = h := by
    funext c k
    unfold mcp
    rw [if_neg (by omega)]
  rw [e0] at h0
  exact h0
theorem mrow_mcp (h : Nat → Nat → Int32) {x z j : Nat} (hj : j < 28) : mrow (mcp h x z 28) z j = mrow h x j := by
  unfold mrow mcp
  rw [if_pos ⟨rfl, by omega, by omega⟩, show z + j - z + x = x + j by omega]
section
variable {h : Nat → Nat → Int32} {b : Bool} {x : Nat} {r : Nat → Int} {y : Nat → Nat → Int} {g : Int}
theorem mbegin_mk {p q : Int} (hx : x + 25 ≤ 952) : f_X10_begin (mk (putM h x r) b) 205 (ii x) (ii p) (ii q) = some (mk (putM h x (nlog r p q)) b) := by
  -- the row with i of four cleared
  have key : ∀ (d i m : Nat), i + d = 4 → d < m → f_X10_begin_l3 m (mk (putM h x (fun k => if (4 ≤ k ∧ k < 4 + i) ∨ (8 ≤ k ∧ k < 8 + i) then 0 else r k)) b) 205 (ii x) (ii p) (ii q) (ii i) = some (mk (putM h x (nlog r p q)) b) := by
    intro d
    induction d with
    | zero =>
      intro i m hi hm
      have hi' : i = 4 := by omega
      subst hi'
      obtain ⟨m', rfl⟩ : ∃ m', m = m' + 1 := ⟨m - 1, by omega⟩
      show f_X10_begin_w3 (f_X10_begin_l3 m') (mk (putM h x (fun k => if (4 ≤ k ∧ k < 4 + 4) ∨ (8 ≤ k ∧ k < 8 + 4) then 0 else r k)) b) 205 (ii x) (ii p) (ii q) (ii (4 : Nat)) = _
      unfold f_X10_begin_w3
      simp only [ii_lits, ii_add]
      rw [if_pos (by rw [ii_le (by omega) (by omega) (by omega) (by omega)]; omega)]
      rw [gW, wrM (j := 16) (by omega) (by omega) hx, gW, wrM (j := 17) (by omega) (by omega) hx, gW, wrM (j := 18) (by omega) (by omega) hx, gW, wrM (j := 19) (by omega) (by omega) hx, gW, wrM (j := 20) (by omega) (by omega) hx, gW, wrM (j := 21) (by omega) (by omega) hx, gW, wrM (j := 22) (by omega) (by omega) hx, gW, wrM (j := 23) (by omega) (by omega) hx]
      congr 3
      funext k
      simp only [nlog, rs]
      by_cases c : 4 ≤ k ∧ k < 12
      · rw [if_pos c, if_pos (by omega : (4 ≤ k ∧ k < 4 + 4) ∨ (8 ≤ k ∧ k < 8 + 4))]
        repeat' split
        all_goals first | rfl | (exfalso; omega)
      · rw [if_neg c, if_neg (by omega : ¬ ((4 ≤ k ∧ k < 4 + 4) ∨ (8 ≤ k ∧ k < 8 + 4)))]
        repeat' split
        all_goals first | rfl | (exfalso; omega)
    | succ d ih =>
      intro i m hi hm
      obtain ⟨m', rfl⟩ : ∃ m', m = m' + 1 := ⟨m - 1, by omega⟩
      show f_X10_begin_w3 (f_X10_begin_l3 m') (mk (putM h x (fun k => if (4 ≤ k ∧ k < 4 + i) ∨ (8 ≤ k ∧ k < 8 + i) then 0 else r k)) b) 205 (ii x) (ii p) (ii q) (ii i) = _
      unfold f_X10_begin_w3
      simp only [ii_lits, ii_add]
      rw [if_neg (by rw [ii_le (by omega) (by omega) (by omega) (by omega)]; omega), gW, wrM (j := 4 + i) (by omega) (by omega) hx, gW, wrM (j := 8 + i) (by omega) (by omega) hx, v_mk, show (i : Int) + 1 = ((i + 1 : Nat) : Int) from rfl]
      rw [show rs (rs (fun k => if (4 ≤ k ∧ k < 4 + i) ∨ (8 ≤ k ∧ k < 8 + i) then 0 else r k) (4 + i) 0) (8 + i) 0 = (fun k => if (4 ≤ k ∧ k < 4 + (i + 1)) ∨ (8 ≤ k ∧ k < 8 + (i + 1)) then 0 else r k) by
        funext k
        simp only [rs]
        by_cases c : (4 ≤ k ∧ k < 4 + (i + 1)) ∨ (8 ≤ k ∧ k < 8 + (i + 1))
        · rw [if_pos c]
          repeat' split
          all_goals first | rfl | (exfalso; omega)
        · rw [if_neg c, if_neg (by omega), if_neg (by omega), if_neg (by omega)]]
      exact ih (i + 1) m' (by omega) (by omega)
  unfold f_X10_begin
  have h0 := key 4 0 ps_fu (by omega) (by unfold ps_fu; omega)
  have e0 : (fun k => if (4 ≤ k ∧ k < 4 + 0) ∨ (8 ≤ k ∧ k < 8 + 0) then (0 : Int) else r k) = r := by
    funext k
    rw [if_neg (by omega)]
  rw [e0] at h0
  rw [ii_lits.1]
  exact h0
theorem mrelax_mk {n : Int} (hy : Yk y) (hv : Vb y g r) (hp : Pr y r) (hx : x + 25 ≤ 952) (hn : 0 ≤ n ∧ n ≤ 99) : f_X10_relax (mk (putM h x r) b) 205 (ii x) (ii n) = some (mk (putM h x (rst r n)) b) := by
  obtain ⟨⟨p1, p2⟩, ⟨q1, q2⟩, hne, hxx⟩ := hp
  have hn4 : y 0 1 ≤ 4 := hy.2.1.2
  obtain ⟨hvd, hvs, hva, hvg, hvw, hvt, hvp⟩ := hv
  have t1 := (hvp (r 16).toNat (by omega)).2.1
  have t2 := (hvp (r 17).toNat (by omega)).2.1
  unfold f_X10_relax
  simp only [ii_lits, ii_neg, ii_mul, ii_add]
  rw [gW, rdM (j := 16) (by omega) (by omega) hx, ck_mk zk_205]
  simp only [ii_add]
  rw [mtire_mk (j := 4 + (r 16).toNat) (by omega) (by omega) hx t1 (by omega), b1_mk, gW, rdM (j := 17) (by omega) (by omega) hx, rs_ne _ _ (by omega), ck_mk zk_205]
  simp only [ii_add]
  rw [mtire_mk (j := 4 + (r 17).toNat) (by omega) (by omega) hx (by rw [rs_ne _ _ (by omega)]; exact t2) (by omega), b1_mk, gW, rdM (j := 20) (by omega) (by omega) hx, rs_ne _ _ (by omega), rs_ne _ _ (by omega), rs_ne _ _ (by omega), ii_add, wrM (j := 20) (by omega) (by omega) hx]
  congr 3
  funext k
  unfold rst rs
  by_cases e0 : k = 20
  · rw [if_pos e0, if_pos e0]
  rw [if_neg e0, if_neg e0]
  by_cases e1 : k = 4 + (r 17).toNat
  · rw [if_pos e1, if_pos (Or.inr e1), e1]
    congr 1
    omega
  rw [if_neg e1]
  by_cases e2 : k = 4 + (r 16).toNat
  · rw [if_pos e2, if_pos (Or.inl e2), e2]
    congr 1
    omega
  rw [if_neg e2, if_neg (by omega)]
theorem mpair_mk (hx : -2147483648 ≤ r 16 ∧ r 16 < 2147483648) : f_X10_isPair (mk (putM h 0 r) b) 205 = some (ii (if 0 ≤ r 16 then 1 else 0), mk (putM h 0 r) b) := by
  unfold f_X10_isPair
  simp only [ii_lits]
  rw [gW, rdM (j := 16) (by omega) (by omega) (by omega)]
  by_cases hc : r 16 < 0
  · rw [if_pos (by rw [ii_lt (by omega) (by omega) (by omega) (by omega)]; exact hc), if_neg (by omega)]
    rfl
  · rw [if_neg (by rw [ii_lt (by omega) (by omega) (by omega) (by omega)]; exact hc), if_pos (by omega)]
    rfl
theorem pair_mk {a : Nat} (ha : isW a) (hx : -2147483648 ≤ r 16 ∧ r 16 < 2147483648) : f_X7_hasPair (mk (putW h a r) b) a = some (ii (if r 16 = -1 then 0 else 1), mk (putW h a r) b) := by
  unfold f_X7_hasPair
  simp only [ii_lits, ii_neg]
  rw [gI_mk ha.1, (putW_r h a r).1]
  by_cases hc : r 16 = -1
  · rw [if_pos (by rw [ii_eq (by omega) (by omega) (by omega) (by omega)]; exact hc), if_pos hc]
    rfl
  · rw [if_neg (by rw [ii_eq (by omega) (by omega) (by omega) (by omega)]; exact hc), if_neg hc]
    rfl
end
