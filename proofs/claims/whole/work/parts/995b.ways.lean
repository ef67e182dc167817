/-! the fewest changes of sides: the other side's loops -/
section
variable {b : Bool} {A D m : Int} {N : Nat} {W : Int32}
theorem turns_mk {H : zM} {t d k : Nat} {V : Int} (k122 : ps_M → Nat → Int32 → Int32 → Int32 → Int32 → Int32 → Option (Int32 × ps_M)) (k165 : ps_M → Nat → Int32 → Int32 → Int32 → Int32 → Int32 → Int32 → Option (Int32 × ps_M)) (h21 : H 206 21 = ii A) (hA : -100000000 ≤ A ∧ A ≤ 100000000) (hD : -9 ≤ D ∧ D ≤ 9) (hm : 0 ≤ m ∧ m ≤ 999) (hN : N ≤ 30) (hT : t + (d + 1) = N) (hk : k < 1204) (hS : EE D t k (H 215 k).toInt (H 217 k).toInt ∧ V ≤ psi A D m N (d + 1) (xk k) (sgk k) (H 215 k).toInt (H 217 k).toInt) (hLL : LL A D m N d (t + 1) V 216 218 H) : ∃ H', f_X10_changes_l176 k122 k165 ps_fu (mk H b) 205 (ii (N : Int)) (ii m) W (ii D) (ii (t : Int)) (ii (k : Int)) (0 : Int32) = k165 (mk H' b) 205 (ii (N : Int)) (ii m) W (ii D) (ii (t : Int)) (ii ((k + 1 : Nat) : Int)) ∧ LL A D m N d (t + 1) V 216 218 H' ∧ (∀ c k, c ≠ 216 → c ≠ 218 → H' c k = H c k) ∧ (got A D m N d 0 V 216 218 H → got A D m N d 0 V 216 218 H') ∧ (V < 900000 → psi A D m N (d + 1) (xk k) (sgk k) (H 215 k).toInt (H 217 k).toInt ≤ V → got A D m N d 0 V 216 218 H') := by
  obtain ⟨hE, hV⟩ := hS
  have hcb := EE_b hE
  obtain ⟨c, hc⟩ : ∃ c : Int, (H 215 k).toInt = c := ⟨_, rfl⟩
  obtain ⟨l, hl⟩ : ∃ l : Int, (H 217 k).toInt = l := ⟨_, rfl⟩
  have ec : H 215 k = ii c := by rw [← hc, ii_toInt]
  have el : H 217 k = ii l := by rw [← hl, ii_toInt]
  rw [hc, hl] at hE hV hcb
  rw [hc, hl]
  have e308 : ∀ H' : zM, f_X10_changes_b308 k122 k165 (mk H' b) 205 (ii (N : Int)) (ii m) W (ii D) (ii (t : Int)) (ii (k : Int)) = k165 (mk H' b) 205 (ii (N : Int)) (ii m) W (ii D) (ii (t : Int)) (ii ((k + 1 : Nat) : Int)) := fun H' => by
    unfold f_X10_changes_b308
    rw [suc_ii, v_mk]
  have fst : ∀ (H' : zM) (u m' : Nat), u < 2 → H' 215 k = ii c → f_X10_changes_l176 k122 k165 (m' + 1) (mk H' b) 205 (ii (N : Int)) (ii m) W (ii D) (ii (t : Int)) (ii (k : Int)) (ii (u : Int)) = if 99999999 ≤ c then k165 (mk H' b) 205 (ii (N : Int)) (ii m) W (ii D) (ii (t : Int)) (ii ((k + 1 : Nat) : Int)) else f_X10_changes_b224 k122 k165 (f_X10_changes_l176 k122 k165 m') (mk H' b) 205 (ii (N : Int)) (ii m) W (ii D) (ii (t : Int)) (ii (k : Int)) (ii (u : Int)) (ii (((k + u) % 2 : Nat) : Int)) (ii (xk k)) (ii ((if (k + u) % 2 = 0 then 1 else -1) * D)) := by
    intro H' u m' hu h215
    show f_X10_changes_w176 k122 k165 (f_X10_changes_l176 k122 k165 m') (mk H' b) 205 (ii (N : Int)) (ii m) W (ii D) (ii (t : Int)) (ii (k : Int)) (ii (u : Int)) = _
    unfold f_X10_changes_w176
    rw [if_neg (by rw [ii_lits.2.2.1, ii_le (by omega) (by omega) (by omega) (by omega)]; omega), gR_mk zk_205 (zr_205_27 b), aI_mk zk_215 (by omega) (by rw [zl_215]; omega) (by rw [zl_215]; omega), Int.toNat_natCast, h215, show (99999999 : Int32) = ii 99999999 by decide, show (2 : Int32) = ii 2 by decide, show (301 : Int32) = ii 301 by decide]
    by_cases q : 99999999 ≤ c
    · rw [if_pos (by rw [ii_le (by omega) (by omega) (by omega) (by omega)]; exact q), if_pos q, e308]
    · have ex : ii ((k : Int) / 2) - ii 301 = ii (xk k) := by
        rw [ii_sub]
        unfold xk
        rfl
      have em : ii ((k : Int) + u) - ii (((k : Int) + u) / 2) * ii 2 = ii (((k + u) % 2 : Nat) : Int) := by
        rw [ii_mul, ii_sub]
        congr 1
        omega
      rw [if_neg (by rw [ii_le (by omega) (by omega) (by omega) (by omega)]; exact q), if_neg q, ii_add, ii_div (by omega) (by omega) (by omega) (by omega), ii_div (by omega) (by omega) (by omega) (by omega), ex, em, v_mk]
      by_cases w : (k + u) % 2 = 0
      · rw [if_pos (by rw [w]; decide), if_pos w, Int.one_mul]
      · rw [if_neg (by rw [ii_lits.1, ii_eq (by omega) (by omega) (by omega) (by omega)]; omega), if_neg w, ii_neg, Int.neg_mul, Int.one_mul]
  rw [show ps_fu = 4093 + 1 + 1 + 1 from rfl, show (0 : Int32) = ii ((0 : Nat) : Int) by decide]
  by_cases q : 99999999 ≤ c
  · refine ⟨H, ?_, hLL, fun _ _ _ _ => rfl, fun x => x, fun a e => ?_⟩
    · rw [fst H 0 _ (by omega) ec, if_pos q]
    · exfalso
      unfold psi at e
      rw [if_neg (by omega)] at e
      omega
  · have hE2 := hE
    obtain ⟨c0, ct, l1, l2, hz, hx1, hx2⟩ : 0 ≤ c ∧ c ≤ t ∧ -1 ≤ l ∧ l ≤ 99 ∧ (c = 0 → l = 99 ∧ xk k = t * D ∧ sgk k = 1) ∧ -(9 * t) ≤ xk k ∧ xk k ≤ 9 * t := by
      rcases hE2 with w | w
      · omega
      · exact w
    have hst := psi_step (A := A) (m := m) hN hT hE (by omega)
    have s0 : (if (k + 0) % 2 = 0 then (1 : Int) else -1) = sgk k := rfl
    have s1 : (if (k + 1) % 2 = 0 then (1 : Int) else -1) = -sgk k := by
      unfold sgk
      by_cases w : k % 2 = 0
      · rw [if_neg (by omega), if_pos w]
      · rw [if_pos (by omega), if_neg w]; rfl
    have hsg := sgk_d k
    have hsD : -9 ≤ sgk k * D ∧ sgk k * D ≤ 9 := by rcases hsg with w | w <;> rw [w] <;> omega
    have hnD : -sgk k * D = -(sgk k * D) := Int.neg_mul _ _
    obtain ⟨H1, f1, a1, a2, a3, a4⟩ := b224_mk (b := b) (W := W) (T := t + 1) (t := t) (d := d) (u := 0) (w := (k + 0) % 2) (x0 := xk k) (y0 := sgk k * D) (x' := xk k + sgk k * D) (s' := sgk k) (c' := c) (l' := l) (V := V) k122 k165 (f_X10_changes_l176 k122 k165 (4093 + 1 + 1)) h21 hA hm hN (by omega) (by omega) hk (Or.inl rfl) (by omega) s0.symm rfl (by omega) (by rw [hc]; omega) (by omega) (by rw [if_neg (by omega)]; exact hl) hLL (by
      intro j xj sj
      refine Or.inr ⟨c0, by omega, l1, l2, fun w => ?_, by omega, by omega⟩
      obtain ⟨z1, z2, z3⟩ := hz w
      refine ⟨z1, ?_, by rw [sj, z3]⟩
      rw [xj, z2, z3, Int.one_mul, show ((t + 1 : Nat) : Int) = (t : Int) + 1 by omega, Int.add_mul, Int.one_mul]) (fun w => by have := hst.1 w; omega)
    have ec1 : H1 215 k = ii c := by rw [a2 215 k (by omega) (by omega), ec]
    obtain ⟨H2, f2, b1, b2, b3, b4⟩ := b224_mk (b := b) (W := W) (T := t + 1) (t := t) (d := d) (u := 1) (w := (k + 1) % 2) (x0 := xk k) (y0 := -sgk k * D) (x' := xk k - sgk k * D) (s' := -sgk k) (c' := c + 1) (l' := if c = 0 then (t : Int) else l) (V := V) k122 k165 (f_X10_changes_l176 k122 k165 (4093 + 1)) (H := H1) (by rw [a2 206 21 (by omega) (by omega)]; exact h21) hA hm hN (by omega) (by omega) hk (Or.inr rfl) (by omega) s1.symm (by omega) (by omega) (by rw [ec1, toInt_ii (by omega) (by omega)]; omega) (by omega) (by
      rw [ec1, toInt_ii (by omega) (by omega), a2 217 k (by omega) (by omega), hl]
      by_cases w : c = 0
      · rw [if_pos ⟨rfl, w⟩, if_pos w]
      · rw [if_neg (by omega), if_neg w]) a1 (by
      intro j xj sj
      refine Or.inr ⟨by omega, by omega, by split <;> omega, by split <;> omega, fun w => by omega, by omega, by omega⟩) (fun w => by have := hst.2.1 w; omega)
    refine ⟨H2, ?_, b1, fun c k e1 e2 => by rw [b2 c k e1 e2, a2 c k e1 e2], fun g => b3 (a3 g), fun g e => ?_⟩
    · rw [fst H 0 _ (by omega) ec, if_neg q, s0, f1, fst H1 (0 + 1) _ (by omega) ec1, if_neg q, s1]
      refine f2.trans ?_
      show f_X10_changes_w176 k122 k165 (f_X10_changes_l176 k122 k165 4093) (mk H2 b) 205 (ii (N : Int)) (ii m) W (ii D) (ii (t : Int)) (ii (k : Int)) (ii ((1 + 1 : Nat) : Int)) = _
      unfold f_X10_changes_w176
      rw [if_pos (by decide), e308]
    · rcases hst.2.2 (by omega) with ⟨w1, w2⟩ | ⟨w1, w2⟩
      · exact b3 (a4 w1 (by omega))
      · exact b4 w1 (by omega)
theorem all_mk {t d : Nat} {V : Int} (k122 : ps_M → Nat → Int32 → Int32 → Int32 → Int32 → Int32 → Option (Int32 × ps_M)) (hA : -100000000 ≤ A ∧ A ≤ 100000000) (hD : -9 ≤ D ∧ D ≤ 9) (hm : 0 ≤ m ∧ m ≤ 999) (hN : N ≤ 30) (hT : t + (d + 1) = N) : ∀ (e k mm : Nat) (H : zM), k + e = 1204 → e < mm → H 206 21 = ii A → LL A D m N (d + 1) t V 215 217 H → LL A D m N d (t + 1) V 216 218 H → ∃ H', f_X10_changes_l165 k122 mm (mk H b) 205 (ii (N : Int)) (ii m) W (ii D) (ii (t : Int)) (ii (k : Int)) = f_X10_changes_l317 k122 ps_fu (mk H' b) 205 (ii (N : Int)) (ii m) W (ii D) (ii (t : Int)) (0 : Int32) ∧ LL A D m N d (t + 1) V 216 218 H' ∧ (∀ c k, c ≠ 216 → c ≠ 218 → H' c k = H c k) ∧ (V < 900000 → (got A D m N (d + 1) k V 215 217 H ∨ got A D m N d 0 V 216 218 H) → got A D m N d 0 V 216 218 H') := by
  intro e
  induction e with
  | zero =>
    intro k mm H he hmm h21 hS hLL
    obtain ⟨m', rfl⟩ : ∃ m', mm = m' + 1 := ⟨mm - 1, by omega⟩
    refine ⟨H, ?_, hLL, fun _ _ _ _ => rfl, fun _ g => ?_⟩
    · show f_X10_changes_w165 k122 (f_X10_changes_l165 k122 m') (mk H b) 205 (ii (N : Int)) (ii m) W (ii D) (ii (t : Int)) (ii (k : Int)) = _
      unfold f_X10_changes_w165
      rw [if_pos (by rw [show (1204 : Int32) = ii 1204 by decide, ii_le (by omega) (by omega) (by omega) (by omega)]; omega)]
    · rcases g with ⟨i, i1, i2, -⟩ | g
      · omega
      · exact g
  | succ e ih =>
    intro k mm H he hmm h21 hS hLL
    obtain ⟨m', rfl⟩ : ∃ m', mm = m' + 1 := ⟨mm - 1, by omega⟩
    obtain ⟨H1, f1, a1, a2, a3, a4⟩ := turns_mk (b := b) (W := W) k122 (f_X10_changes_l165 k122 m') h21 hA hD hm hN hT (by omega : k < 1204) (hS k (by omega)) hLL
    have o5 : ∀ i, H1 215 i = H 215 i := fun i => a2 215 i (by omega) (by omega)
    have o7 : ∀ i, H1 217 i = H 217 i := fun i => a2 217 i (by omega) (by omega)
    obtain ⟨H2, f2, b1, b2, b3⟩ := ih (k + 1) m' H1 (by omega) (by omega) (by rw [a2 206 21 (by omega) (by omega)]; exact h21) (fun j hj => by rw [o5, o7]; exact hS j hj) a1
    refine ⟨H2, ?_, b1, fun c k e1 e2 => by rw [b2 c k e1 e2, a2 c k e1 e2], fun hv g => b3 hv ?_⟩
    · show f_X10_changes_w165 k122 (f_X10_changes_l165 k122 m') (mk H b) 205 (ii (N : Int)) (ii m) W (ii D) (ii (t : Int)) (ii (k : Int)) = _
      unfold f_X10_changes_w165
      rw [if_neg (by rw [show (1204 : Int32) = ii 1204 by decide, ii_le (by omega) (by omega) (by omega) (by omega)]; omega), f1, f2]
    · rcases g with ⟨i, i1, i2, i3⟩ | g
      · by_cases w : i = k
        · subst w
          exact Or.inr (a4 hv i3)
        · exact Or.inl ⟨i, by omega, i2, by rw [o5, o7]; exact i3⟩
      · exact Or.inr (a3 g)
theorem back2_mk {t : Nat} (k122 : ps_M → Nat → Int32 → Int32 → Int32 → Int32 → Int32 → Option (Int32 × ps_M)) (ht : t < 30) : ∀ (e k mm : Nat) (H : zM), k + e = 1204 → e < mm → ∃ H', f_X10_changes_l317 k122 mm (mk H b) 205 (ii (N : Int)) (ii m) W (ii D) (ii (t : Int)) (ii (k : Int)) = k122 (mk H' b) 205 (ii (N : Int)) (ii m) W (ii D) (ii ((t + 1 : Nat) : Int)) ∧ (∀ j, k ≤ j → j < 1204 → H' 215 j = H 216 j ∧ H' 217 j = H 218 j) ∧ (∀ c i, (c ≠ 215 ∧ c ≠ 217) ∨ i < k → H' c i = H c i) := by
  intro e
  induction e with
  | zero =>
    intro k mm H he hmm
    obtain ⟨m', rfl⟩ : ∃ m', mm = m' + 1 := ⟨mm - 1, by omega⟩
    refine ⟨H, ?_, fun j a c => by omega, fun _ _ _ => rfl⟩
    show f_X10_changes_w317 k122 (f_X10_changes_l317 k122 m') (mk H b) 205 (ii (N : Int)) (ii m) W (ii D) (ii (t : Int)) (ii (k : Int)) = _
    unfold f_X10_changes_w317
    rw [if_pos (by rw [show (1204 : Int32) = ii 1204 by decide, ii_le (by omega) (by omega) (by omega) (by omega)]; omega), suc_ii, v_mk]
  | succ e ih =>
    intro k mm H he hmm
    obtain ⟨m', rfl⟩ : ∃ m', mm = m' + 1 := ⟨mm - 1, by omega⟩
    obtain ⟨H2, f2, b1, b2⟩ := ih (k + 1) m' (ps_uI (ps_uI H 215 k (H 216 k)) 217 k (H 218 k)) (by omega) (by omega)
    refine ⟨H2, ?_, fun j a c => ?_, fun c i q => ?_⟩
    · show f_X10_changes_w317 k122 (f_X10_changes_l317 k122 m') (mk H b) 205 (ii (N : Int)) (ii m) W (ii D) (ii (t : Int)) (ii (k : Int)) = _
      unfold f_X10_changes_w317
      rw [if_neg (by rw [show (1204 : Int32) = ii 1204 by decide, ii_le (by omega) (by omega) (by omega) (by omega)]; omega), gR_mk zk_205 (zr_205_27 b), gR_mk zk_205 (zr_205_28 b), aI_mk zk_216 (by omega) (by rw [zl_216]; omega) (by rw [zl_216]; omega), xI_mk zk_215 (by omega) (by rw [zl_215]; omega) (by rw [zl_215]; omega), gR_mk zk_205 (zr_205_29 b), gR_mk zk_205 (zr_205_30 b), aI_mk zk_218 (by omega) (by rw [zl_218]; omega) (by rw [zl_218]; omega), xI_mk zk_217 (by omega) (by rw [zl_217]; omega) (by rw [zl_217]; omega), Int.toNat_natCast, uI_o (by omega), suc_ii, v_mk, f2]
    · by_cases w : j = k
      · subst w
        rw [b2 215 j (by omega), b2 217 j (by omega), uI_o (by omega), uI_s, uI_s]
        exact ⟨rfl, rfl⟩
      · obtain ⟨w1, w2⟩ := b1 j (by omega) c
        rw [w1, w2, uI_o (by omega), uI_o (by omega), uI_o (by omega), uI_o (by omega)]
        exact ⟨rfl, rfl⟩
    · rw [b2 c i (by omega), uI_o (by omega), uI_o (by omega)]
theorem blank_mk {t : Nat} (k122 : ps_M → Nat → Int32 → Int32 → Int32 → Int32 → Int32 → Option (Int32 × ps_M)) : ∀ (e k mm : Nat) (H : zM), k + e = 1204 → e < mm → ∃ H', f_X10_changes_l131 k122 mm (mk H b) 205 (ii (N : Int)) (ii m) W (ii D) (ii (t : Int)) (ii (k : Int)) = f_X10_changes_l165 k122 ps_fu (mk H' b) 205 (ii (N : Int)) (ii m) W (ii D) (ii (t : Int)) (0 : Int32) ∧ (∀ j, k ≤ j → j < 1204 → H' 216 j = ii 99999999) ∧ (∀ c i, (c ≠ 216 ∧ c ≠ 218) ∨ i < k → H' c i = H c i) := by
  intro e
  induction e with
  | zero =>
    intro k mm H he hmm
    obtain ⟨m', rfl⟩ : ∃ m', mm = m' + 1 := ⟨mm - 1, by omega⟩
    refine ⟨H, ?_, fun j a c => by omega, fun _ _ _ => rfl⟩
    show f_X10_changes_w131 k122 (f_X10_changes_l131 k122 m') (mk H b) 205 (ii (N : Int)) (ii m) W (ii D) (ii (t : Int)) (ii (k : Int)) = _
    unfold f_X10_changes_w131
    rw [if_pos (by rw [show (1204 : Int32) = ii 1204 by decide, ii_le (by omega) (by omega) (by omega) (by omega)]; omega)]
  | succ e ih =>
    intro k mm H he hmm
    obtain ⟨m', rfl⟩ : ∃ m', mm = m' + 1 := ⟨mm - 1, by omega⟩
    obtain ⟨H2, f2, b1, b2⟩ := ih (k + 1) m' (ps_uI (ps_uI H 216 k (ii 99999999)) 218 k (-1 : Int32)) (by omega) (by omega)
    refine ⟨H2, ?_, fun j a c => ?_, fun c i q => ?_⟩
    · show f_X10_changes_w131 k122 (f_X10_changes_l131 k122 m') (mk H b) 205 (ii (N : Int)) (ii m) W (ii D) (ii (t : Int)) (ii (k : Int)) = _
      unfold f_X10_changes_w131
      rw [if_neg (by rw [show (1204 : Int32) = ii 1204 by decide, ii_le (by omega) (by omega) (by omega) (by omega)]; omega), gR_mk zk_205 (zr_205_28 b), show (99999999 : Int32) = ii 99999999 by decide, xI_mk zk_216 (by omega) (by rw [zl_216]; omega) (by rw [zl_216]; omega), gR_mk zk_205 (zr_205_30 b), xI_mk zk_218 (by omega) (by rw [zl_218]; omega) (by rw [zl_218]; omega), Int.toNat_natCast, suc_ii, v_mk, f2]
    · by_cases w : j = k
      · subst w
        rw [b2 216 j (by omega), uI_o (by omega), uI_s]
      · exact b1 j (by omega) c
    · rw [b2 c i (by omega), uI_o (by omega), uI_o (by omega)]
theorem sawed_mk {V : Int} (hA : -100000000 ≤ A ∧ A ≤ 100000000) (hD : -9 ≤ D ∧ D ≤ 9) (hm : 0 ≤ m ∧ m ≤ 999) (hN : N ≤ 30) (hV9 : V ≤ 900000) : ∀ (d t mm : Nat) (H : zM), t + d = N → d < mm → H 206 21 = ii A → LL A D m N d t V 215 217 H → (V < 900000 → got A D m N d 0 V 215 217 H) → ∃ H', f_X10_changes_l122 mm (mk H b) 205 (ii (N : Int)) (ii m) W (ii D) (ii (t : Int)) = f_X10_changes_l375 ps_fu (mk H' b) 205 W (99999999 : Int32) (-1 : Int32) (0 : Int32) ∧ LL A D m N 0 N V 215 217 H' ∧ (V < 900000 → got A D m N 0 0 V 215 217 H') ∧ (∀ c k, c < 215 ∨ 218 < c → H' c k = H c k) := by
  intro d
  induction d with
  | zero =>
    intro t mm H he hmm h21 hS hg
    obtain ⟨m', rfl⟩ : ∃ m', mm = m' + 1 := ⟨mm - 1, by omega⟩
    obtain rfl : t = N := by omega
    refine ⟨H, ?_, hS, hg, fun _ _ _ => rfl⟩
    show f_X10_changes_w122 (f_X10_changes_l122 m') (mk H b) 205 (ii (t : Int)) (ii m) W (ii D) (ii (t : Int)) = _
    unfold f_X10_changes_w122
    rw [if_pos (by rw [ii_le (by omega) (by omega) (by omega) (by omega)]; omega)]
  | succ d ih =>
    intro t mm H he hmm h21 hS hg
    obtain ⟨m', rfl⟩ : ∃ m', mm = m' + 1 := ⟨mm - 1, by omega⟩
    obtain ⟨H1, f1, a1, a2⟩ := blank_mk (b := b) (m := m) (D := D) (N := N) (W := W) (t := t) (f_X10_changes_l122 m') 1204 0 ps_fu H (by omega) (by unfold ps_fu; omega)
    have o5 : ∀ i, H1 215 i = H 215 i := fun i => a2 215 i (by omega)
    have o7 : ∀ i, H1 217 i = H 217 i := fun i => a2 217 i (by omega)
    have hS1 : LL A D m N (d + 1) t V 215 217 H1 := fun j hj => by rw [o5, o7]; exact hS j hj
    have hL1 : LL A D m N d (t + 1) V 216 218 H1 := fun j hj => by
      rw [a1 j (by omega) hj, toInt_ii (by omega) (by omega)]
      refine ⟨Or.inl rfl, ?_⟩
      unfold psi
      rw [if_neg (by omega)]
      exact hV9
    obtain ⟨H2, f2, b1, b2, b3⟩ := all_mk (b := b) (W := W) (f_X10_changes_l122 m') hA hD hm hN he 1204 0 ps_fu H1 (by omega) (by unfold ps_fu; omega) (by rw [a2 206 21 (by omega)]; exact h21) hS1 hL1
    obtain ⟨H3, f3, c1, c2⟩ := back2_mk (b := b) (m := m) (D := D) (N := N) (W := W) (t := t) (f_X10_changes_l122 m') (by omega) 1204 0 ps_fu H2 (by omega) (by unfold ps_fu; omega)
    obtain ⟨H4, f4, d1, d2, d3⟩ := ih (t + 1) m' H3 (by omega) (by omega) (by rw [c2 206 21 (by omega), b2 206 21 (by omega) (by omega), a2 206 21 (by omega)]; exact h21) (fun j hj => by rw [(c1 j (by omega) hj).1, (c1 j (by omega) hj).2]; exact b1 j hj) (fun hv => by
      obtain ⟨i, i1, i2, i3⟩ := hg hv
      obtain ⟨j, j1, j2, j3⟩ := b3 hv (Or.inl ⟨i, i1, i2, by rw [o5, o7]; exact i3⟩)
      exact ⟨j, j1, j2, by rw [(c1 j (by omega) j2).1, (c1 j (by omega) j2).2]; exact j3⟩)
    refine ⟨H4, ?_, d1, d2, fun c k q => by rw [d3 c k q, c2 c k (by omega), b2 c k (by omega) (by omega), a2 c k (by omega)]⟩
    show f_X10_changes_w122 (f_X10_changes_l122 m') (mk H b) 205 (ii (N : Int)) (ii m) W (ii D) (ii (t : Int)) = _
    unfold f_X10_changes_w122
    rw [if_neg (by rw [ii_le (by omega) (by omega) (by omega) (by omega)]; omega)]
    exact f1.trans (f2.trans (f3.trans f4))
end
