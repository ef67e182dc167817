/-! the model's rows: 25 numbers of cell 206 from x on -/
def putM (h : Nat → Nat → Int32) (x : Nat) (r : Nat → Int) : Nat → Nat → Int32 := fun c k => if c = 206 ∧ x ≤ k ∧ k < x + 25 then ii (r (k - x)) else h c k
def mrow (h : Nat → Nat → Int32) (x : Nat) : Nat → Int := fun k => (h 206 (x + k)).toInt
theorem putM_mrow (h : Nat → Nat → Int32) (x : Nat) : putM h x (mrow h x) = h := by
  funext c k
  unfold putM mrow
  split
  · rename_i hc
    rw [ii_toInt, show x + (k - x) = k by omega, hc.1]
  · rfl
theorem putM_putM (h : Nat → Nat → Int32) (x : Nat) (r r' : Nat → Int) : putM (putM h x r) x r' = putM h x r' := by
  funext c k
  unfold putM
  split
  · rfl
  · rfl
theorem putM_r (h : Nat → Nat → Int32) {x j : Nat} (r : Nat → Int) (hj : j < 25) : putM h x r 206 (x + j) = ii (r j) := by
  unfold putM
  rw [if_pos ⟨rfl, by omega, by omega⟩, Nat.add_sub_cancel_left]
theorem putM_o (h : Nat → Nat → Int32) {x : Nat} (r : Nat → Int) {c k : Nat} (hc : c ≠ 206 ∨ k < x ∨ x + 25 ≤ k) : putM h x r c k = h c k := by
  unfold putM
  rw [if_neg (by omega)]
theorem uI_M (h : Nat → Nat → Int32) {x j : Nat} (r : Nat → Int) (v : Int) (hj : j < 25) : ps_uI (putM h x r) 206 (x + j) (ii v) = putM h x (rs r j v) := by
  funext c k
  unfold ps_uI putM rs
  by_cases hc : c = 206 ∧ k = x + j
  · rw [if_pos hc, if_pos ⟨hc.1, by omega, by omega⟩, if_pos (by omega)]
  · rw [if_neg hc]
    by_cases h2 : c = 206 ∧ x ≤ k ∧ k < x + 25
    · rw [if_pos h2, if_pos h2, if_neg (by omega)]
    · rw [if_neg h2, if_neg h2]
def l64 (x : Int) : Int64 := Int64.ofInt x
theorem toInt_l64 {x : Int} (h1 : -9223372036854775808 ≤ x) (h2 : x < 9223372036854775808) : (l64 x).toInt = x := by
  unfold l64
  rw [Int64.toInt_ofInt, show Int64.size = 18446744073709551616 from rfl]
  exact Int.bmod_eq_of_le (by omega) (by omega)
theorem ii_l64 {x : Int} (h1 : -2147483648 ≤ x) (h2 : x < 2147483648) : (ii x).toInt64 = l64 x := by
  rw [← Int64.toInt_inj, Int32.toInt_toInt64, toInt_ii h1 h2, toInt_l64 (by omega) (by omega)]
theorem l64_lt {x y : Int} (h1 : -2147483649 ≤ x) (h2 : x < 2147483649) (h3 : -2147483649 ≤ y) (h4 : y < 2147483649) : (l64 x < l64 y) ↔ x < y := by
  rw [Int64.lt_iff_toInt_lt, toInt_l64 (by omega) (by omega), toInt_l64 (by omega) (by omega)]
theorem l64_eq {x y : Int} (h1 : -2147483649 ≤ x) (h2 : x < 2147483649) (h3 : -2147483649 ≤ y) (h4 : y < 2147483649) : (l64 x = l64 y) ↔ x = y := by
  rw [← Int64.toInt_inj, toInt_l64 (by omega) (by omega), toInt_l64 (by omega) (by omega)]
theorem l64_lits : (0 : Int64) = l64 0 ∧ (1 : Int64) = l64 1 ∧ (2 : Int64) = l64 2 ∧ (4 : Int64) = l64 4 ∧ (9 : Int64) = l64 9 ∧ (10 : Int64) = l64 10 ∧ (20 : Int64) = l64 20 ∧ (30 : Int64) = l64 30 ∧ (48 : Int64) = l64 48 ∧ (57 : Int64) = l64 57 ∧ (99 : Int64) = l64 99 ∧ (255 : Int64) = l64 255 ∧ (999 : Int64) = l64 999 := by decide
theorem in_mk {M : ps_M} {x lo hi : Int} (h1 : -2147483649 ≤ x) (h2 : x < 2147483649) (h3 : -2147483649 ≤ lo) (h4 : lo < 2147483649) (h5 : -2147483649 ≤ hi) (h6 : hi < 2147483649) : f_X10_in M (l64 x) (l64 lo) (l64 hi) = some (ii (if lo ≤ x ∧ x ≤ hi then 1 else 0), M) := by
  unfold f_X10_in lg_cmp
  simp only [l64_lt h1 h2 h3 h4, l64_lt h3 h4 h1 h2, l64_eq h1 h2 h3 h4, l64_lt h1 h2 h5 h6, l64_lt h5 h6 h1 h2, l64_eq h1 h2 h5 h6]
  by_cases c1 : x < lo
  · rw [if_neg (by omega : ¬ (lo ≤ x ∧ x ≤ hi))]
    simp only [show ¬ lo < x by omega, show ¬ x = lo by omega, if_false]
    rw [if_pos (by decide)]
    rfl
  · by_cases c2 : hi < x
    · rw [if_neg (by omega : ¬ (lo ≤ x ∧ x ≤ hi))]
      simp only [c2, if_true]
      rw [if_neg, if_pos (by decide)]
      · rfl
      · repeat' split
        all_goals first | decide | (exfalso; omega)
    · rw [if_pos (by omega : lo ≤ x ∧ x ≤ hi), if_neg, if_neg]
      · rfl
      · simp only [c2, if_false]
        split <;> decide
      · repeat' split
        all_goals first | decide | (exfalso; omega)
section
variable {h : Nat → Nat → Int32} {b : Bool} {α : Type} {r : Nat → Int} {x : Nat}
theorem rdM {j : Nat} {i : Int} {f : Int32 → Option α} (hi : i = ((x + j : Nat) : Int)) (hj : j < 25) (hx : x + 25 ≤ 952) : ps_aI (mk (putM h x r) b) 206 (ii i) f = f (ii (r j)) := by
  subst hi
  rw [aI_mk zk_206 (by omega) (by rw [zl_206]; omega) (by rw [zl_206]; omega), Int.toNat_natCast, putM_r h r hj]
theorem wrM {j : Nat} {i v : Int} {f : ps_M → Option α} (hi : i = ((x + j : Nat) : Int)) (hj : j < 25) (hx : x + 25 ≤ 952) : ps_xI (mk (putM h x r) b) 206 (ii i) (ii v) f = f (mk (putM h x (rs r j v)) b) := by
  subst hi
  rw [xI_mk zk_206 (by omega) (by rw [zl_206]; omega) (by rw [zl_206]; omega), Int.toNat_natCast, uI_M h r v hj]
theorem gW {f : Nat → Option α} {hh : Nat → Nat → Int32} : ps_gR (mk hh b) 205 9 0 f = f 206 := gR_mk zk_205 (zr_205_0 b)
theorem mtire_mk {j : Nat} {i v : Int} (hi : i = ((x + j : Nat) : Int)) (hj : j < 25) (hx : x + 25 ≤ 952) (ht : 0 ≤ r j ∧ r j ≤ 999) (hv : -1000 ≤ v ∧ v ≤ 1000) : f_X10_tire (mk (putM h x r) b) 205 (ii i) (ii v) = some (mk (putM h x (rs r j (clt (r j + v)))) b) := by
  unfold f_X10_tire
  simp only [ii_lits, ii_add]
  rw [gW, rdM hi hj hx, ii_add, v_mk, gW]
  by_cases h1 : r j + v ≤ 999
  · rw [if_pos (by rw [ii_le (by omega) (by omega) (by omega) (by omega)]; exact h1)]
    by_cases h2 : 0 ≤ r j + v
    · rw [if_pos (by rw [ii_le (by omega) (by omega) (by omega) (by omega)]; exact h2)]
      unfold f_X10_tire_b36
      rw [wrM hi hj hx, show clt (r j + v) = r j + v by unfold clt; omega]
    · rw [if_neg (by rw [ii_le (by omega) (by omega) (by omega) (by omega)]; exact h2)]
      unfold f_X10_tire_b36
      rw [wrM hi hj hx, show clt (r j + v) = 0 by unfold clt; omega]
  · rw [if_neg (by rw [ii_le (by omega) (by omega) (by omega) (by omega)]; exact h1)]
    unfold f_X10_tire_b36
    rw [wrM hi hj hx, show clt (r j + v) = 999 by unfold clt; omega]
end
