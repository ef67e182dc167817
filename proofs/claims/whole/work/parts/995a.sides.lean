/-! the fewest changes of sides: the other side's rows -/
theorem sgk_d (k : Nat) : sgk k = 1 ∨ sgk k = -1 := by unfold sgk; split <;> omega
theorem EE_b {D : Int} {t k : Nat} {c l : Int} (h : EE D t k c l) : c = 99999999 ∨ (0 ≤ c ∧ c ≤ t ∧ -1 ≤ l ∧ l ≤ 99) := by
  rcases h with a | a
  · exact Or.inl a
  · exact Or.inr ⟨a.1, a.2.1, a.2.2.1, a.2.2.2.1⟩
section
variable {b : Bool} {A D m : Int} {N : Nat}
theorem lay_mk {H : zM} {j : Nat} {c' l' : Int} (hj : j < 1204) (hc : -2147483648 ≤ c' ∧ c' < 2147483648) (hl : -2147483648 ≤ l' ∧ l' < 2147483648) : ∃ H', f_X10_lay (mk H b) 205 (ii (j : Int)) (ii c') (ii l') = some (mk H' b) ∧ (∀ c k, ¬ ((c = 216 ∨ c = 218) ∧ k = j) → H' c k = H c k) ∧ (((H' 216 j).toInt = c' ∧ (H' 218 j).toInt = l' ∧ (c' < (H 216 j).toInt ∨ (c' = (H 216 j).toInt ∧ (H 218 j).toInt < l'))) ∨ (H' = H ∧ ¬ (c' < (H 216 j).toInt ∨ (c' = (H 216 j).toInt ∧ (H 218 j).toInt < l')))) := by
  obtain ⟨c0, hc0⟩ : ∃ c0 : Int, (H 216 j).toInt = c0 := ⟨_, rfl⟩
  obtain ⟨l0, hl0⟩ : ∃ l0 : Int, (H 218 j).toInt = l0 := ⟨_, rfl⟩
  have e1 : H 216 j = ii c0 := by rw [← hc0, ii_toInt]
  have e2 : H 218 j = ii l0 := by rw [← hl0, ii_toInt]
  have b1 : -2147483648 ≤ c0 ∧ c0 < 2147483648 := by rw [← hc0]; exact ⟨Int32.le_toInt _, Int32.toInt_lt _⟩
  have b2 : -2147483648 ≤ l0 ∧ l0 < 2147483648 := by rw [← hl0]; exact ⟨Int32.le_toInt _, Int32.toInt_lt _⟩
  rw [hc0, hl0]
  have yes : f_X10_lay_b30 (mk H b) 205 (ii (j : Int)) (ii c') (ii l') = some (mk (ps_uI (ps_uI H 216 j (ii c')) 218 j (ii l')) b) := by
    unfold f_X10_lay_b30 f_X10_lay_b35 f_X10_lay_b56
    rw [if_neg (by decide), gR_mk zk_205 (zr_205_28 b), xI_mk zk_216 (by omega) (by rw [zl_216]; omega) (by rw [zl_216]; omega), gR_mk zk_205 (zr_205_30 b), xI_mk zk_218 (by omega) (by rw [zl_218]; omega) (by rw [zl_218]; omega)]
    rfl
  have no : f_X10_lay_b34 (mk H b) 205 (ii (j : Int)) (ii c') (ii l') = some (mk H b) := by
    unfold f_X10_lay_b34 f_X10_lay_b35 f_X10_lay_b56
    rw [if_pos rfl]
  have fy : ∀ c k, ¬ ((c = 216 ∨ c = 218) ∧ k = j) → ps_uI (ps_uI H 216 j (ii c')) 218 j (ii l') c k = H c k := fun c k q => by rw [uI_o (by omega), uI_o (by omega)]
  have y1 : (ps_uI (ps_uI H 216 j (ii c')) 218 j (ii l') 216 j).toInt = c' := by rw [uI_o (by omega), uI_s, toInt_ii hc.1 hc.2]
  have y2 : (ps_uI (ps_uI H 216 j (ii c')) 218 j (ii l') 218 j).toInt = l' := by rw [uI_s, toInt_ii hl.1 hl.2]
  unfold f_X10_lay
  rw [gR_mk zk_205 (zr_205_28 b), aI_mk zk_216 (by omega) (by rw [zl_216]; omega) (by rw [zl_216]; omega), Int.toNat_natCast, e1]
  by_cases q1 : c' < c0
  · rw [if_pos (by rw [ii_lt hc.1 hc.2 b1.1 b1.2]; exact q1)]
    exact ⟨_, yes, fy, Or.inl ⟨y1, y2, Or.inl q1⟩⟩
  · rw [if_neg (by rw [ii_lt hc.1 hc.2 b1.1 b1.2]; exact q1), gR_mk zk_205 (zr_205_28 b), aI_mk zk_216 (by omega) (by rw [zl_216]; omega) (by rw [zl_216]; omega), Int.toNat_natCast, e1]
    by_cases q2 : c' = c0
    · rw [if_pos (by rw [q2]), gR_mk zk_205 (zr_205_30 b), aI_mk zk_218 (by omega) (by rw [zl_218]; omega) (by rw [zl_218]; omega), Int.toNat_natCast, e2]
      by_cases q3 : l' ≤ l0
      · rw [if_pos (by rw [ii_le hl.1 hl.2 b2.1 b2.2]; exact q3)]
        exact ⟨_, no, fun _ _ _ => rfl, Or.inr ⟨rfl, by omega⟩⟩
      · rw [if_neg (by rw [ii_le hl.1 hl.2 b2.1 b2.2]; exact q3)]
        exact ⟨_, yes, fy, Or.inl ⟨y1, y2, by omega⟩⟩
    · rw [if_neg (by rw [ii_eq hc.1 hc.2 b1.1 b1.2]; exact q2)]
      exact ⟨_, no, fun _ _ _ => rfl, Or.inr ⟨rfl, by omega⟩⟩
def LL (A D m : Int) (N d t : Nat) (V : Int) (r s : Nat) (H : zM) : Prop := ∀ j, j < 1204 → EE D t j (H r j).toInt (H s j).toInt ∧ V ≤ psi A D m N d (xk j) (sgk j) (H r j).toInt (H s j).toInt
def got (A D m : Int) (N d k : Nat) (V : Int) (r s : Nat) (H : zM) : Prop := ∃ j, k ≤ j ∧ j < 1204 ∧ psi A D m N d (xk j) (sgk j) (H r j).toInt (H s j).toInt ≤ V
theorem tgt {x' s' : Int} {w : Nat} (hw : w < 2) (hs : s' = if w = 0 then 1 else -1) (hx : -300 ≤ x' ∧ x' ≤ 300) : ∃ j : Nat, j < 1204 ∧ (2 * (x' + 301) + w : Int) = j ∧ xk j = x' ∧ sgk j = s' := by
  refine ⟨(2 * (x' + 301) + w : Int).toNat, by omega, by omega, by unfold xk; omega, ?_⟩
  rw [hs]
  unfold sgk
  rcases (by omega : w = 0 ∨ w = 1) with rfl | rfl
  · rw [if_pos (by omega), if_pos rfl]
  · rw [if_neg (by omega), if_neg (by omega)]
theorem b224_mk {H : zM} {W : Int32} {T t d k u w : Nat} {x0 y0 x' s' c' l' V : Int} (k122 : ps_M → Nat → Int32 → Int32 → Int32 → Int32 → Int32 → Option (Int32 × ps_M)) (k165 : ps_M → Nat → Int32 → Int32 → Int32 → Int32 → Int32 → Int32 → Option (Int32 × ps_M)) (k176 : ps_M → Nat → Int32 → Int32 → Int32 → Int32 → Int32 → Int32 → Int32 → Option (Int32 × ps_M)) (h21 : H 206 21 = ii A) (hA : -100000000 ≤ A ∧ A ≤ 100000000) (hm : 0 ≤ m ∧ m ≤ 999) (hN : N ≤ 30) (ht : t < 30) (hT : T + d = N) (hk : k < 1204) (hu : u = 0 ∨ u = 1) (hw : w < 2) (hs : s' = if w = 0 then 1 else -1) (hx : x0 + y0 = x') (hx' : -300 ≤ x' ∧ x' ≤ 300) (hc : (H 215 k).toInt + u = c') (hc' : 0 ≤ c' ∧ c' ≤ 31) (hl : (if u = 1 ∧ (H 215 k).toInt = 0 then (t : Int) else (H 217 k).toInt) = l') (hLL : LL A D m N d T V 216 218 H) (hE : ∀ j, xk j = x' → sgk j = s' → EE D T j c' l') (hV : ((A + x').natAbs : Int) ≤ m → V ≤ psi A D m N d x' s' c' l') : ∃ H', f_X10_changes_b224 k122 k165 k176 (mk H b) 205 (ii (N : Int)) (ii m) W (ii D) (ii (t : Int)) (ii (k : Int)) (ii (u : Int)) (ii (w : Int)) (ii x0) (ii y0) = k176 (mk H' b) 205 (ii (N : Int)) (ii m) W (ii D) (ii (t : Int)) (ii (k : Int)) (ii ((u + 1 : Nat) : Int)) ∧ LL A D m N d T V 216 218 H' ∧ (∀ c k, c ≠ 216 → c ≠ 218 → H' c k = H c k) ∧ (got A D m N d 0 V 216 218 H → got A D m N d 0 V 216 218 H') ∧ (((A + x').natAbs : Int) ≤ m → psi A D m N d x' s' c' l' ≤ V → got A D m N d 0 V 216 218 H') := by
  obtain ⟨j, hj, ej, xj, sj⟩ := tgt hw hs hx'
  have hEj := hE j xj sj
  have hlb : -2147483648 ≤ l' ∧ l' < 2147483648 := by
    have := EE_b hEj
    omega
  obtain ⟨c0, hc0⟩ : ∃ c0 : Int, (H 215 k).toInt = c0 := ⟨_, rfl⟩
  obtain ⟨l0, hl0⟩ : ∃ l0 : Int, (H 217 k).toInt = l0 := ⟨_, rfl⟩
  have e1 : H 215 k = ii c0 := by rw [← hc0, ii_toInt]
  have e2 : H 217 k = ii l0 := by rw [← hl0, ii_toInt]
  rw [hc0] at hc hl
  rw [hl0] at hl
  have e302 : ∀ H' : zM, f_X10_changes_b302 k122 k165 k176 (mk H' b) 205 (ii (N : Int)) (ii m) W (ii D) (ii (t : Int)) (ii (k : Int)) (ii (u : Int)) = k176 (mk H' b) 205 (ii (N : Int)) (ii m) W (ii D) (ii (t : Int)) (ii (k : Int)) (ii ((u + 1 : Nat) : Int)) := fun H' => by
    unfold f_X10_changes_b302
    rw [suc_ii, v_mk]
  unfold f_X10_changes_b224
  rw [ii_add, hx, v_mk, gW, show (21 : Int32) = ii 21 by decide, aI_mk zk_206 (by omega) (by rw [zl_206]; omega) (by rw [zl_206]; omega), show (21 : Int).toNat = 21 from rfl, h21, ii_add, ii_neg, ii_l64 (by omega) (by omega), ii_l64 (by omega) (by omega), ii_l64 (by omega) (by omega), in_mk (by omega) (by omega) (by omega) (by omega) (by omega) (by omega), b2_mk]
  by_cases q : ((A + x').natAbs : Int) ≤ m
  · have hgo : ∃ H', f_X10_lay (mk H b) 205 (ii (j : Int)) (ii c') (ii l') = some (mk H' b) ∧ LL A D m N d T V 216 218 H' ∧ (∀ c k, c ≠ 216 → c ≠ 218 → H' c k = H c k) ∧ (got A D m N d 0 V 216 218 H → got A D m N d 0 V 216 218 H') ∧ (((A + x').natAbs : Int) ≤ m → psi A D m N d x' s' c' l' ≤ V → got A D m N d 0 V 216 218 H') := by
      obtain ⟨H', f1, o1, z1⟩ := lay_mk (b := b) (H := H) (c' := c') (l' := l') hj (by omega) hlb
      have hp := psi_lay (A := A) (m := m) hN hT (hLL j hj).1 hEj (xk j) (sgk j)
      rw [xj, sj] at hp
      have hLj := (hLL j hj).2
      rw [xj, sj] at hLj
      refine ⟨H', f1, ?_, fun c k a e => o1 c k (by omega), ?_, ?_⟩
      · intro i hi
        by_cases ei : i = j
        · subst ei
          rcases z1 with ⟨a1, a2, a3⟩ | ⟨a1, -⟩
          · rw [a1, a2, xj, sj]
            exact ⟨hEj, hV q⟩
          · rw [a1]
            exact hLL i hi
        · rw [o1 216 i (by omega), o1 218 i (by omega)]
          exact hLL i hi
      · rintro ⟨i, i0, hi, hp2⟩
        by_cases ei : i = j
        · subst ei
          refine ⟨i, i0, hi, ?_⟩
          rcases z1 with ⟨a1, a2, a3⟩ | ⟨a1, -⟩
          · rw [a1, a2, xj, sj]
            rw [xj, sj] at hp2
            have := hp.1 a3
            omega
          · rw [a1]
            exact hp2
        · exact ⟨i, i0, hi, by rw [o1 216 i (by omega), o1 218 i (by omega)]; exact hp2⟩
      · intro _ hp2
        refine ⟨j, by omega, hj, ?_⟩
        rw [xj, sj]
        rcases z1 with ⟨a1, a2, a3⟩ | ⟨a1, a3⟩
        · rw [a1, a2]
          exact hp2
        · rw [a1]
          have := hp.2 a3
          omega
    obtain ⟨H', f1, z1⟩ := hgo
    refine ⟨H', ?_, z1⟩
    have e299 : f_X10_changes_b299 k122 k165 k176 (mk H b) 205 (ii (N : Int)) (ii m) W (ii D) (ii (t : Int)) (ii (k : Int)) (ii (u : Int)) 205 (ii (j : Int)) (ii c') (ii l') = k176 (mk H' b) 205 (ii (N : Int)) (ii m) W (ii D) (ii (t : Int)) (ii (k : Int)) (ii ((u + 1 : Nat) : Int)) := by
      unfold f_X10_changes_b299
      rw [ck_mk zk_205, f1, b1_mk, e302]
    have e292 : (if u = 1 ∧ c0 = 0 then (t : Int) else l0) = l0 → f_X10_changes_b292 k122 k165 k176 (mk H b) 205 (ii (N : Int)) (ii m) W (ii D) (ii (t : Int)) (ii (k : Int)) (ii (u : Int)) 205 (ii (j : Int)) (ii c') = k176 (mk H' b) 205 (ii (N : Int)) (ii m) W (ii D) (ii (t : Int)) (ii (k : Int)) (ii ((u + 1 : Nat) : Int)) := fun w => by
      unfold f_X10_changes_b292
      rw [gR_mk zk_205 (zr_205_29 b), aI_mk zk_217 (by omega) (by rw [zl_217]; omega) (by rw [zl_217]; omega), Int.toNat_natCast, e2, ← w, hl, e299]
    have ea : ii 2 * (ii x' + ii 301) + ii (w : Int) = ii (j : Int) := by rw [ii_add, ii_mul, ii_add, ej]
    rw [if_pos (by omega : -m ≤ A + x' ∧ A + x' ≤ m), if_neg (by decide), gR_mk zk_205 (zr_205_27 b), aI_mk zk_215 (by omega) (by rw [zl_215]; omega) (by rw [zl_215]; omega), Int.toNat_natCast, e1, show (2 : Int32) = ii 2 by decide, show (301 : Int32) = ii 301 by decide, ea, ii_add, hc]
    rcases hu with rfl | rfl
    · rw [if_neg (by decide)]
      exact e292 (if_neg (by omega))
    · rw [if_pos (by decide), gR_mk zk_205 (zr_205_27 b), aI_mk zk_215 (by omega) (by rw [zl_215]; omega) (by rw [zl_215]; omega), Int.toNat_natCast, e1]
      by_cases q2 : c0 = 0
      · rw [if_pos (by rw [q2]; decide)]
        rw [if_pos ⟨rfl, q2⟩] at hl
        rw [← hl] at e299
        exact e299
      · rw [if_neg (by rw [ii_lits.1, ii_eq (by omega) (by omega) (by omega) (by omega)]; exact q2)]
        exact e292 (if_neg (by omega))
  · refine ⟨H, ?_, hLL, fun _ _ _ _ => rfl, fun x => x, fun a => absurd a q⟩
    rw [if_neg (by omega : ¬ (-m ≤ A + x' ∧ A + x' ≤ m)), if_pos (by decide), e302]
end
