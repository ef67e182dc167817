/-! the fewest changes of sides: the best of them -/
def ps0 (B F : Int) : Int := if B < 99999999 then B * 1000 - (if B = 0 then 99 else F) else 900000
def chs (w v c l : Int) : Int := if w = 0 then (if v = 1 then c else -1) else (if v = 1 then lz l else -1)
section
variable {b : Bool} {A D m : Int} {N : Nat}
theorem psi_0 (x s c l : Int) : psi A D m N 0 x s c l = ps0 c l := by
  unfold psi ps0
  show (if c < 99999999 ∧ (0 : Int) < 1000 then (c + 0) * 1000 - (if c = 0 then (99 : Int) else l) else 900000) = _
  by_cases q : c < 99999999
  · rw [if_pos ⟨q, by omega⟩, if_pos q, Int.add_zero]
  · rw [if_neg (fun a => q a.1), if_neg q]
def bst (B F : Int) : Prop := (B = 99999999 ∧ -2147483648 ≤ F ∧ F < 2147483648) ∨ (0 ≤ B ∧ B ≤ 30 ∧ -1 ≤ F ∧ F ≤ 99)
def anw (w B F : Int) : Int := if B = 99999999 then -1 else if w = 0 then B else if B = 0 then -1 else F
theorem best_mk {V w : Int} {H : zM} (hw : 0 ≤ w ∧ w ≤ 1) (hN : N ≤ 30) (hL : LL A D m N 0 N V 215 217 H) : ∀ (e k mm : Nat) (B F : Int), k + e = 1204 → e < mm → bst B F → V ≤ ps0 B F → ∃ B' F', f_X10_changes_l375 mm (mk H b) 205 (ii w) (ii B) (ii F) (ii (k : Int)) = some (ii (anw w B' F'), mk H b) ∧ bst B' F' ∧ V ≤ ps0 B' F' ∧ ps0 B' F' ≤ ps0 B F ∧ (got A D m N 0 k V 215 217 H → ps0 B' F' ≤ V) := by
  intro e
  induction e with
  | zero =>
    intro k mm B F he hmm hB hV
    obtain ⟨m', rfl⟩ : ∃ m', mm = m' + 1 := ⟨mm - 1, by omega⟩
    refine ⟨B, F, ?_, hB, hV, Int.le_refl _, fun ⟨i, i1, i2, _⟩ => by omega⟩
    have bB : -2147483648 ≤ B ∧ B < 2147483648 := by unfold bst at hB; omega
    show f_X10_changes_w375 (f_X10_changes_l375 m') (mk H b) 205 (ii w) (ii B) (ii F) (ii (k : Int)) = _
    unfold f_X10_changes_w375 anw f_X10_changes_b474
    rw [if_pos (by rw [show (1204 : Int32) = ii 1204 by decide, ii_le (by omega) (by omega) (by omega) (by omega)]; omega), show (99999999 : Int32) = ii 99999999 by decide, show (-1 : Int32) = ii (-1) by decide, show (0 : Int32) = ii 0 by decide]
    by_cases q1 : B = 99999999
    · rw [if_pos (by rw [q1]), if_pos q1]
    · rw [if_neg (by rw [ii_eq bB.1 bB.2 (by omega) (by omega)]; exact q1), if_neg q1]
      by_cases q2 : w = 0
      · rw [if_pos (by rw [q2]), if_pos q2]
      · rw [if_neg (by rw [ii_eq (by omega) (by omega) (by omega) (by omega)]; exact q2), if_neg q2]
        by_cases q3 : B = 0
        · rw [if_pos (by rw [q3]), if_pos q3]
        · rw [if_neg (by rw [ii_eq bB.1 bB.2 (by omega) (by omega)]; exact q3), if_neg q3]
  | succ e ih =>
    intro k mm B F he hmm hB hV
    obtain ⟨m', rfl⟩ : ∃ m', mm = m' + 1 := ⟨mm - 1, by omega⟩
    have bB : -2147483648 ≤ B ∧ B < 2147483648 ∧ -2147483648 ≤ F ∧ F < 2147483648 := by unfold bst at hB; omega
    obtain ⟨hE, hVk⟩ := hL k (by omega)
    have hcb := EE_b hE
    rw [psi_0] at hVk
    obtain ⟨c, hc⟩ : ∃ c : Int, (H 215 k).toInt = c := ⟨_, rfl⟩
    obtain ⟨l, hl⟩ : ∃ l : Int, (H 217 k).toInt = l := ⟨_, rfl⟩
    have ec : H 215 k = ii c := by rw [← hc, ii_toInt]
    have el : H 217 k = ii l := by rw [← hl, ii_toInt]
    have bl : -2147483648 ≤ l ∧ l < 2147483648 := by rw [← hl]; exact ⟨Int32.le_toInt _, Int32.toInt_lt _⟩
    rw [hc, hl] at hVk hcb
    have hgk : got A D m N 0 k V 215 217 H → ps0 c l ≤ V ∨ got A D m N 0 (k + 1) V 215 217 H := by
      rintro ⟨i, i1, i2, i3⟩
      by_cases q : i = k
      · subst q
        rw [psi_0, hc, hl] at i3
        exact Or.inl i3
      · exact Or.inr ⟨i, by omega, i2, i3⟩
    have e437 : ∀ (B1 F1 : Int), bst B1 F1 → V ≤ ps0 B1 F1 → ps0 B1 F1 ≤ ps0 B F → ps0 B1 F1 ≤ ps0 c l → ∃ B' F', f_X10_changes_b437 (f_X10_changes_l375 m') (mk H b) 205 (ii w) (ii B1) (ii F1) (ii (k : Int)) = some (ii (anw w B' F'), mk H b) ∧ bst B' F' ∧ V ≤ ps0 B' F' ∧ ps0 B' F' ≤ ps0 B F ∧ (got A D m N 0 k V 215 217 H → ps0 B' F' ≤ V) := by
      intro B1 F1 h1 h2 h3 h4
      obtain ⟨B', F', f1, a1, a2, a3, a4⟩ := ih (k + 1) m' B1 F1 (by omega) (by omega) h1 h2
      refine ⟨B', F', ?_, a1, a2, by omega, fun g => ?_⟩
      · unfold f_X10_changes_b437
        rw [suc_ii, v_mk, f1]
      · rcases hgk g with g | g
        · omega
        · exact a4 g
    have e419 : f_X10_changes_b419 (f_X10_changes_l375 m') (mk H b) 205 (ii w) (ii (k : Int)) = f_X10_changes_b437 (f_X10_changes_l375 m') (mk H b) 205 (ii w) (ii c) (ii l) (ii (k : Int)) := by
      unfold f_X10_changes_b419
      rw [gR_mk zk_205 (zr_205_27 b), aI_mk zk_215 (by omega) (by rw [zl_215]; omega) (by rw [zl_215]; omega), gR_mk zk_205 (zr_205_29 b), aI_mk zk_217 (by omega) (by rw [zl_217]; omega) (by rw [zl_217]; omega), Int.toNat_natCast, ec, el]
    show ∃ B' F', f_X10_changes_w375 (f_X10_changes_l375 m') (mk H b) 205 (ii w) (ii B) (ii F) (ii (k : Int)) = _ ∧ _
    unfold f_X10_changes_w375
    rw [if_neg (by rw [show (1204 : Int32) = ii 1204 by decide, ii_le (by omega) (by omega) (by omega) (by omega)]; omega), gR_mk zk_205 (zr_205_27 b), aI_mk zk_215 (by omega) (by rw [zl_215]; omega) (by rw [zl_215]; omega), Int.toNat_natCast, ec]
    unfold bst at hB
    by_cases q1 : c < B
    · rw [if_pos (by rw [ii_lt (by omega) (by omega) bB.1 bB.2.1]; exact q1), e419]
      refine e437 c l (by unfold bst; omega) hVk ?_ (Int.le_refl _)
      unfold ps0
      repeat' split
      all_goals omega
    · rw [if_neg (by rw [ii_lt (by omega) (by omega) bB.1 bB.2.1]; exact q1), gR_mk zk_205 (zr_205_27 b), aI_mk zk_215 (by omega) (by rw [zl_215]; omega) (by rw [zl_215]; omega), Int.toNat_natCast, ec]
      by_cases q2 : c = B
      · rw [if_pos (by rw [q2]), gR_mk zk_205 (zr_205_29 b), aI_mk zk_217 (by omega) (by rw [zl_217]; omega) (by rw [zl_217]; omega), Int.toNat_natCast, el]
        by_cases q3 : l ≤ F
        · rw [if_pos (by rw [ii_le bl.1 bl.2 bB.2.2.1 bB.2.2.2]; exact q3)]
          refine e437 B F hB hV (Int.le_refl _) ?_
          unfold ps0
          repeat' split
          all_goals omega
        · rw [if_neg (by rw [ii_le bl.1 bl.2 bB.2.2.1 bB.2.2.2]; exact q3), e419]
          refine e437 c l (by unfold bst; omega) hVk ?_ (Int.le_refl _)
          unfold ps0
          repeat' split
          all_goals omega
      · rw [if_neg (by rw [ii_eq (by omega) (by omega) bB.1 bB.2.1]; exact q2)]
        refine e437 B F hB hV (Int.le_refl _) ?_
        unfold ps0
        repeat' split
        all_goals omega
theorem empty_mk {W : Int32} : ∀ (e k mm : Nat) (H : zM), k + e = 1204 → e < mm → ∃ H', f_X10_changes_l77 mm (mk H b) 205 (ii (N : Int)) (ii m) W (ii D) (ii (k : Int)) = f_X10_changes_l122 ps_fu (mk H' b) 205 (ii (N : Int)) (ii m) W (ii D) (0 : Int32) ∧ (∀ j, k ≤ j → j < 1204 → j ≠ 602 → H' 215 j = ii 99999999) ∧ H' 215 602 = ii 0 ∧ H' 217 602 = ii 99 ∧ (∀ c i, (c ≠ 215 ∧ c ≠ 217) ∨ (c = 215 ∧ i < k ∧ i ≠ 602) → H' c i = H c i) := by
  intro e
  induction e with
  | zero =>
    intro k mm H he hmm
    obtain ⟨m', rfl⟩ : ∃ m', mm = m' + 1 := ⟨mm - 1, by omega⟩
    refine ⟨ps_uI (ps_uI H 215 602 (ii 0)) 217 602 (ii 99), ?_, fun j a c => by omega, by rw [uI_o (by omega), uI_s], uI_s, fun c i q => by rw [uI_o (by omega), uI_o (by omega)]⟩
    show f_X10_changes_w77 (f_X10_changes_l77 m') (mk H b) 205 (ii (N : Int)) (ii m) W (ii D) (ii (k : Int)) = _
    unfold f_X10_changes_w77
    rw [if_pos (by rw [show (1204 : Int32) = ii 1204 by decide, ii_le (by omega) (by omega) (by omega) (by omega)]; omega), gR_mk zk_205 (zr_205_27 b), show (602 : Int32) = ii 602 by decide, xI_mk zk_215 (by omega) (by rw [zl_215]; omega) (by rw [zl_215]; omega), gR_mk zk_205 (zr_205_29 b), xI_mk zk_217 (by omega) (by rw [zl_217]; omega) (by rw [zl_217]; omega)]
    rfl
  | succ e ih =>
    intro k mm H he hmm
    obtain ⟨m', rfl⟩ : ∃ m', mm = m' + 1 := ⟨mm - 1, by omega⟩
    obtain ⟨H2, f2, b1, b2, b3, b4⟩ := ih (k + 1) m' (ps_uI H 215 k (ii 99999999)) (by omega) (by omega)
    refine ⟨H2, ?_, fun j a c q => ?_, b2, b3, fun c i q => ?_⟩
    · show f_X10_changes_w77 (f_X10_changes_l77 m') (mk H b) 205 (ii (N : Int)) (ii m) W (ii D) (ii (k : Int)) = _
      unfold f_X10_changes_w77
      rw [if_neg (by rw [show (1204 : Int32) = ii 1204 by decide, ii_le (by omega) (by omega) (by omega) (by omega)]; omega), gR_mk zk_205 (zr_205_27 b), show (99999999 : Int32) = ii 99999999 by decide, xI_mk zk_215 (by omega) (by rw [zl_215]; omega) (by rw [zl_215]; omega), Int.toNat_natCast, suc_ii, v_mk, f2]
    · by_cases w : j = k
      · subst w
        rw [b4 215 j (by omega), uI_s]
      · exact b1 j (by omega) c q
    · rw [b4 c i (by omega), uI_o (by omega)]
theorem changes_m {w : Int} {H : zM} (hw : 0 ≤ w ∧ w ≤ 1) (h21 : H 206 21 = ii A) (hA : -100000000 ≤ A ∧ A ≤ 100000000) (hD : -9 ≤ D ∧ D ≤ 9) (hm : 0 ≤ m ∧ m ≤ 999) (hN : 1 ≤ N ∧ N ≤ 30) : ∃ H', f_X10_changes_l77 ps_fu (mk H b) 205 (ii (N : Int)) (ii m) (ii w) (ii D) (0 : Int32) = some (ii (if w = 0 then (if bcd A D m N 0 1 < 1000 then bcd A D m N 0 1 else -1) else (if bcd A D m N 0 1 < 1000 then lz (lfd A D m N N) else -1)), mk H' b) ∧ (∀ c k, c < 215 ∨ 218 < c → H' c k = H c k) := by
  obtain ⟨H1, f1, a1, a2, a3, a4⟩ := empty_mk (b := b) (m := m) (D := D) (N := N) (W := ii w) 1204 0 ps_fu H (by omega) (by unfold ps_fu; omega)
  obtain ⟨V, hV⟩ : ∃ V : Int, psi A D m N N 0 1 0 99 = V := ⟨_, rfl⟩
  have hV9 : V ≤ 900000 := by rw [← hV]; exact psi_le hN.2 (Nat.le_refl _) (Or.inr (by omega))
  have hx6 : xk 602 = 0 ∧ sgk 602 = 1 := ⟨by decide, by decide⟩
  have hE6 : EE D 0 602 0 99 := Or.inr ⟨by omega, by omega, by omega, by omega, fun _ => ⟨rfl, by rw [hx6.1, show ((0 : Nat) : Int) = 0 from rfl, Int.zero_mul], hx6.2⟩, by rw [hx6.1]; omega, by rw [hx6.1]; omega⟩
  have e5 : (H1 215 602).toInt = 0 := by rw [a2, toInt_ii (by omega) (by omega)]
  have e7 : (H1 217 602).toInt = 99 := by rw [a3, toInt_ii (by omega) (by omega)]
  have hL : LL A D m N N 0 V 215 217 H1 := fun j hj => by
    by_cases q : j = 602
    · subst q
      rw [e5, e7, hx6.1, hx6.2, hV]
      exact ⟨hE6, Int.le_refl _⟩
    · rw [a1 j (by omega) hj q, toInt_ii (by omega) (by omega)]
      refine ⟨Or.inl rfl, ?_⟩
      unfold psi
      rw [if_neg (by omega)]
      exact hV9
  obtain ⟨H2, f2, b1, b2, b3⟩ := sawed_mk (b := b) (W := ii w) hA hD hm hN.2 hV9 N 0 ps_fu H1 (by omega) (by unfold ps_fu; omega) (by rw [a4 206 21 (by omega)]; exact h21) hL (fun _ => ⟨602, by omega, by omega, by rw [e5, e7, hx6.1, hx6.2, hV]; exact Int.le_refl _⟩)
  obtain ⟨B, F, f3, c1, c2, -, c3⟩ := best_mk (b := b) hw hN.2 b1 1204 0 ps_fu 99999999 (-1) (by omega) (by unfold ps_fu; omega) (Or.inl ⟨rfl, by omega, by omega⟩) hV9
  refine ⟨H2, f1.trans (f2.trans (f3.trans ?_)), fun c k q => by rw [b3 c k q, a4 c k (by omega)]⟩
  have ev : anw w B F = if w = 0 then (if bcd A D m N 0 1 < 1000 then bcd A D m N 0 1 else -1) else (if bcd A D m N 0 1 < 1000 then lz (lfd A D m N N) else -1) := by
    have h1 := bcd_d (A := A) (D := D) (m := m) N 0 1
    have h2 := bcd_b A D m N 0 1
    have h3 := lfd_b (A := A) (D := D) (m := m) hN.2 N (Nat.le_refl _)
    have h4 := (lfd_none (A := A) (D := D) (m := m) hN.2 N (Nat.le_refl _)).1
    rw [Int.sub_self, Int.zero_mul] at h4
    have c4 : V < 900000 → ps0 B F ≤ V := fun q => c3 (b2 q)
    unfold psi at hV
    unfold ps0 at c2 c4
    unfold bst at c1
    unfold anw lz
    generalize bcd A D m N 0 1 = X at *
    generalize lfd A D m N N = L at *
    by_cases q1 : X < 1000
    · rw [if_pos ⟨by omega, q1⟩, if_pos rfl] at hV
      have c5 := c4 (by omega)
      by_cases q2 : B = 99999999
      · rw [if_neg (by omega)] at c5
        omega
      · rw [if_pos (by omega)] at c5 c2
        rw [if_neg q2, if_pos q1, if_pos q1]
        by_cases q3 : B = 0
        · rw [if_pos q3] at c5 c2
          rw [if_pos q3]
          split
          · omega
          · rw [if_pos (by omega)]
        · rw [if_neg q3] at c5 c2
          rw [if_neg q3]
          split
          · omega
          · rw [if_neg (by intro e; have := h4 e; omega)]
            omega
    · rw [if_neg (by omega)] at hV
      have q2 : B = 99999999 := by
        by_cases q2 : B = 99999999
        · exact q2
        · exfalso
          rw [if_pos (by omega)] at c2
          split at c2 <;> omega
      rw [if_pos q2, if_neg q1, if_neg q1]
      split <;> rfl
  rw [ev]
end
theorem arm22 : ps_arm22 Inv := by
  rintro k M x1 x2 x3 hk ⟨h, b, y, rfl, hR⟩
  obtain ⟨n, rfl, n1, n2⟩ := ex_ii x1
  obtain ⟨m, rfl, m1, m2⟩ := ex_ii x2
  obtain ⟨w, rfl, w1, w2⟩ := ex_ii x3
  have hb := wk16_b hR.2.1 hR.1.1
  have win_ : ∀ (H : zM) (b : Bool) (x hi : Int) (lo : Int), -2147483648 ≤ x → x < 2147483648 → 0 ≤ lo → lo < 2 → 0 ≤ hi → hi < 1000 → f_X9_isWithin (mk H b) (ii x) (ii lo) (ii hi) = some (ii (if lo ≤ x ∧ x ≤ hi then 1 else 0), mk H b) := fun H b x hi lo a1 a2 a3 a4 a5 a6 => within_mk (by omega) (by omega) (by omega) (by omega) (by omega) (by omega)
  have min_ : ∀ (H : zM) (b : Bool) (x hi : Int) (lo : Int), -2147483648 ≤ x → x < 2147483648 → 0 ≤ lo → lo < 2 → 0 ≤ hi → hi < 1000 → f_X10_in (mk H b) (ii x).toInt64 (l64 lo) (l64 hi) = some (ii (if lo ≤ x ∧ x ≤ hi then 1 else 0), mk H b) := fun H b x hi lo a1 a2 a3 a4 a5 a6 => by
    rw [ii_l64 a1 a2, in_mk (by omega) (by omega) (by omega) (by omega) (by omega) (by omega)]
  have cs : f_X9_changes (mk h b) 0 (ii n) (ii m) (ii w) = (if ¬ ((1 ≤ n ∧ n ≤ 30) ∧ (0 ≤ m ∧ m ≤ 999) ∧ (0 ≤ w ∧ w ≤ 1)) then some (ii (-1000000002), mk h b) else f_X9_changes (mk h b) 0 (ii n) (ii m) (ii w)) := by
    split
    · rename_i q
      unfold f_X9_changes f_X9_changes_b30
      rw [show (1 : Int32) = ii 1 by decide, show (30 : Int32) = ii 30 by decide, show (0 : Int32) = ii 0 by decide, show (999 : Int32) = ii 999 by decide, win_ _ _ _ _ _ n1 n2 (by omega) (by omega) (by omega) (by omega), b2_mk]
      by_cases c1 : 1 ≤ n ∧ n ≤ 30
      · rw [if_pos c1, if_neg (by decide), win_ _ _ _ _ _ m1 m2 (by omega) (by omega) (by omega) (by omega), b2_mk]
        by_cases c2 : 0 ≤ m ∧ m ≤ 999
        · rw [if_pos c2, if_neg (by decide), win_ _ _ _ _ _ w1 w2 (by omega) (by omega) (by omega) (by omega), b2_mk, if_neg (fun c3 => q ⟨c1, c2, c3⟩), if_pos rfl]
          rfl
        · rw [if_neg c2, if_pos rfl]
          rfl
      · rw [if_neg c1, if_pos rfl]
        rfl
    · rfl
  by_cases c : (1 ≤ n ∧ n ≤ 30) ∧ (0 ≤ m ∧ m ≤ 999) ∧ (0 ≤ w ∧ w ≤ 1)
  · clear cs
    obtain ⟨c1, c2, c3⟩ := c
    by_cases cp : wk h 18 16 = -1
    · refine eqv_of (r := ii (-1000000003)) (h1 := h) (h2 := h) (b1 := b) (b2 := b) ?_ ?_ (inv_of hR)
      · unfold f_X9_changes
        rw [show (1 : Int32) = ii 1 by decide, show (30 : Int32) = ii 30 by decide, show (0 : Int32) = ii 0 by decide, show (999 : Int32) = ii 999 by decide, win_ _ _ _ _ _ n1 n2 (by omega) (by omega) (by omega) (by omega), b2_mk, if_pos c1, if_neg (by decide), win_ _ _ _ _ _ m1 m2 (by omega) (by omega) (by omega) (by omega), b2_mk, if_pos c2, if_neg (by decide), win_ _ _ _ _ _ w1 w2 (by omega) (by omega) (by omega) (by omega), b2_mk, if_pos c3, if_neg (by decide), g0_2, ck_mk iw_18.1, pair18 hR.2.1 hR.1.1, b2_mk, if_pos cp, if_pos rfl]
        rfl
      · show f_X10_changes (mk h b) 205 (ii n) (ii m) (ii w) = _
        unfold f_X10_changes
        rw [show (1 : Int64) = l64 1 by decide, show (30 : Int64) = l64 30 by decide, show (0 : Int64) = l64 0 by decide, show (999 : Int64) = l64 999 by decide, min_ _ _ _ _ _ n1 n2 (by omega) (by omega) (by omega) (by omega), b2_mk, if_pos c1, if_neg (by decide), min_ _ _ _ _ _ m1 m2 (by omega) (by omega) (by omega) (by omega), b2_mk, if_pos c2, if_neg (by decide), min_ _ _ _ _ _ w1 w2 (by omega) (by omega) (by omega) (by omega), b2_mk, if_pos c3, if_neg (by decide), ck_mk zk_205, mpair hR.2.1 hR.1.1 (fun _ _ => rfl), b2_mk, if_pos cp, if_pos (by decide)]
        rfl
    · obtain ⟨hL, hp⟩ := hb.2.2 cp
      have hO := hR.2.1
      obtain ⟨⟨p1, p2⟩, ⟨q1, q2⟩, -⟩ := id hp
      have hn4 := hR.1.1.2.1.2
      have hv21 := hO.1.2.2.1
      have hyp := (hR.1.1.2.2.2.2.2.2 (wk h 18 16).toNat (by omega)).2.1
      have hyq := (hR.1.1.2.2.2.2.2.2 (wk h 18 17).toNat (by omega)).2.1
      obtain ⟨N, rfl⟩ : ∃ N : Nat, n = N := ⟨n.toNat, by omega⟩
      obtain ⟨D, hD⟩ : ∃ D : Int, y 3 (wk h 18 16).toNat - y 3 (wk h 18 17).toNat = D := ⟨_, rfl⟩
      obtain ⟨h1, b', f1, o1, z0, z1⟩ := weigh_mk (b := b) (H := h) (A := wk h 18 21) (D := D) (m := m) (N := N) (by omega) (by omega) c2 (by omega)
      have s1 : sc h h1 := fun c k q => o1 c k (by omega)
      have hR1 := Rel_sc hR s1
      have e18 := sc_wk s1
      have em : ∀ j, 16 ≤ j → j < 25 → h1 206 j = ii (wk h 18 j) := fun j j1 j2 => by
        have := hO.2.2.1 j j1 j2
        rw [o1 206 j (by omega), ← this]
        unfold mrow
        rw [Nat.zero_add, ii_toInt]
      obtain ⟨h2, f2, o2⟩ := changes_m (b := b') (A := wk h 18 21) (D := D) (m := m) (N := N) (w := w) (H := h1) c3 (em 21 (by omega) (by omega)) (by omega) (by omega) c2 (by omega)
      have s2 : sc h1 h2 := fun c k q => o2 c k (by omega)
      have h210 : ∀ p : Nat, (p : Int) < y 0 1 → h1 210 p = ii (y 3 p) := fun p hp => (hR1.1.2.2.2.2.2.2.2.2 p hp).2.1
      have elean := lean_mk (b := b) (h := h) iw_18 hR.1.1 hR.1.2.1 hp
      rw [putW_wk, hD] at elean
      refine eqv_of (r := ii (if w = 0 then (if bcd (wk h 18 21) D m N 0 1 < 1000 then bcd (wk h 18 21) D m N 0 1 else -1) else (if bcd (wk h 18 21) D m N 0 1 < 1000 then lz (lfd (wk h 18 21) D m N N) else -1))) (h1 := h1) (h2 := h2) (b1 := b') (b2 := b') ?_ ?_ (inv_of (Rel_sc hR1 s2))
      · have e21 : h 18 5 = ii (wk h 18 21) := by
          unfold wk
          simp [ii_toInt]
        unfold f_X9_changes f_X9_changes_b94
        rw [show (1 : Int32) = ii 1 by decide, show (30 : Int32) = ii 30 by decide, show (0 : Int32) = ii 0 by decide, show (999 : Int32) = ii 999 by decide, win_ _ _ _ _ _ n1 n2 (by omega) (by omega) (by omega) (by omega), b2_mk, if_pos c1, if_neg (by decide), win_ _ _ _ _ _ m1 m2 (by omega) (by omega) (by omega) (by omega), b2_mk, if_pos c2, if_neg (by decide), win_ _ _ _ _ _ w1 w2 (by omega) (by omega) (by omega) (by omega), b2_mk, if_pos c3, if_neg (by decide), g0_2, ck_mk iw_18.1, pair18 hR.2.1 hR.1.1, b2_mk, if_neg cp, if_neg (by decide), g0_5, g0_2, gI_mk iw_18.1, e21, g0_2, g0_0, ck_mk iw_18.1, elean, b2_mk, ck_mk zk_186, f1, b1_mk]
        by_cases cw : w = 0
        · rw [if_pos (by rw [cw]), if_pos cw, g0_5, gI_mk zk_186, z0]
        · rw [if_neg (by rw [ii_eq (by omega) (by omega) (by omega) (by omega)]; exact cw), if_neg cw, g0_5, gI_mk zk_186, z1]
      · show f_X10_changes (mk h1 b') 205 (ii (N : Int)) (ii m) (ii w) = _
        unfold f_X10_changes
        rw [show (1 : Int64) = l64 1 by decide, show (30 : Int64) = l64 30 by decide, show (0 : Int64) = l64 0 by decide, show (999 : Int64) = l64 999 by decide, min_ _ _ _ _ _ n1 n2 (by omega) (by omega) (by omega) (by omega), b2_mk, if_pos c1, if_neg (by decide), min_ _ _ _ _ _ m1 m2 (by omega) (by omega) (by omega) (by omega), b2_mk, if_pos c2, if_neg (by decide), min_ _ _ _ _ _ w1 w2 (by omega) (by omega) (by omega) (by omega), b2_mk, if_pos c3, if_neg (by decide), ck_mk zk_205, mpair hR1.2.1 hR1.1.1 (fun _ _ => rfl), e18, b2_mk, if_neg cp, if_neg (by decide), gR_mk zk_205 (zr_205_16 b'), gW, show (16 : Int32) = ii 16 by decide, aI_mk zk_206 (by omega) (by rw [zl_206]; omega) (by rw [zl_206]; omega), show (16 : Int).toNat = 16 from rfl, em 16 (by omega) (by omega), aI_mk zk_210 (by omega) (by rw [zl_210]; omega) (by rw [zl_210]; omega), gR_mk zk_205 (zr_205_16 b'), gW, show (17 : Int32) = ii 17 by decide, aI_mk zk_206 (by omega) (by rw [zl_206]; omega) (by rw [zl_206]; omega), show (17 : Int).toNat = 17 from rfl, em 17 (by omega) (by omega), aI_mk zk_210 (by omega) (by rw [zl_210]; omega) (by rw [zl_210]; omega), h210 _ (by omega), h210 _ (by omega), ii_sub, hD, v_mk]
        exact f2
  · rw [if_pos c] at cs
    refine eqv_of (r := ii (-1000000002)) (h1 := h) (h2 := h) (b1 := b) (b2 := b) cs ?_ (inv_of hR)
    show f_X10_changes (mk h b) 205 (ii n) (ii m) (ii w) = _
    unfold f_X10_changes f_X10_changes_b34
    rw [show (1 : Int64) = l64 1 by decide, show (30 : Int64) = l64 30 by decide, show (0 : Int64) = l64 0 by decide, show (999 : Int64) = l64 999 by decide, min_ _ _ _ _ _ n1 n2 (by omega) (by omega) (by omega) (by omega), b2_mk]
    by_cases c1 : 1 ≤ n ∧ n ≤ 30
    · rw [if_pos c1, if_neg (by decide), min_ _ _ _ _ _ m1 m2 (by omega) (by omega) (by omega) (by omega), b2_mk]
      by_cases c2 : 0 ≤ m ∧ m ≤ 999
      · rw [if_pos c2, if_neg (by decide), min_ _ _ _ _ _ w1 w2 (by omega) (by omega) (by omega) (by omega), b2_mk, if_neg (fun c3 => c ⟨c1, c2, c3⟩), if_pos (by decide)]
        rfl
      · rw [if_neg c2, if_pos (by decide)]
        rfl
    · rw [if_neg c1, if_pos (by decide)]
      rfl
