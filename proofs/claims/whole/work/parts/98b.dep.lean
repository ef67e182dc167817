def dep (y : Nat → Nat → Int) (bs : Nat → Int32) : Nat → Nat → (Nat → Int) → Nat → Int
  | 0, _, r => r
  | d + 1, i, r => if thr y r then r else if bs i = 1 then dep y bs d (i + 1) (rst r 1) else dep y bs d (i + 1) (plr y r)
theorem rst_Pr {y : Nat → Nat → Int} {r : Nat → Int} {n : Int} (hp : Pr y r) (hn : y 0 1 ≤ 4) : Pr y (rst r n) := by
  have ne : ∀ j, j ≠ 20 → ¬ (4 ≤ j ∧ j < 8) → rst r n j = r j := by
    intro j a b
    obtain ⟨⟨p1, p2⟩, ⟨q1, q2⟩, -⟩ := hp
    unfold rst
    rw [if_neg a, if_neg (by omega)]
  unfold Pr at hp ⊢
  rw [ne 16 (by omega) (by omega), ne 17 (by omega) (by omega), ne 18 (by omega) (by omega)]
  exact hp
theorem dep_ok {y : Nat → Nat → Int} {bs bs' : Nat → Int32} (hy : Yk y) (hL : 0 < y 0 0) : ∀ (d i : Nat) (g : Int) (r m : Nat → Int), (∀ j, i ≤ j → j < i + d → bs' j = bs j) → Ok y g r m → Pr y r → (dep y bs' d i m) 19 = (dep y bs d i r) 19 ∧ (0 ≤ (dep y bs d i r) 19 ∧ (dep y bs d i r) 19 ≤ 1200) := by
  intro d
  have hL2 := hy.1
  induction d with
  | zero =>
    intro i g r m _ hO hp
    refine ⟨hO.2.2.1 19 (by omega) (by omega), ?_⟩
    have := hO.1.1
    show 0 ≤ r 19 ∧ r 19 ≤ 1200
    omega
  | succ d ih =>
    intro i g r m hb hO hp
    unfold dep
    rw [hb i (by omega) (by omega)]
    by_cases ht : thr y r
    · rw [if_pos ht, if_pos ((req_thr hO.2.2).mpr ht)]
      refine ⟨hO.2.2.1 19 (by omega) (by omega), ?_⟩
      have := hO.1.1
      omega
    · rw [if_neg ht, if_neg (fun q => ht ((req_thr hO.2.2).mp q))]
      by_cases h1 : bs i = 1
      · rw [if_pos h1, if_pos h1]
        exact ih (i + 1) _ _ _ (fun j a c => hb j (by omega) (by omega)) (hO.rest hy hL hp (n := 1) (by omega)) (rst_Pr hp hy.2.1.2)
      · rw [if_neg h1, if_neg h1]
        exact ih (i + 1) _ _ _ (fun j a c => hb j (by omega) (by omega)) (hO.pull hy hp ht) (plr_Pr hy hp).1
theorem Ok_rf {y : Nat → Nat → Int} {g : Int} {r m : Nat → Int} (h : Ok y g r m) : Ok y g r r := ⟨h.1, h.2.1, fun _ _ _ => rfl, fun _ _ => ⟨rfl, rfl, rfl, rfl⟩⟩
theorem Ok_rm {y : Nat → Nat → Int} {g : Int} {r m : Nat → Int} (h : Ok y g r m) (hL : 0 < y 0 0) (hp : Pr y r) : Ok y g m m := ⟨req_Vb h.2.2 h.1, Or.inr ⟨hL, req_Pr h.2.2 hp⟩, fun _ _ _ => rfl, fun _ _ => ⟨rfl, rfl, rfl, rfl⟩⟩
section
variable {h : zM} {b : Bool} {y : Nat → Nat → Int} {g : Int} {n row : Nat}
theorem dep_c (hy : Yk y) (hL : 0 < y 0 0) {H : zM} (hYd : Yd H y) (hn : n ≤ 10) : ∀ (d i m : Nat) (g : Int) (r : Nat → Int), i + d = n → d < m → Ok y g r r → Pr y r → g + 9 * d ≤ 90000000 → ∃ r', f_X6_depthBehind_l14 m (mk (putW H 176 r) b) 175 1 (ii (row : Int)) (ii ((n : Int) - 1 - i)) = some (ii ((dep y (fun i => bt (ii (row : Int)) (n - 1 - i)) d i r) 19), mk (putW H 176 r') b) := by
  have e66 : ∀ r, f_X6_depthBehind_b66 (mk (putW H 176 r) b) 175 = some (ii (r 19), mk (putW H 176 r) b) := fun r => by
    unfold f_X6_depthBehind_b66
    rw [gR_mk zk_175 (zr_175_8 b), gI_mk iw_176.1, (putW_r _ _ _).2.2.2.1]
  intro d
  induction d with
  | zero =>
    intro i m g r hi hm hO hp hg
    obtain ⟨m', rfl⟩ : ∃ m', m = m' + 1 := ⟨m - 1, by omega⟩
    refine ⟨r, ?_⟩
    show f_X6_depthBehind_w14 (f_X6_depthBehind_l14 m') (mk (putW H 176 r) b) 175 1 (ii (row : Int)) (ii ((n : Int) - 1 - i)) = _
    unfold f_X6_depthBehind_w14
    rw [if_pos (by rw [ii_lits.1, ii_lt (by omega) (by omega) (by omega) (by omega)]; omega), e66]
    rfl
  | succ d ih =>
    intro i m g r hi hm hO hp hg
    obtain ⟨m', rfl⟩ : ∃ m', m = m' + 1 := ⟨m - 1, by omega⟩
    show ∃ r', f_X6_depthBehind_w14 (f_X6_depthBehind_l14 m') (mk (putW H 176 r) b) 175 1 (ii (row : Int)) (ii ((n : Int) - 1 - i)) = _
    unfold f_X6_depthBehind_w14 dep f_X6_depthBehind_b60
    rw [if_neg (by rw [ii_lits.1, ii_lt (by omega) (by omega) (by omega) (by omega)]; omega), gR_mk zk_175 (zr_175_8 b), ck_mk iw_176.1, through_mk iw_176 hy hYd hO.1 hL, b2_mk]
    by_cases ht : thr y r
    · refine ⟨r, ?_⟩
      rw [if_pos ht, if_neg (by decide), e66, if_pos ht]
    · have e1 : ii ((n : Int) - 1 - i) + (-1) = ii ((n : Int) - 1 - ((i + 1 : Nat) : Int)) := by rw [show (-1 : Int32) = ii (-1) by decide, ii_add]; congr 1; omega
      have e1' : ii ((n : Int) - 1 - i) + (-ii 1) = ii ((n : Int) - 1 - ((i + 1 : Nat) : Int)) := by rw [ii_neg, ii_add]; congr 1; omega
      have eb : ii ((n : Int) - 1 - i) = ii ((n - 1 - i : Nat) : Int) := by congr 1; omega
      rw [if_neg ht, if_pos (by decide), if_neg ht]
      have hbt : ((ii (row : Int) >>> (ii ((n : Int) - 1 - i) &&& 31)) &&& (1 : Int32)) = bt (ii (row : Int)) (n - 1 - i) := by unfold bt; rw [eb]
      by_cases h1 : bt (ii (row : Int)) (n - 1 - i) = 1
      · rw [if_pos (by rw [hbt]; exact h1), if_pos h1, gR_mk zk_175 (zr_175_8 b), ck_mk iw_176.1, show (1 : Int32) = ii 1 by decide, restFor_mk iw_176 hy hO.1 hp (by omega), b1_mk, e1', v_mk]
        exact ih (i + 1) m' (g + 1) _ (by omega) (by omega) (Ok_rf (hO.rest hy hL hp (n := 1) (by omega))) (rst_Pr hp hy.2.1.2) (by omega)
      · rw [if_neg (by rw [hbt]; exact h1), if_neg h1, gR_mk zk_175 (zr_175_8 b), ck_mk iw_176.1, once_mk iw_176 hy hYd hO.1 (by omega) hp ht, b2_mk, e1, v_mk]
        exact ih (i + 1) m' (g + 9) _ (by omega) (by omega) (Ok_rf (hO.pull hy hp ht)) (plr_Pr hy hp).1 (by omega)
theorem dep_m (hy : Yk y) (hL : 0 < y 0 0) {H : zM} {s : Int32} (hYm : Ym H y) (hn : n ≤ 10) : ∀ (d i m : Nat) (g : Int) (r : Nat → Int), i + d = n → d < m → Ok y g r r → Pr y r → g + 9 * d ≤ 90000000 → ∃ r', f_X10_depthBy_l9 m (mk (putM H 28 r) b) 205 (ii (n : Int)) s (ii (i : Int)) = some (ii ((dep y (fun i => bt s i) d i r) 19), mk (putM H 28 r') b) := by
  have e66 : ∀ r, f_X10_depthBy_b55 (mk (putM H 28 r) b) 205 = some (ii (r 19), mk (putM H 28 r) b) := fun r => by
    unfold f_X10_depthBy_b55
    rw [gW, show (47 : Int32) = ii 47 by decide, rdM (j := 19) (by omega) (by omega) (by omega)]
  intro d
  induction d with
  | zero =>
    intro i m g r hi hm hO hp hg
    obtain ⟨m', rfl⟩ : ∃ m', m = m' + 1 := ⟨m - 1, by omega⟩
    refine ⟨r, ?_⟩
    show f_X10_depthBy_w9 (f_X10_depthBy_l9 m') (mk (putM H 28 r) b) 205 (ii (n : Int)) s (ii (i : Int)) = _
    unfold f_X10_depthBy_w9
    rw [if_pos (by rw [ii_le (by omega) (by omega) (by omega) (by omega)]; omega), e66]
    rfl
  | succ d ih =>
    intro i m g r hi hm hO hp hg
    obtain ⟨m', rfl⟩ : ∃ m', m = m' + 1 := ⟨m - 1, by omega⟩
    show ∃ r', f_X10_depthBy_w9 (f_X10_depthBy_l9 m') (mk (putM H 28 r) b) 205 (ii (n : Int)) s (ii (i : Int)) = _
    unfold f_X10_depthBy_w9 dep f_X10_depthBy_b49 f_X10_has
    rw [if_neg (by rw [ii_le (by omega) (by omega) (by omega) (by omega)]; omega), ck_mk zk_205, show (28 : Int32) = ii ((28 : Nat) : Int) by decide, mthrough_mk hy hYm hO.1 (by omega), b2_mk]
    by_cases ht : thr y r
    · refine ⟨r, ?_⟩
      rw [if_pos ht, if_neg (by decide), e66, if_pos ht]
    · rw [if_neg ht, if_pos (by decide), if_neg ht]
      by_cases h1 : bt s i = 1
      · rw [if_pos (show ((s >>> (ii (i : Int) &&& 31)) &&& (1 : Int32)) = (1 : Int32) from h1), if_pos h1]
        show ∃ r', ps_b2 (some ((1 : Int32), _)) _ = _
        rw [b2_mk, if_neg (by decide), ck_mk zk_205, show (1 : Int32) = ii 1 by decide, mrelax_mk hy hO.1 hp (by omega) (by omega), b1_mk, ← ii_lits.2.1, suc_ii, v_mk]
        exact ih (i + 1) m' (g + 1) _ (by omega) (by omega) (Ok_rf (hO.rest hy hL hp (n := 1) (by omega))) (rst_Pr hp hy.2.1.2) (by omega)
      · rw [if_neg (show ¬ ((s >>> (ii (i : Int) &&& 31)) &&& (1 : Int32)) = (1 : Int32) from h1), if_neg h1]
        show ∃ r', ps_b2 (some ((0 : Int32), _)) _ = _
        rw [b2_mk, if_pos (by decide), ck_mk zk_205, mpull_mk hy hYm hO.1 (by omega) (by omega) hp ht, b2_mk, suc_ii, v_mk]
        exact ih (i + 1) m' (g + 9) _ (by omega) (by omega) (Ok_rf (hO.pull hy hp ht)) (plr_Pr hy hp).1 (by omega)
end
