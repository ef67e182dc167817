/-! two rows alike, but for what lies behind the people -/
def req (y : Nat → Nat → Int) (r m : Nat → Int) : Prop := (∀ j, 16 ≤ j → j < 25 → m j = r j) ∧ ∀ p : Nat, (p : Int) < y 0 1 → m p = r p ∧ m (4 + p) = r (4 + p) ∧ m (8 + p) = r (8 + p) ∧ m (12 + p) = r (12 + p)
def Ok (y : Nat → Nat → Int) (g : Int) (r m : Nat → Int) : Prop := Vb y g r ∧ ((r 16 = -1 ∧ r 17 = -1 ∧ r 18 = -1) ∨ (0 < y 0 0 ∧ Pr y r)) ∧ req y r m
theorem Vb.up {y : Nat → Nat → Int} {g g' : Int} {r : Nat → Int} (h : Vb y g r) (hg : g ≤ g') : Vb y g' r := by
  obtain ⟨h1, h2, h3, h4, h5, h6, h7⟩ := h
  exact ⟨h1, by omega, by omega, by omega, h5, h6, h7⟩
theorem Ok.up {y : Nat → Nat → Int} {g g' : Int} {r m : Nat → Int} (h : Ok y g r m) (hg : g ≤ g') : Ok y g' r m := ⟨h.1.up hg, h.2.1, h.2.2⟩
theorem req_Vb {y : Nat → Nat → Int} {g : Int} {r m : Nat → Int} (h : req y r m) (hv : Vb y g r) : Vb y g m := by
  obtain ⟨h1, h2⟩ := h
  obtain ⟨v1, v2, v3, v4, v5, v6, v7⟩ := hv
  refine ⟨by rw [h1 19 (by omega) (by omega)]; exact v1, by rw [h1 20 (by omega) (by omega)]; exact v2, by rw [h1 21 (by omega) (by omega)]; exact v3, by rw [h1 22 (by omega) (by omega)]; exact v4, by rw [h1 23 (by omega) (by omega)]; exact v5, by rw [h1 24 (by omega) (by omega)]; exact v6, fun p hp => ?_⟩
  obtain ⟨e1, e2, e3, e4⟩ := h2 p hp
  rw [e1, e2, e3, e4]
  exact v7 p hp
theorem req_Pr {y : Nat → Nat → Int} {r m : Nat → Int} (h : req y r m) (hp : Pr y r) : Pr y m := by
  obtain ⟨h1, -⟩ := h
  unfold Pr at hp ⊢
  rw [h1 16 (by omega) (by omega), h1 17 (by omega) (by omega), h1 18 (by omega) (by omega)]
  exact hp
theorem req_thr {y : Nat → Nat → Int} {r m : Nat → Int} (h : req y r m) : thr y m ↔ thr y r := by
  obtain ⟨h1, -⟩ := h
  unfold thr
  rw [h1 19 (by omega) (by omega)]
theorem req_mate {y : Nat → Nat → Int} {r m : Nat → Int} (h : req y r m) : mate m = mate r := by
  obtain ⟨h1, -⟩ := h
  unfold mate
  rw [h1 16 (by omega) (by omega), h1 17 (by omega) (by omega), h1 18 (by omega) (by omega)]
theorem req_pe {y : Nat → Nat → Int} {r m : Nat → Int} (h : req y r m) {p : Nat} (hp : (p : Int) < y 0 1) (d : Int) : pe y m p d = pe y r p d := by
  obtain ⟨h1, h2⟩ := h
  obtain ⟨e1, e2, e3, e4⟩ := h2 p hp
  have ea : pa y m p = pa y r p := by unfold pa; rw [e1, e2, e3]
  have eb : pb y m p d = pb y r p d := by unfold pb; rw [ea]
  have ec : pc y m p d = pc y r p d := by unfold pc; rw [eb, h1 22 (by omega) (by omega)]
  unfold pe
  rw [ec, h1 23 (by omega) (by omega), h1 19 (by omega) (by omega)]
theorem req_cut {y : Nat → Nat → Int} {r m : Nat → Int} (h : req y r m) (hy : Yk y) (hp : Pr y r) : cut y m = cut y r := by
  obtain ⟨⟨p1, p2⟩, ⟨q1, q2⟩, -⟩ := mate_b hp hy
  have hm := req_mate h
  have h' := h
  obtain ⟨h1, h2⟩ := h
  unfold cut pq
  rw [hm, h1 18 (by omega) (by omega), (h2 (mate r).toNat (by omega)).2.2.2, req_pe h' (by omega), h1 24 (by omega) (by omega), h1 19 (by omega) (by omega)]
theorem plr_Vb {y : Nat → Nat → Int} {g : Int} {r : Nat → Int} (hy : Yk y) (hv : Vb y g r) (hp : Pr y r) (ht : ¬ thr y r) : Vb y (g + 9) (plr y r) := by
  have hc := cut_b hy hv hp ht
  obtain ⟨⟨p1, p2⟩, ⟨q1, q2⟩, hp4, hq4, hpq⟩ := mate_b hp hy
  have hn4 : y 0 1 ≤ 4 := hy.2.1.2
  have hL := hy.1
  have hres := hy.2.2.2.1
  have hlb : -9 ≤ y 3 (r 16).toNat - y 3 (r 17).toNat ∧ y 3 (r 16).toNat - y 3 (r 17).toNat ≤ 9 := by
    obtain ⟨⟨a1, a2⟩, ⟨b1, b2⟩, -⟩ := hp
    have h1 := (hy.2.2.2.2.2.2 (r 16).toNat (by omega)).2.1
    have h2 := (hy.2.2.2.2.2.2 (r 17).toNat (by omega)).2.1
    omega
  obtain ⟨v1, v2, v3, v4, v5, v6, v7⟩ := hv
  have e : ∀ j, (j = 23 ∨ j = 24 ∨ j < 4 ∨ (12 ≤ j ∧ j < 16)) → plr y r j = r j := by
    intro j hj
    unfold plr
    rw [if_neg (by omega), if_neg (by omega), if_neg (by omega), if_neg (by omega), if_neg (by omega), if_neg (by omega), if_neg (by omega), if_neg (by omega)]
  have e19 : plr y r 19 = min (r 19 + cut y r) (100 * y 0 0) := by unfold plr; rw [if_pos rfl]
  have e20 : plr y r 20 = r 20 + 1 := by unfold plr; rw [if_neg (by omega), if_neg (by omega), if_neg (by omega), if_neg (by omega), if_neg (by omega), if_neg (by omega), if_pos rfl]
  have e21 : plr y r 21 = (if 0 < cut y r then r 21 + (y 3 (r 16).toNat - y 3 (r 17).toNat) else r 21) := by unfold plr; rw [if_neg (by omega), if_neg (by omega), if_neg (by omega), if_neg (by omega), if_neg (by omega), if_pos rfl]
  have e22 : plr y r 22 = r 22 + y 0 4 := by unfold plr; rw [if_neg (by omega), if_pos rfl]
  refine ⟨by rw [e19]; omega, by rw [e20]; omega, by rw [e21]; split <;> omega, by rw [e22]; omega, by rw [e 23 (by omega)]; exact v5, by rw [e 24 (by omega)]; exact v6, fun p hp' => ?_⟩
  obtain ⟨w1, w2, w3, w4⟩ := v7 p hp'
  refine ⟨by rw [e p (by omega)]; exact w1, ?_, ?_, by rw [e (12 + p) (by omega)]; exact w4⟩
  · unfold plr
    rw [if_neg (by omega), if_neg (by omega)]
    repeat' split
    all_goals first | exact w2 | (unfold clt; omega) | (exfalso; omega)
  · unfold plr
    rw [if_neg (by omega), if_neg (by omega), if_neg (by omega), if_neg (by omega)]
    repeat' split
    all_goals first | exact w3 | (unfold fe cl9; omega) | (exfalso; omega)
theorem plr_Pr {y : Nat → Nat → Int} {r : Nat → Int} (hy : Yk y) (hp : Pr y r) : Pr y (plr y r) ∧ plr y r 16 = r 16 ∧ plr y r 17 = r 17 ∧ plr y r 18 = mate r := by
  obtain ⟨⟨p1, p2⟩, ⟨q1, q2⟩, hp4, hq4, hpq⟩ := mate_b hp hy
  have e16 : plr y r 16 = r 16 := by
    unfold plr
    rw [if_neg (by omega), if_neg (by omega), if_neg (by omega), if_neg (by omega), if_neg (by omega), if_neg (by omega), if_neg (by omega), if_neg (by omega)]
  have e17 : plr y r 17 = r 17 := by
    unfold plr
    rw [if_neg (by omega), if_neg (by omega), if_neg (by omega), if_neg (by omega), if_neg (by omega), if_neg (by omega), if_neg (by omega), if_neg (by omega)]
  have e18 : plr y r 18 = mate r := by
    unfold plr
    rw [if_neg (by omega), if_neg (by omega), if_neg (by omega), if_neg (by omega), if_neg (by omega), if_neg (by omega), if_neg (by omega), if_pos rfl]
  refine ⟨?_, e16, e17, e18⟩
  unfold Pr at hp ⊢
  rw [e16, e17, e18]
  unfold mate
  obtain ⟨a, b, c, d⟩ := hp
  refine ⟨a, b, c, ?_⟩
  split <;> omega
theorem plr_req {y : Nat → Nat → Int} {r m : Nat → Int} (hy : Yk y) (hp : Pr y r) (h : req y r m) : req y (plr y r) (plr y m) := by
  have hc := req_cut h hy hp
  have hm := req_mate h
  obtain ⟨⟨p1, p2⟩, ⟨q1, q2⟩, hp4, hq4, hpq⟩ := mate_b hp hy
  have hn4 : y 0 1 ≤ 4 := hy.2.1.2
  obtain ⟨h1, h2⟩ := h
  have g18 := h1 18 (by omega) (by omega)
  obtain ⟨a1, a2, a3, a4⟩ := h2 (r 18).toNat (by omega)
  obtain ⟨b1, b2, b3, b4⟩ := h2 (mate r).toNat (by omega)
  have key : ∀ j, m j = r j → plr y m j = plr y r j := by
    intro j hj
    unfold plr
    rw [hc, hm, g18, a2, b2, a3, b4, h1 19 (by omega) (by omega), h1 20 (by omega) (by omega), h1 21 (by omega) (by omega), h1 22 (by omega) (by omega), h1 16 (by omega) (by omega), h1 17 (by omega) (by omega), hj]
  refine ⟨fun j hj1 hj2 => key j (h1 j hj1 hj2), fun p hp' => ?_⟩
  obtain ⟨c1, c2, c3, c4⟩ := h2 p hp'
  exact ⟨key p c1, key _ c2, key _ c3, key _ c4⟩
theorem Ok.pull {y : Nat → Nat → Int} {g : Int} {r m : Nat → Int} (hy : Yk y) (h : Ok y g r m) (hp : Pr y r) (ht : ¬ thr y r) : Ok y (g + 9) (plr y r) (plr y m) := by
  obtain ⟨h1, h2, h3⟩ := h
  have hL : 0 < y 0 0 := by
    have := h1.1
    unfold thr at ht
    omega
  exact ⟨plr_Vb hy h1 hp ht, Or.inr ⟨hL, (plr_Pr hy hp).1⟩, plr_req hy hp h3⟩
theorem Ok.rest {y : Nat → Nat → Int} {g n : Int} {r m : Nat → Int} (hy : Yk y) (h : Ok y g r m) (hL : 0 < y 0 0) (hp : Pr y r) (hn : 0 ≤ n) : Ok y (g + n) (rst r n) (rst m n) := by
  obtain ⟨hv, h2, h1, h3⟩ := h
  have hn4 : y 0 1 ≤ 4 := hy.2.1.2
  obtain ⟨⟨p1, p2⟩, ⟨q1, q2⟩, hne, hx⟩ := id hp
  have e16 := h1 16 (by omega) (by omega)
  have e17 := h1 17 (by omega) (by omega)
  have key : ∀ j, m j = r j → rst m n j = rst r n j := by
    intro j hj
    unfold rst
    rw [e16, e17, h1 20 (by omega) (by omega), hj]
  have ne : ∀ j, j ≠ 20 → ¬ (4 ≤ j ∧ j < 8) → rst r n j = r j := by
    intro j a b
    unfold rst
    rw [if_neg a, if_neg (by omega)]
  obtain ⟨v1, v2, v3, v4, v5, v6, v7⟩ := hv
  refine ⟨⟨by rw [ne 19 (by omega) (by omega)]; exact v1, ?_, by rw [ne 21 (by omega) (by omega)]; omega, by rw [ne 22 (by omega) (by omega)]; omega, by rw [ne 23 (by omega) (by omega)]; exact v5, by rw [ne 24 (by omega) (by omega)]; exact v6, fun p hp' => ?_⟩, Or.inr ⟨hL, ?_⟩, fun j a b => key j (h1 j a b), fun p hp' => ?_⟩
  · unfold rst
    rw [if_pos rfl]
    omega
  · obtain ⟨w1, w2, w3, w4⟩ := v7 p hp'
    refine ⟨by rw [ne p (by omega) (by omega)]; exact w1, ?_, by rw [ne _ (by omega) (by omega)]; exact w3, by rw [ne _ (by omega) (by omega)]; exact w4⟩
    unfold rst
    rw [if_neg (by omega)]
    split
    · unfold clt; omega
    · exact w2
  · unfold Pr at hp ⊢
    rw [ne 16 (by omega) (by omega), ne 17 (by omega) (by omega), ne 18 (by omega) (by omega)]
    exact hp
  · obtain ⟨c1, c2, c3, c4⟩ := h3 p hp'
    exact ⟨key p c1, key _ c2, key _ c3, key _ c4⟩
theorem Ok.log {y : Nat → Nat → Int} {g p q : Int} {r m : Nat → Int} (hy : Yk y) (h : Ok y g r m) (hg : 0 ≤ g) (hL : 0 < y 0 0) (hp : 0 ≤ p ∧ p < y 0 1) (hq : 0 ≤ q ∧ q < y 0 1) (hne : p ≠ q) : Ok y g (nlog r p q) (nlog m p q) := by
  obtain ⟨hv, h2, h1, h3⟩ := h
  have hn4 : y 0 1 ≤ 4 := hy.2.1.2
  have key : ∀ j, m j = r j → nlog m p q j = nlog r p q j := by
    intro j hj
    unfold nlog
    rw [hj]
  obtain ⟨v1, v2, v3, v4, v5, v6, v7⟩ := hv
  refine ⟨⟨?_, ?_, ?_, ?_, ?_, ?_, fun p' hp' => ?_⟩, Or.inr ⟨hL, ?_⟩, fun j a b => key j (h1 j a b), fun p' hp' => ?_⟩
  · simp [nlog]; omega
  · simp [nlog]; omega
  · simp [nlog]; omega
  · simp [nlog]; omega
  · simp [nlog]
  · simp [nlog]; exact v6
  · obtain ⟨w1, w2, w3, w4⟩ := v7 p' hp'
    have f : ∀ j, j < 4 ∨ (12 ≤ j ∧ j < 16) → nlog r p q j = r j := by
      intro j hj
      unfold nlog
      rw [if_neg (by omega), if_neg (by omega), if_neg (by omega), if_neg (by omega), if_neg (by omega), if_neg (by omega), if_neg (by omega), if_neg (by omega), if_neg (by omega)]
    have f0 : ∀ j, 4 ≤ j ∧ j < 12 → nlog r p q j = 0 := by
      intro j hj
      unfold nlog
      rw [if_neg (by omega), if_neg (by omega), if_neg (by omega), if_neg (by omega), if_neg (by omega), if_neg (by omega), if_neg (by omega), if_neg (by omega), if_pos hj]
    rw [f p' (by omega), f0 (4 + p') (by omega), f0 (8 + p') (by omega), f (12 + p') (by omega)]
    exact ⟨w1, by omega, by omega, w4⟩
  · unfold Pr
    simp [nlog]
    omega
  · obtain ⟨c1, c2, c3, c4⟩ := h3 p' hp'
    exact ⟨key p' c1, key _ c2, key _ c3, key _ c4⟩
