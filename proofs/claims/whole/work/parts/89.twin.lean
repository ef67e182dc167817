/-! rows that are tried: alike for the pair -/
def rq (r m : Nat → Int) : Prop := (∀ j, 16 ≤ j → j < 25 → m j = r j) ∧ ∀ p : Nat, ((p : Int) = r 16 ∨ (p : Int) = r 17) → m p = r p ∧ m (4 + p) = r (4 + p) ∧ m (8 + p) = r (8 + p) ∧ m (12 + p) = r (12 + p)
def Tw (y : Nat → Nat → Int) (g : Int) (r m : Nat → Int) : Prop := Vb y g r ∧ Vb y g m ∧ Pr y r ∧ rq r m
theorem rq_Pr {y : Nat → Nat → Int} {r m : Nat → Int} (h : rq r m) (hp : Pr y r) : Pr y m := by
  obtain ⟨h1, -⟩ := h
  unfold Pr at hp ⊢
  rw [h1 16 (by omega) (by omega), h1 17 (by omega) (by omega), h1 18 (by omega) (by omega)]
  exact hp
theorem Tw_thr {y : Nat → Nat → Int} {g : Int} {r m : Nat → Int} (h : Tw y g r m) : thr y m ↔ thr y r := by
  obtain ⟨-, -, -, h1, -⟩ := h
  unfold thr
  rw [h1 19 (by omega) (by omega)]
theorem rq_mate {r m : Nat → Int} (h : rq r m) : mate m = mate r := by
  obtain ⟨h1, -⟩ := h
  unfold mate
  rw [h1 16 (by omega) (by omega), h1 17 (by omega) (by omega), h1 18 (by omega) (by omega)]
theorem pair_p {y : Nat → Nat → Int} {r : Nat → Int} (hp : Pr y r) : ((((r 18).toNat : Nat) : Int) = r 16 ∨ (((r 18).toNat : Nat) : Int) = r 17) ∧ ((((mate r).toNat : Nat) : Int) = r 16 ∨ (((mate r).toNat : Nat) : Int) = r 17) := by
  obtain ⟨⟨p1, p2⟩, ⟨q1, q2⟩, hne, hx⟩ := hp
  unfold mate
  split <;> omega
theorem rq_pe {y : Nat → Nat → Int} {r m : Nat → Int} (h : rq r m) {p : Nat} (hp : (p : Int) = r 16 ∨ (p : Int) = r 17) (d : Int) : pe y m p d = pe y r p d := by
  obtain ⟨h1, h2⟩ := h
  obtain ⟨e1, e2, e3, e4⟩ := h2 p hp
  have ea : pa y m p = pa y r p := by unfold pa; rw [e1, e2, e3]
  have eb : pb y m p d = pb y r p d := by unfold pb; rw [ea]
  have ec : pc y m p d = pc y r p d := by unfold pc; rw [eb, h1 22 (by omega) (by omega)]
  unfold pe
  rw [ec, h1 23 (by omega) (by omega), h1 19 (by omega) (by omega)]
theorem rq_cut {y : Nat → Nat → Int} {r m : Nat → Int} (h : rq r m) (hp : Pr y r) : cut y m = cut y r := by
  obtain ⟨b1, b2⟩ := pair_p hp
  have hm := rq_mate h
  have h' := h
  obtain ⟨h1, h2⟩ := h
  unfold cut pq
  rw [hm, h1 18 (by omega) (by omega), (h2 (mate r).toNat b2).2.2.2, rq_pe h' b1, h1 24 (by omega) (by omega), h1 19 (by omega) (by omega)]
theorem plr_rq {y : Nat → Nat → Int} {r m : Nat → Int} (hy : Yk y) (hp : Pr y r) (h : rq r m) : rq (plr y r) (plr y m) := by
  have hc := rq_cut (y := y) h hp
  have hm := rq_mate h
  obtain ⟨q1, q2⟩ := pair_p hp
  obtain ⟨h1, h2⟩ := h
  have g18 := h1 18 (by omega) (by omega)
  obtain ⟨a1, a2, a3, a4⟩ := h2 (r 18).toNat q1
  obtain ⟨b1, b2, b3, b4⟩ := h2 (mate r).toNat q2
  have key : ∀ j, m j = r j → plr y m j = plr y r j := by
    intro j hj
    unfold plr
    rw [hc, hm, g18, a2, b2, a3, b4, h1 19 (by omega) (by omega), h1 20 (by omega) (by omega), h1 21 (by omega) (by omega), h1 22 (by omega) (by omega), h1 16 (by omega) (by omega), h1 17 (by omega) (by omega), hj]
  obtain ⟨-, e16, e17, -⟩ := plr_Pr hy hp
  refine ⟨fun j hj1 hj2 => key j (h1 j hj1 hj2), fun p hp' => ?_⟩
  rw [e16, e17] at hp'
  obtain ⟨c1, c2, c3, c4⟩ := h2 p hp'
  exact ⟨key p c1, key _ c2, key _ c3, key _ c4⟩
theorem Tw.pull {y : Nat → Nat → Int} {g : Int} {r m : Nat → Int} (hy : Yk y) (h : Tw y g r m) (ht : ¬ thr y r) : Tw y (g + 9) (plr y r) (plr y m) := by
  have ht' := Tw_thr h
  obtain ⟨h1, h2, h3, h4⟩ := h
  exact ⟨plr_Vb hy h1 h3 ht, plr_Vb hy h2 (rq_Pr h4 h3) (fun q => ht (ht'.mp q)), (plr_Pr hy h3).1, plr_rq hy h3 h4⟩
theorem Tw_cut {y : Nat → Nat → Int} {g : Int} {r m : Nat → Int} (h : Tw y g r m) : cut y m = cut y r := rq_cut h.2.2.2 h.2.2.1
theorem Tw_up {y : Nat → Nat → Int} {g g' : Int} {r m : Nat → Int} (h : Tw y g r m) (hg : g ≤ g') : Tw y g' r m := ⟨h.1.up hg, h.2.1.up hg, h.2.2⟩
theorem Tw_ok {y : Nat → Nat → Int} {g : Int} {r m : Nat → Int} (h : Ok y g r m) (hp : Pr y r) : Tw y g r m := by
  refine ⟨h.1, req_Vb h.2.2 h.1, hp, h.2.2.1, fun p q => ?_⟩
  obtain ⟨⟨p1, p2⟩, ⟨q1, q2⟩, -⟩ := hp
  exact h.2.2.2 p (by omega)
/-- strokes till it is through, of so many at most -/
def gon (y : Nat → Nat → Int) : Nat → (Nat → Int) → Nat → Option Nat
  | 0, r, n => if thr y r then some n else none
  | d + 1, r, n => if thr y r then some n else gon y d (plr y r) (n + 1)
theorem gon_tw {y : Nat → Nat → Int} (hy : Yk y) : ∀ (d n : Nat) (g : Int) (r m : Nat → Int), Tw y g r m → gon y d m n = gon y d r n := by
  intro d
  induction d with
  | zero =>
    intro n g r m h
    unfold gon
    by_cases ht : thr y r
    · rw [if_pos ht, if_pos ((Tw_thr h).mpr ht)]
    · rw [if_neg ht, if_neg (fun q => ht ((Tw_thr h).mp q))]
  | succ d ih =>
    intro n g r m h
    unfold gon
    by_cases ht : thr y r
    · rw [if_pos ht, if_pos ((Tw_thr h).mpr ht)]
    · rw [if_neg ht, if_neg (fun q => ht ((Tw_thr h).mp q)), ih (n + 1) (g + 9) _ _ (h.pull hy ht)]
theorem gon_b {y : Nat → Nat → Int} : ∀ (d n : Nat) (r : Nat → Int) (v : Nat), gon y d r n = some v → n ≤ v ∧ v ≤ n + d := by
  intro d
  induction d with
  | zero =>
    intro n r v h
    unfold gon at h
    split at h
    · simp at h; omega
    · cases h
  | succ d ih =>
    intro n r v h
    unfold gon at h
    split at h
    · simp at h; omega
    · have := ih _ _ _ h; omega
/-! one that is never fresher again -/
def wor (A B : Nat → Int) : Prop := (B 16 = A 16 ∧ B 17 = A 17 ∧ B 18 = A 18 ∧ B 19 = A 19 ∧ A 22 ≤ B 22 ∧ B 23 = A 23 ∧ B 24 = A 24) ∧ ∀ p : Nat, ((p : Int) = A 16 ∨ (p : Int) = A 17) → B p = A p ∧ A (4 + p) ≤ B (4 + p) ∧ B (8 + p) = A (8 + p) ∧ B (12 + p) = A (12 + p)
theorem wor_mate {A B : Nat → Int} (h : wor A B) : mate B = mate A := by
  obtain ⟨⟨h1, h2, h3, -⟩, -⟩ := h
  unfold mate
  rw [h1, h2, h3]
theorem wor_pe {y : Nat → Nat → Int} {A B : Nat → Int} (h : wor A B) {p : Nat} (hp : (p : Int) = A 16 ∨ (p : Int) = A 17) (d : Int) : pe y B p d ≤ pe y A p d := by
  obtain ⟨⟨-, -, -, h19, h22, h23, -⟩, h2⟩ := h
  obtain ⟨e1, e2, e3, e4⟩ := h2 p hp
  have ea : pa y B p ≤ pa y A p := by unfold pa; rw [e1, e3]; omega
  have eb : pb y B p d ≤ pb y A p d := by
    unfold pb
    repeat' split
    all_goals omega
  have ec : pc y B p d ≤ pc y A p d := by unfold pc; omega
  unfold pe td
  rw [h23, h19]
  generalize pc y B p d = u at ec
  generalize pc y A p d = v at ec
  repeat' split
  all_goals omega
theorem wor_cut {y : Nat → Nat → Int} {g : Int} {A B : Nat → Int} (hy : Yk y) (h : wor A B) (hp : Pr y A) (hv : Vb y g A) (ht : ¬ thr y A) : cut y B ≤ cut y A := by
  obtain ⟨b1, b2⟩ := pair_p hp
  have hm := wor_mate h
  have h' := h
  obtain ⟨⟨h16, h17, h18, h19, h22, h23, h24⟩, h2⟩ := h
  have hpe := wor_pe (y := y) h' b1 (A (12 + (mate A).toNat))
  unfold cut pq
  rw [hm, h18, (h2 (mate A).toNat b2).2.2.2, h24, h19]
  obtain ⟨⟨d1, d2⟩, -, -, -, -, ⟨t1, t2⟩, -⟩ := hv
  unfold thr at ht
  obtain ⟨w1, w2⟩ := hy.2.2.2.2.2.1 (A 19 / 100).toNat (by omega)
  exact Int.ediv_le_ediv (by omega) (Int.mul_le_mul_of_nonneg_right hpe (by omega))
theorem plr_at {y : Nat → Nat → Int} {r : Nat → Int} (hy : Yk y) (hp : Pr y r) : plr y r 19 = min (r 19 + cut y r) (100 * y 0 0) ∧ plr y r 22 = r 22 + y 0 4 ∧ (∀ j, (j = 23 ∨ j = 24 ∨ j < 4 ∨ (12 ≤ j ∧ j < 16)) → plr y r j = r j) ∧ plr y r (4 + (r 18).toNat) = clt (clt (r (4 + (r 18).toNat) + 2 * bk y (r (12 + (mate r).toNat))) + y 4 (r 18).toNat) ∧ plr y r (4 + (mate r).toNat) = clt (clt (r (4 + (mate r).toNat) + 2 * bk y (r (12 + (mate r).toNat))) - 1) ∧ plr y r (8 + (r 18).toNat) = fe (r (8 + (r 18).toNat)) (r (12 + (mate r).toNat)) (y 6 (r 18).toNat) ∧ plr y r (8 + (mate r).toNat) = r (8 + (mate r).toNat) := by
  obtain ⟨⟨p1, p2⟩, ⟨q1, q2⟩, hp4, hq4, hpq⟩ := mate_b hp hy
  refine ⟨by unfold plr; rw [if_pos rfl], by unfold plr; rw [if_neg (by omega), if_pos rfl], fun j hj => ?_, ?_, ?_, ?_, ?_⟩
  · unfold plr
    rw [if_neg (by omega), if_neg (by omega), if_neg (by omega), if_neg (by omega), if_neg (by omega), if_neg (by omega), if_neg (by omega), if_neg (by omega)]
  · unfold plr
    rw [if_neg (by omega), if_neg (by omega), if_pos rfl]
  · unfold plr
    rw [if_neg (by omega), if_neg (by omega), if_neg (by omega), if_pos rfl]
  · unfold plr
    rw [if_neg (by omega), if_neg (by omega), if_neg (by omega), if_neg (by omega), if_pos rfl]
  · unfold plr
    rw [if_neg (by omega), if_neg (by omega), if_neg (by omega), if_neg (by omega), if_neg (by omega), if_neg (by omega), if_neg (by omega), if_neg (by omega)]
theorem pair_of {y : Nat → Nat → Int} {r : Nat → Int} (hy : Yk y) (hp : Pr y r) {p : Nat} (h : (p : Int) = r 16 ∨ (p : Int) = r 17) : p < 4 ∧ (p = (r 18).toNat ∨ p = (mate r).toNat) := by
  have hn := hy.2.1.2
  obtain ⟨⟨p1, p2⟩, ⟨q1, q2⟩, hne, hx⟩ := hp
  unfold mate
  split <;> omega
theorem wor_plr {y : Nat → Nat → Int} {A B : Nat → Int} (hy : Yk y) (h : wor A B) (hp : Pr y A) (hcA : cut y A = 0) (hcB : cut y B = 0) : wor (plr y A) (plr y B) := by
  have hm := wor_mate h
  obtain ⟨⟨h16, h17, h18, h19, h22, h23, h24⟩, h2⟩ := h
  have hpB : Pr y B := by unfold Pr at hp ⊢; rw [h16, h17, h18]; exact hp
  obtain ⟨a19, a22, aj, at1, at2, aa1, aa2⟩ := plr_at hy hp
  obtain ⟨b19, b22, bj, bt1, bt2, ba1, ba2⟩ := plr_at hy hpB
  obtain ⟨-, a16, a17, a18⟩ := plr_Pr hy hp
  obtain ⟨-, b16, b17, b18⟩ := plr_Pr hy hpB
  rw [hm] at bt1 bt2 ba1 ba2
  rw [h18] at bt1 ba1
  obtain ⟨q1, q2⟩ := pair_p hp
  obtain ⟨c1, c2, c3, c4⟩ := h2 _ q1
  obtain ⟨d1, d2, d3, d4⟩ := h2 _ q2
  refine ⟨⟨by rw [a16, b16, h16], by rw [a17, b17, h17], by rw [a18, b18, hm], by rw [a19, b19, hcA, hcB, h19], by rw [a22, b22]; omega, by rw [aj 23 (by omega), bj 23 (by omega), h23], by rw [aj 24 (by omega), bj 24 (by omega), h24]⟩, fun p hpp => ?_⟩
  rw [a16, a17] at hpp
  obtain ⟨p4, e⟩ := pair_of hy hp hpp
  obtain ⟨u1, u2, u3, u4⟩ := h2 p hpp
  refine ⟨by rw [aj p (by omega), bj p (by omega), u1], ?_, ?_, by rw [aj (12 + p) (by omega), bj (12 + p) (by omega), u4]⟩
  · rcases e with e | e
    · rw [e, at1, bt1, d4]
      unfold clt
      omega
    · rw [e, at2, bt2, d4]
      unfold clt
      omega
  · rcases e with e | e
    · rw [e, aa1, ba1, c3, d4]
    · rw [e, aa2, ba2, d3]
theorem stall {y : Nat → Nat → Int} (hy : Yk y) : ∀ (d n : Nat) (g : Int) (A : Nat → Int), Vb y g A → Pr y A → ¬ thr y A → cut y A = 0 → cut y (plr y A) = 0 → wor A (plr y (plr y A)) → gon y d (plr y (plr y A)) n = none := by
  intro d
  induction d with
  | zero =>
    intro n g A hv hp ht h1 h2 h3
    unfold gon
    rw [if_neg]
    unfold thr at ht ⊢
    rw [h3.1.2.2.2.1]
    exact ht
  | succ d ih =>
    intro n g A hv hp ht h1 h2 h3
    have e19 := h3.1.2.2.2.1
    have ht3 : ¬ thr y (plr y (plr y A)) := by
      unfold thr at ht ⊢
      rw [e19]
      exact ht
    have hb := hv.1
    have ht2 : ¬ thr y (plr y A) := by
      have := (plr_at hy hp).1
      unfold thr at ht ⊢
      rw [this, h1]
      omega
    have hv2 := plr_Vb hy hv hp ht
    have hp2 := (plr_Pr hy hp).1
    have hv3 := plr_Vb hy hv2 hp2 ht2
    have hp3 := (plr_Pr hy hp2).1
    have hc3 : cut y (plr y (plr y A)) = 0 := by
      have q1 := wor_cut hy h3 hp hv ht
      have q2 := cut_b hy hv3 hp3 ht3
      omega
    unfold gon
    rw [if_neg ht3]
    exact ih (n + 1) (g + 9) (plr y A) hv2 hp2 ht2 h2 hc3 (wor_plr hy h3 hp h1 hc3)
