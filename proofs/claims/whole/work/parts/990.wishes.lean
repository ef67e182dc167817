/-! wishes: the first of the least, by two ways to look -/
def wsp (G : Nat → Nat → Int) (S : Int × Int × Int) (v w : Nat) : Int × Int × Int := if G v w < S.1 then (G v w, (v : Int), (w : Int)) else S
def inF (G : Nat → Nat → Int) : Nat → Nat → Nat → Int × Int × Int → Int × Int × Int
  | 0, _, _, S => S
  | d + 1, v, w, S => inF G d v (w + 1) (wsp G S v w)
def ouF (G : Nat → Nat → Int) (B : Nat) : Nat → Nat → Int × Int × Int → Int × Int × Int
  | 0, _, S => S
  | d + 1, v, S => ouF G B d (v + 1) (inF G B v 1 S)
def lin (G : Nat → Nat → Int) : Nat → Nat → Int × Int × Int → Int × Int × Int
  | 0, _, S => S
  | d + 1, k, S => lin G d (k + 1) (wsp G S (1 + k / 20) (1 + k % 20))
section
variable {G : Nat → Nat → Int} {Fa Fb : Nat}
theorem wsp_le (S : Int × Int × Int) (v w : Nat) : (wsp G S v w).1 ≤ S.1 ∧ (wsp G S v w).1 ≤ G v w := by
  unfold wsp
  split
  · rename_i hc
    exact ⟨by show G v w ≤ S.1; omega, Int.le_refl _⟩
  · omega
theorem inF_le : ∀ (d v w : Nat) (S : Int × Int × Int), (inF G d v w S).1 ≤ S.1 ∧ ∀ i, i < d → (inF G d v w S).1 ≤ G v (w + i) := by
  intro d
  induction d with
  | zero => intro v w S; exact ⟨Int.le_refl _, fun i hi => by omega⟩
  | succ d ih =>
    intro v w S
    have h1 := ih v (w + 1) (wsp G S v w)
    have h2 := wsp_le (G := G) S v w
    refine ⟨by show (inF G d v (w + 1) (wsp G S v w)).1 ≤ _; omega, fun i hi => ?_⟩
    show (inF G d v (w + 1) (wsp G S v w)).1 ≤ _
    cases i with
    | zero => show _ ≤ G v w; omega
    | succ i =>
      have := h1.2 i (by omega)
      rw [show w + (i + 1) = w + 1 + i by omega]
      exact this
theorem wsp_id {S : Int × Int × Int} {v w : Nat} (h : S.1 ≤ G v w) : wsp G S v w = S := by
  unfold wsp
  rw [if_neg (by omega)]
theorem inF_id : ∀ (d v w : Nat) (S : Int × Int × Int), (∀ i, i < d → S.1 ≤ G v (w + i)) → inF G d v w S = S := by
  intro d
  induction d with
  | zero => intro v w S _; rfl
  | succ d ih =>
    intro v w S h
    show inF G d v (w + 1) (wsp G S v w) = S
    rw [wsp_id (S := S) (v := v) (w := w) (h 0 (by omega))]
    exact ih v (w + 1) S (fun i hi => by have := h (i + 1) (by omega); rw [show w + 1 + i = w + (i + 1) by omega]; exact this)
theorem inF_add : ∀ (a c v w : Nat) (S : Int × Int × Int), inF G (a + c) v w S = inF G c v (w + a) (inF G a v w S) := by
  intro a
  induction a with
  | zero => intro c v w S; rw [Nat.zero_add]; rfl
  | succ a ih =>
    intro c v w S
    rw [show a + 1 + c = (a + c) + 1 by omega]
    show inF G (a + c) v (w + 1) (wsp G S v w) = inF G c v (w + (a + 1)) (inF G a v (w + 1) (wsp G S v w))
    rw [ih, show w + 1 + a = w + (a + 1) by omega]
theorem ouF_add {B : Nat} : ∀ (a c v : Nat) (S : Int × Int × Int), ouF G B (a + c) v S = ouF G B c (v + a) (ouF G B a v S) := by
  intro a
  induction a with
  | zero => intro c v S; rw [Nat.zero_add]; rfl
  | succ a ih =>
    intro c v S
    rw [show a + 1 + c = (a + c) + 1 by omega]
    show ouF G B (a + c) (v + 1) (inF G B v 1 S) = ouF G B c (v + (a + 1)) (ouF G B a (v + 1) (inF G B v 1 S))
    rw [ih, show v + 1 + a = v + (a + 1) by omega]
theorem in20 (hb : 1 ≤ Fb ∧ Fb ≤ 20) (hG : ∀ v w, 1 ≤ v → 1 ≤ w → G v w = G (min v Fa) (min w Fb)) {v : Nat} (hv : 1 ≤ v) (S : Int × Int × Int) : inF G 20 v 1 S = inF G Fb v 1 S := by
  rw [show 20 = Fb + (20 - Fb) by omega, inF_add]
  apply inF_id
  intro i hi
  have h1 := (inF_le (G := G) Fb v 1 S).2 (Fb - 1) (by omega)
  rw [show 1 + (Fb - 1) = Fb by omega] at h1
  rw [hG v (1 + Fb + i) hv (by omega), show min (1 + Fb + i) Fb = Fb by omega]
  rw [hG v Fb hv (by omega), show min Fb Fb = Fb by omega] at h1
  exact h1
theorem lin_in : ∀ (j d v : Nat) (S : Int × Int × Int), j ≤ 20 → lin G (j + d) (20 * v + (20 - j)) S = lin G d (20 * v + 20) (inF G j (1 + v) (1 + (20 - j)) S) := by
  intro j
  induction j with
  | zero => intro d v S _; rw [Nat.zero_add]; rfl
  | succ j ih =>
    intro d v S hj
    rw [show j + 1 + d = (j + d) + 1 by omega]
    show lin G (j + d) (20 * v + (20 - (j + 1)) + 1) (wsp G S (1 + (20 * v + (20 - (j + 1))) / 20) (1 + (20 * v + (20 - (j + 1))) % 20)) = lin G d (20 * v + 20) (inF G j (1 + v) (1 + (20 - (j + 1)) + 1) (wsp G S (1 + v) (1 + (20 - (j + 1)))))
    rw [show (20 * v + (20 - (j + 1))) / 20 = v by omega, show (20 * v + (20 - (j + 1))) % 20 = 20 - (j + 1) by omega, show 20 * v + (20 - (j + 1)) + 1 = 20 * v + (20 - j) by omega, ih d v _ (by omega), show 1 + (20 - (j + 1)) + 1 = 1 + (20 - j) by omega]
theorem lin_ou (hb : 1 ≤ Fb ∧ Fb ≤ 20) (hG : ∀ v w, 1 ≤ v → 1 ≤ w → G v w = G (min v Fa) (min w Fb)) : ∀ (c v : Nat) (S : Int × Int × Int), lin G (20 * c) (20 * v) S = ouF G Fb c (1 + v) S := by
  intro c
  induction c with
  | zero => intro v S; rfl
  | succ c ih =>
    intro v S
    have h1 := lin_in (G := G) 20 (20 * c) v S (by omega)
    rw [show 20 * (c + 1) = 20 + 20 * c by omega]
    rw [show 20 * v + (20 - 20) = 20 * v by omega] at h1
    rw [h1, show 20 * v + 20 = 20 * (v + 1) by omega, ih, show 1 + (20 - 20) = 1 by omega, in20 hb hG (by omega), show 1 + (v + 1) = 1 + v + 1 by omega]
    rfl
theorem ouF_id {B : Nat} : ∀ (c v : Nat) (S : Int × Int × Int), (∀ v' w, v ≤ v' → 1 ≤ w → w ≤ B → S.1 ≤ G v' w) → ouF G B c v S = S := by
  intro c
  induction c with
  | zero => intro v S _; rfl
  | succ c ih =>
    intro v S h
    show ouF G B c (v + 1) (inF G B v 1 S) = S
    rw [inF_id B v 1 S (fun i hi => h v (1 + i) (by omega) (by omega) (by omega))]
    exact ih (v + 1) S (fun v' w a => h v' w (by omega))
theorem lin_all (ha : 1 ≤ Fa ∧ Fa ≤ 20) (hb : 1 ≤ Fb ∧ Fb ≤ 20) (hG : ∀ v w, 1 ≤ v → 1 ≤ w → G v w = G (min v Fa) (min w Fb)) (S : Int × Int × Int) : lin G 400 0 S = ouF G Fb Fa 1 S := by
  have h1 := lin_ou (G := G) hb hG 20 0 S
  rw [show 20 * 20 = 400 from rfl, show 20 * 0 = 0 from rfl, show 1 + 0 = 1 from rfl] at h1
  rw [h1, show 20 = Fa + (20 - Fa) by omega, ouF_add]
  apply ouF_id
  intro v' w hv hw1 hw2
  rw [show ouF G Fb Fa 1 S = ouF G Fb (Fa - 1 + 1) 1 S by rw [show Fa - 1 + 1 = Fa by omega], ouF_add]
  show (ouF G Fb 0 (1 + (Fa - 1) + 1) (inF G Fb (1 + (Fa - 1)) 1 (ouF G Fb (Fa - 1) 1 S))).1 ≤ _
  rw [show 1 + (Fa - 1) = Fa by omega]
  show (inF G Fb Fa 1 (ouF G Fb (Fa - 1) 1 S)).1 ≤ _
  have h2 := (inF_le (G := G) Fb Fa 1 (ouF G Fb (Fa - 1) 1 S)).2 (w - 1) (by omega)
  rw [show 1 + (w - 1) = w by omega, hG Fa w (by omega) hw1, show min Fa Fa = Fa by omega] at h2
  rw [hG v' w (by omega) hw1, show min v' Fa = Fa by omega]
  exact h2
end
/-! a wish above the force pulls like the force -/
def rqf (y : Nat → Nat → Int) (r m : Nat → Int) : Prop := (∀ j, 16 ≤ j → j < 25 → m j = r j) ∧ ∀ p : Nat, ((p : Int) = r 16 ∨ (p : Int) = r 17) → min (y 2 p) (m p) = min (y 2 p) (r p) ∧ m (4 + p) = r (4 + p) ∧ m (8 + p) = r (8 + p) ∧ m (12 + p) = r (12 + p)
section
variable {y : Nat → Nat → Int} {r m : Nat → Int}
theorem rqf_pe (h : rqf y r m) {p : Nat} (hp : (p : Int) = r 16 ∨ (p : Int) = r 17) (d : Int) : pe y m p d = pe y r p d := by
  obtain ⟨h1, h2⟩ := h
  obtain ⟨e1, e2, e3, e4⟩ := h2 p hp
  have ea : pa y m p = pa y r p := by unfold pa; rw [e1, e2, e3]
  have eb : pb y m p d = pb y r p d := by unfold pb; rw [ea]
  have ec : pc y m p d = pc y r p d := by unfold pc; rw [eb, h1 22 (by omega) (by omega)]
  unfold pe
  rw [ec, h1 23 (by omega) (by omega), h1 19 (by omega) (by omega)]
theorem rqf_mate (h : rqf y r m) : mate m = mate r := by
  obtain ⟨h1, -⟩ := h
  unfold mate
  rw [h1 16 (by omega) (by omega), h1 17 (by omega) (by omega), h1 18 (by omega) (by omega)]
theorem rqf_cut (h : rqf y r m) (hp : Pr y r) : cut y m = cut y r := by
  obtain ⟨b1, b2⟩ := pair_p hp
  have hm := rqf_mate h
  have h' := h
  obtain ⟨h1, h2⟩ := h
  unfold cut pq
  rw [hm, h1 18 (by omega) (by omega), (h2 (mate r).toNat b2).2.2.2, rqf_pe h' b1, h1 24 (by omega) (by omega), h1 19 (by omega) (by omega)]
theorem plr_rqf (hy : Yk y) (hp : Pr y r) (h : rqf y r m) : rqf y (plr y r) (plr y m) := by
  have hc := rqf_cut (y := y) h hp
  have hm := rqf_mate h
  have hpm : Pr y m := by
    obtain ⟨h1, -⟩ := h
    unfold Pr at hp ⊢
    rw [h1 16 (by omega) (by omega), h1 17 (by omega) (by omega), h1 18 (by omega) (by omega)]
    exact hp
  obtain ⟨q1, q2⟩ := pair_p hp
  obtain ⟨h1, h2⟩ := h
  have g18 := h1 18 (by omega) (by omega)
  obtain ⟨a1, a2, a3, a4⟩ := h2 (r 18).toNat q1
  obtain ⟨b1, b2, b3, b4⟩ := h2 (mate r).toNat q2
  have key : ∀ j, m j = r j → plr y m j = plr y r j := by
    intro j hj
    unfold plr
    rw [hc, hm, g18, a2, b2, a3, b4, h1 19 (by omega) (by omega), h1 20 (by omega) (by omega), h1 21 (by omega) (by omega), h1 22 (by omega) (by omega), h1 16 (by omega) (by omega), h1 17 (by omega) (by omega), hj]
  obtain ⟨-, e16, e17, -⟩ := plr_Pr hy hp
  have er := (plr_at hy hp).2.2.1
  have em := (plr_at hy hpm).2.2.1
  refine ⟨fun j hj1 hj2 => key j (h1 j hj1 hj2), fun p hp' => ?_⟩
  rw [e16, e17] at hp'
  obtain ⟨p4, -⟩ := pair_of hy hp hp'
  obtain ⟨c1, c2, c3, c4⟩ := h2 p hp'
  exact ⟨by rw [er p (by omega), em p (by omega)]; exact c1, key _ c2, key _ c3, key _ c4⟩
theorem gon_rqf (hy : Yk y) : ∀ (d n : Nat) (r m : Nat → Int), Pr y r → rqf y r m → gon y d m n = gon y d r n := by
  intro d
  induction d with
  | zero =>
    intro n r m hp h
    unfold gon
    have e : thr y m ↔ thr y r := by unfold thr; rw [h.1 19 (by omega) (by omega)]
    by_cases ht : thr y r
    · rw [if_pos ht, if_pos (e.mpr ht)]
    · rw [if_neg ht, if_neg (fun q => ht (e.mp q))]
  | succ d ih =>
    intro n r m hp h
    unfold gon
    have e : thr y m ↔ thr y r := by unfold thr; rw [h.1 19 (by omega) (by omega)]
    by_cases ht : thr y r
    · rw [if_pos ht, if_pos (e.mpr ht)]
    · rw [if_neg ht, if_neg (fun q => ht (e.mp q)), ih (n + 1) _ _ (plr_Pr hy hp).1 (plr_rqf hy hp h)]
theorem gon_s {d n : Nat} (ht : ¬ thr y r) : gon y (d + 1) r n = gon y d (plr y r) (n + 1) := by
  show (if thr y r then some n else gon y d (plr y r) (n + 1)) = _
  rw [if_neg ht]
/-- with fewer strokes to go -/
theorem gon_cut : ∀ (d D n : Nat) (r : Nat → Int), d ≤ D → gon y d r n = (match gon y D r n with | some v => if v ≤ n + d then some v else none | none => none) := by
  intro d
  induction d with
  | zero =>
    intro D n r hD
    by_cases ht : thr y r
    · have e1 : gon y 0 r n = some n := by unfold gon; rw [if_pos ht]
      have e2 : gon y D r n = some n := by cases D <;> (unfold gon; rw [if_pos ht])
      rw [e1, e2]
      show some n = if n ≤ n + 0 then some n else none
      rw [if_pos (by omega)]
    · have e1 : gon y 0 r n = none := by unfold gon; rw [if_neg ht]
      rw [e1]
      cases D with
      | zero => rw [e1]
      | succ D =>
        have e2 : gon y (D + 1) r n = gon y D (plr y r) (n + 1) := gon_s ht
        rw [e2]
        cases ho : gon y D (plr y r) (n + 1) with
        | none => rfl
        | some v =>
          have := gon_b _ _ _ _ ho
          show none = if v ≤ n + 0 then some v else none
          rw [if_neg (by omega)]
  | succ d ih =>
    intro D n r hD
    obtain ⟨D', rfl⟩ : ∃ D', D = D' + 1 := ⟨D - 1, by omega⟩
    by_cases ht : thr y r
    · have e1 : gon y (d + 1) r n = some n := by unfold gon; rw [if_pos ht]
      have e2 : gon y (D' + 1) r n = some n := by unfold gon; rw [if_pos ht]
      rw [e1, e2]
      show some n = if n ≤ n + (d + 1) then some n else none
      rw [if_pos (by omega)]
    · have e1 : gon y (d + 1) r n = gon y d (plr y r) (n + 1) := gon_s ht
      have e2 : gon y (D' + 1) r n = gon y D' (plr y r) (n + 1) := gon_s ht
      rw [e1, e2, ih D' (n + 1) _ (by omega)]
      cases ho : gon y D' (plr y r) (n + 1) with
      | none => rfl
      | some v =>
        show (if v ≤ n + 1 + d then some v else none) = if v ≤ n + (d + 1) then some v else none
        rw [show n + 1 + d = n + (d + 1) by omega]
theorem gon_lt {L : Nat} (h1 : 1 ≤ L) (h2 : L ≤ 1000) (r : Nat → Int) : (nv (gon y (L - 1) r 0) < L ↔ nv (gon y 999 r 0) < L) ∧ (nv (gon y 999 r 0) < L → nv (gon y (L - 1) r 0) = nv (gon y 999 r 0)) ∧ 0 ≤ nv (gon y (L - 1) r 0) ∧ nv (gon y (L - 1) r 0) ≤ 1000 := by
  rw [gon_cut (L - 1) 999 0 r (by omega)]
  cases ho : gon y 999 r 0 with
  | none =>
    show (((1000 : Int) < L ↔ (1000 : Int) < L) ∧ ((1000 : Int) < L → (1000 : Int) = 1000) ∧ (0 : Int) ≤ 1000 ∧ (1000 : Int) ≤ 1000)
    omega
  | some v =>
    have hv := gon_b _ _ _ _ ho
    show (nv (if v ≤ 0 + (L - 1) then some v else none) < L ↔ (v : Int) < L) ∧ ((v : Int) < L → nv (if v ≤ 0 + (L - 1) then some v else none) = v) ∧ 0 ≤ nv (if v ≤ 0 + (L - 1) then some v else none) ∧ nv (if v ≤ 0 + (L - 1) then some v else none) ≤ 1000
    by_cases c : v ≤ 0 + (L - 1)
    · rw [if_pos c]
      show ((v : Int) < L ↔ (v : Int) < L) ∧ ((v : Int) < L → (v : Int) = v) ∧ 0 ≤ (v : Int) ∧ (v : Int) ≤ 1000
      omega
    · rw [if_neg c]
      show ((1000 : Int) < L ↔ (v : Int) < L) ∧ ((v : Int) < L → (1000 : Int) = v) ∧ (0 : Int) ≤ 1000 ∧ (1000 : Int) ≤ 1000
      omega
theorem gon_pos {r : Nat → Int} (ht : ¬ thr y r) : 1 ≤ nv (gon y 999 r 0) := by
  have e2 : gon y (998 + 1) r 0 = gon y 998 (plr y r) 1 := gon_s ht
  show 1 ≤ nv (gon y (998 + 1) r 0)
  rw [e2]
  cases ho : gon y 998 (plr y r) 1 with
  | none => decide
  | some v => have := gon_b _ _ _ _ ho; show 1 ≤ (v : Int); omega
end
