/-! the text, read by the class: a clause, all clauses -/
/-- a yard that may be -/
def YK (y : yS) : Prop := Yk y ∧ (1 ≤ y 0 2 ∧ y 0 2 ≤ 9) ∧ ((y 0 6 = 0 ∨ y 0 6 = 1) ∧ (y 0 7 = 0 ∨ y 0 7 = 1)) ∧ ∀ p : Nat, (p : Int) < y 0 1 → 0 ≤ y 5 p ∧ y 5 p ≤ 9
section
variable {t : Nat → Int} {n : Nat} {S : rS} {y : yS}
theorem YK_l {i : Nat} {v : Int} (h : YK y) (h0 : y 0 0 = i) (hi : i < 12) (hv : 1 ≤ v ∧ v ≤ 9) : YK (up (up y 1 i v) 0 0 ((i + 1 : Nat) : Int)) := by
  obtain ⟨⟨a1, a2, a3, a4, a5, a6, a7⟩, b1, b2, b3⟩ := h
  refine ⟨⟨?_, ?_, ?_, ?_, ?_, fun j hj => ?_, fun p hp => ?_⟩, ?_, ?_, fun p hp => ?_⟩
  · rw [up_s]; omega
  · simp [up]; exact a2
  · simp [up]; exact a3
  · simp [up]; exact a4
  · simp [up]; exact a5
  · rw [up_s] at hj
    by_cases w : j = i
    · subst w
      simp [up]; exact hv
    · simp [up, w]
      exact a6 j (by omega)
  · rw [up_o (by omega), up_o (by omega)] at hp
    simp [up]
    exact a7 p hp
  · simp [up]; exact b1
  · simp [up]; exact b2
  · rw [up_o (by omega), up_o (by omega)] at hp
    simp [up]
    exact b3 p hp
theorem YK_n {k : Nat} {v : Int} (h : YK y) (hk : (k = 2 ∧ 1 ≤ v ∧ v ≤ 9) ∨ (k = 3 ∧ 0 ≤ v ∧ v ≤ 9) ∨ (k = 4 ∧ 0 ≤ v ∧ v ≤ 9) ∨ (k = 5 ∧ 0 ≤ v ∧ v ≤ 12) ∨ (k = 6 ∧ v = 1) ∨ (k = 7 ∧ v = 1)) : YK (up y 0 k v) := by
  obtain ⟨⟨a1, a2, a3, a4, a5, a6, a7⟩, b1, b2, b3⟩ := h
  have e0 : up y 0 k v 0 0 = y 0 0 := up_o (by omega)
  have e1 : up y 0 k v 0 1 = y 0 1 := up_o (by omega)
  have ec : ∀ c j, c ≠ 0 → up y 0 k v c j = y c j := fun c j q => up_o (by omega)
  refine ⟨⟨by rw [e0]; exact a1, by rw [e1]; exact a2, ?_, ?_, ?_, fun j hj => ?_, fun p hp => ?_⟩, ?_, ⟨?_, ?_⟩, fun p hp => ?_⟩
  · unfold up; split <;> omega
  · unfold up; split <;> omega
  · unfold up; split <;> omega
  · rw [ec 1 _ (by omega)]; exact a6 j (by rw [← e0]; exact hj)
  · rw [ec 2 _ (by omega), ec 3 _ (by omega), ec 4 _ (by omega), ec 6 _ (by omega)]; exact a7 p (by rw [← e1]; exact hp)
  · unfold up; split <;> omega
  · unfold up; split <;> omega
  · unfold up; split <;> omega
  · rw [ec 5 _ (by omega)]; exact b3 p (by rw [← e1]; exact hp)
theorem YK_p {p : Nat} {v1 v2 v3 v4 v5 : Int} (h : YK y) (h0 : y 0 1 = p) (hp4 : p < 4) (q1 : 1 ≤ v1 ∧ v1 ≤ 20) (q2 : 0 ≤ v2 ∧ v2 ≤ 9) (q3 : 0 ≤ v3 ∧ v3 ≤ 5) (q4 : 0 ≤ v4 ∧ v4 ≤ 9) (q5 : 0 ≤ v5 ∧ v5 ≤ 2) : YK (up (up (up (up (up (up y 2 p v1) 3 p v2) 4 p v3) 5 p v4) 6 p v5) 0 1 (y 0 1 + 1)) := by
  obtain ⟨⟨a1, a2, a3, a4, a5, a6, a7⟩, b1, b2, b3⟩ := h
  refine ⟨⟨?_, ?_, ?_, ?_, ?_, fun j hj => ?_, fun q hq => ?_⟩, ?_, ?_, fun q hq => ?_⟩
  · simp [up]; exact a1
  · rw [up_s]; omega
  · simp [up]; exact a3
  · simp [up]; exact a4
  · simp [up]; exact a5
  · simp [up] at hj ⊢
    exact a6 j hj
  · rw [up_s] at hq
    by_cases w : q = p
    · subst w
      simp [up]
      omega
    · simp [up, w]
      exact a7 q (by omega)
  · simp [up]; exact b1
  · simp [up]; exact b2
  · rw [up_s] at hq
    by_cases w : q = p
    · subst w
      simp [up]
      exact q4
    · simp [up, w]
      exact b3 q (by omega)
theorem cL_f (hn : n ≤ 250) : ∀ (d i : Nat) (S : rS) (y : yS), fok n S → fok n (cL t n d i S y).1 ∧ S.1 ≤ (cL t n d i S y).1.1 ∧ (S.2.1 ≠ 0 → (cL t n d i S y).1.2 = S.2) := by
  intro d
  induction d with
  | zero => intro i S y h; exact ⟨(fin_f hn h).1, (fin_f hn h).2, fin_k⟩
  | succ d ih =>
    intro i S y h
    have k1 := num_f (t := t) (lo := 1) (hi := 9) hn h
    have hs := sk_b (t := t) k1.1.1
    have k2 : fok n (sk t n (num t n 1 9 S).1, (num t n 1 9 S).2) := ⟨hs.2, k1.1.2⟩
    unfold cL
    by_cases q : i + 1 = 12 ∨ mkk t n (sk t n (num t n 1 9 S).1) ≠ 44
    · rw [if_pos q]
      have k3 := fin_f (t := t) hn k2
      refine ⟨k3.1, ?_, fun a => ?_⟩
      · have k4 := k3.2
        show S.1 ≤ (fin t n (sk t n (num t n 1 9 S).1, (num t n 1 9 S).2)).1
        have : sk t n (num t n 1 9 S).1 ≤ (fin t n (sk t n (num t n 1 9 S).1, (num t n 1 9 S).2)).1 := k4
        omega
      · show (fin t n (sk t n (num t n 1 9 S).1, (num t n 1 9 S).2)).2 = S.2
        rw [fin_k (S := (sk t n (num t n 1 9 S).1, (num t n 1 9 S).2)) (by rw [num_k a]; exact a)]
        exact num_k a
    · rw [if_neg q]
      have hlt := mkk_i (t := t) (n := n) (p := sk t n (num t n 1 9 S).1) (by intro e; rw [e] at q; exact q (Or.inr (by decide)))
      obtain ⟨i1, i2, i3⟩ := ih (i + 1) (sk t n (num t n 1 9 S).1 + 1, (num t n 1 9 S).2) (up (up y 1 i (nV t n S.1)) 0 0 ((i + 1 : Nat) : Int)) ⟨hlt, k1.1.2⟩
      refine ⟨i1, ?_, fun a => ?_⟩
      · have : sk t n (num t n 1 9 S).1 + 1 ≤ (cL t n d (i + 1) (sk t n (num t n 1 9 S).1 + 1, (num t n 1 9 S).2) (up (up y 1 i (nV t n S.1)) 0 0 ((i + 1 : Nat) : Int))).1.1 := i2
        omega
      · rw [i3 (by show (num t n 1 9 S).2.1 ≠ 0; rw [num_k a]; exact a)]
        exact num_k a
theorem cL_Y (hn : n ≤ 250) : ∀ (d i : Nat) (S : rS) (y : yS), i + d = 12 → fok n S → YK y → y 0 0 = i → (cL t n d i S y).1.2.1 = 0 → YK (cL t n d i S y).2 := by
  intro d
  induction d with
  | zero => intro i S y he h hY h0 hk; exact hY
  | succ d ih =>
    intro i S y he h hY h0 hk
    have k1 := num_f (t := t) (lo := 1) (hi := 9) hn h
    have hs := sk_b (t := t) k1.1.1
    unfold cL at hk ⊢
    by_cases q : i + 1 = 12 ∨ mkk t n (sk t n (num t n 1 9 S).1) ≠ 44
    · rw [if_pos q] at hk ⊢
      have := num_0 (fin_0 (t := t) (S := (sk t n (num t n 1 9 S).1, (num t n 1 9 S).2)) hk).1
      exact YK_l hY h0 (by omega) ⟨this.2.2.1, this.2.2.2⟩
    · rw [if_neg q] at hk ⊢
      have hlt := mkk_i (t := t) (n := n) (p := sk t n (num t n 1 9 S).1) (by intro e; rw [e] at q; exact q (Or.inr (by decide)))
      have hf : fok n (sk t n (num t n 1 9 S).1 + 1, (num t n 1 9 S).2) := ⟨hlt, k1.1.2⟩
      have h10 : (num t n 1 9 S).2.1 = 0 := Classical.byContradiction fun a => by
        rw [(cL_f hn d (i + 1) (sk t n (num t n 1 9 S).1 + 1, (num t n 1 9 S).2) _ hf).2.2 a] at hk
        exact a hk
      have := num_0 h10
      exact ih (i + 1) _ _ (by omega) hf (YK_l hY h0 (by omega) ⟨this.2.2.1, this.2.2.2⟩) up_s hk
theorem fow_k (y : yS) (c : Int) : (fow y c = 0 ∨ fow y c = 1 ∨ fow y c = 3) ∧ (fow y c = 0 → (c = 108 ∧ y 0 0 ≤ 0) ∨ (c = 112 ∧ y 0 1 < 4) ∨ (c = 115 ∧ y 0 6 ≠ 1) ∨ (c = 99 ∧ y 0 7 ≠ 1)) := by
  unfold fow
  repeat' split
  all_goals omega
theorem cl_f (hn : n ≤ 250) (h : fok n S) : fok n (cl t n S y).1 ∧ S.1 ≤ (cl t n S y).1.1 ∧ ((cl t n S y).1.2.1 = 0 → S.1 < (cl t n S y).1.1) := by
  obtain ⟨w1, w2⟩ := fow_k y (mkk t n S.1)
  unfold cl
  by_cases q : fow y (mkk t n S.1) = 0
  · rw [if_neg (by rw [q]; decide)]
    have hlt := mkk_i (t := t) (n := n) (p := S.1) (by have := w2 q; omega)
    have hf : fok n (S.1 + 1, S.2) := ⟨hlt, h.2⟩
    have gen : ∀ X : rS, fok n X ∧ S.1 + 1 ≤ X.1 → fok n (fin t n X) ∧ S.1 ≤ (fin t n X).1 ∧ ((fin t n X).2.1 = 0 → S.1 < (fin t n X).1) := fun X hX => by
      have := fin_f (t := t) hn hX.1
      exact ⟨this.1, by omega, fun _ => by omega⟩
    have stp : ∀ (X : rS) (lo hi : Int), fok n X ∧ S.1 + 1 ≤ X.1 → fok n (num t n lo hi X) ∧ S.1 + 1 ≤ (num t n lo hi X).1 := fun X lo hi hX => by
      have := num_f (t := t) (lo := lo) (hi := hi) hn hX.1
      exact ⟨this.1, by omega⟩
    have h0 : fok n (S.1 + 1, S.2) ∧ S.1 + 1 ≤ ((S.1 + 1, S.2) : rS).1 := ⟨hf, Nat.le_refl _⟩
    by_cases q1 : mkk t n S.1 = 108
    · rw [if_pos q1]
      obtain ⟨i1, i2, -⟩ := cL_f (t := t) hn 12 0 (S.1 + 1, S.2) y hf
      have i3 : S.1 + 1 ≤ (cL t n 12 0 (S.1 + 1, S.2) y).1.1 := i2
      exact ⟨i1, by omega, fun _ => by omega⟩
    · rw [if_neg q1]
      by_cases q2 : mkk t n S.1 = 112
      · rw [if_pos q2]
        exact gen _ (stp _ _ _ (stp _ _ _ (stp _ _ _ (stp _ _ _ (stp _ _ _ h0)))))
      · rw [if_neg q2]
        by_cases q3 : mkk t n S.1 = 115
        · rw [if_pos q3]
          exact gen _ (stp _ _ _ (stp _ _ _ (stp _ _ _ h0)))
        · rw [if_neg q3]
          exact gen _ (stp _ _ _ h0)
  · rw [if_pos q]
    obtain ⟨h1, h2, h3, h4, h5⟩ := h
    refine ⟨⟨h1, mk2_f ⟨h2, h3⟩ ⟨h4, h5⟩ (by omega) (by omega)⟩, Nat.le_refl _, fun a => ?_⟩
    exact absurd (mk2_k.1 a).2.1 q
theorem cl_Y (hn : n ≤ 250) (h : fok n S) (hY : YK y) (hk : (cl t n S y).1.2.1 = 0) : YK (cl t n S y).2 := by
  obtain ⟨w1, w2⟩ := fow_k y (mkk t n S.1)
  unfold cl at hk ⊢
  by_cases q : fow y (mkk t n S.1) = 0
  · rw [if_neg (by rw [q]; decide)] at hk ⊢
    have hlt := mkk_i (t := t) (n := n) (p := S.1) (by have := w2 q; omega)
    have hf : fok n (S.1 + 1, S.2) := ⟨hlt, h.2⟩
    by_cases q1 : mkk t n S.1 = 108
    · rw [if_pos q1] at hk ⊢
      exact cL_Y hn 12 0 _ _ (by omega) hf hY (by have := w2 q; have := hY.1.1; omega) hk
    · rw [if_neg q1] at hk ⊢
      by_cases q2 : mkk t n S.1 = 112
      · rw [if_pos q2] at hk ⊢
        have z5 := num_0 (fin_0 (show (fin t n _).2.1 = 0 from hk)).1
        have z4 := num_0 z5.1
        have z3 := num_0 z4.1
        have z2 := num_0 z3.1
        have z1 := num_0 z2.1
        obtain ⟨p, hp⟩ : ∃ p : Nat, y 0 1 = p := ⟨(y 0 1).toNat, by have := hY.1.2.1; omega⟩
        have := YK_p hY hp (by have := w2 q; omega) z1.2.2 z2.2.2 z3.2.2 z4.2.2 z5.2.2
        unfold cP
        rw [show (y 0 1).toNat = p by omega]
        exact this
      · rw [if_neg q2] at hk ⊢
        by_cases q3 : mkk t n S.1 = 115
        · rw [if_pos q3] at hk ⊢
          have z3 := num_0 (fin_0 (show (fin t n _).2.1 = 0 from hk)).1
          have z2 := num_0 z3.1
          have z1 := num_0 z2.1
          exact YK_n (YK_n (YK_n (YK_n hY (Or.inl ⟨rfl, z1.2.2⟩)) (Or.inr (Or.inl ⟨rfl, z2.2.2⟩))) (Or.inr (Or.inr (Or.inl ⟨rfl, z3.2.2⟩)))) (by omega)
        · rw [if_neg q3] at hk ⊢
          have z1 := num_0 (fin_0 (show (fin t n _).2.1 = 0 from hk)).1
          exact YK_n (YK_n hY (Or.inr (Or.inr (Or.inr (Or.inl ⟨rfl, z1.2.2⟩))))) (by omega)
  · rw [if_pos q] at hk ⊢
    exact hY
theorem run_Y (hn : n ≤ 250) : ∀ (d : Nat) (S : rS) (y : yS), fok n S → (S.2.1 = 0 → YK y) → fok n (run t n d S y).1 ∧ ((run t n d S y).1.2.1 = 0 → YK (run t n d S y).2) := by
  intro d
  induction d with
  | zero => intro S y h hY; exact ⟨h, hY⟩
  | succ d ih =>
    intro S y h hY
    have hs := sk_b (t := t) h.1
    have hf : fok n (sk t n S.1, S.2) := ⟨hs.2, h.2⟩
    unfold run
    by_cases q : S.2.1 = 0
    · rw [if_pos q]
      by_cases q2 : sk t n S.1 < n
      · rw [if_pos q2]
        exact ih _ _ (cl_f hn hf).1 (cl_Y hn hf (hY q))
      · rw [if_neg q2]
        exact ⟨hf, fun _ => hY q⟩
    · rw [if_neg q]
      exact ⟨h, hY⟩
end
