/-! the fewest changes of sides: one number for how many and how late -/
def sgk (k : Nat) : Int := if k % 2 = 0 then 1 else -1
def xk (k : Nat) : Int := ((k / 2 : Nat) : Int) - 301
def psi (A D m : Int) (N d : Nat) (x s c l : Int) : Int := if c < 99999999 ∧ bcd A D m d x s < 1000 then (c + bcd A D m d x s) * 1000 - (if c = 0 then lfd A D m N d else l) else 900000
def EE (D : Int) (t k : Nat) (c l : Int) : Prop := c = 99999999 ∨ (0 ≤ c ∧ c ≤ t ∧ -1 ≤ l ∧ l ≤ 99 ∧ (c = 0 → l = 99 ∧ xk k = t * D ∧ sgk k = 1) ∧ -(9 * t) ≤ xk k ∧ xk k ≤ 9 * t)
section
variable {A D m : Int} {N : Nat}
theorem bcd_d : ∀ (d : Nat) (x s : Int), bcd A D m d x s ≤ d ∨ bcd A D m d x s = 1000 := by
  intro d
  induction d with
  | zero => intro x s; exact Or.inl (Int.le_refl _)
  | succ d ih =>
    intro x s
    have h1 := ih (x + s * D) s
    have h2 := ih (x - s * D) (-s)
    unfold bcd bhd
    repeat' split
    all_goals omega
theorem lfd_b (hN : N ≤ 30) : ∀ d : Nat, d ≤ N → 0 ≤ lfd A D m N d ∧ lfd A D m N d ≤ 99 ∧ (N : Int) - d ≤ lfd A D m N d := by
  intro d
  induction d with
  | zero => intro _; show (0 : Int) ≤ 99 ∧ (99 : Int) ≤ 99 ∧ (N : Int) - ((0 : Nat) : Int) ≤ 99; omega
  | succ d ih =>
    intro hd
    have := ih (by omega)
    rw [lfd_s]
    split <;> omega
theorem psi_le (hN : N ≤ 30) {d : Nat} (hd : d ≤ N) {x s c l : Int} (hc : c = 99999999 ∨ (0 ≤ c ∧ c ≤ 30 ∧ -1 ≤ l ∧ l ≤ 99)) : psi A D m N d x s c l ≤ 900000 := by
  have h1 := bcd_d (A := A) (D := D) (m := m) d x s
  have h2 := bcd_b A D m d x s
  have h3 := lfd_b (A := A) (D := D) (m := m) hN d hd
  unfold psi
  repeat' split
  all_goals omega
/-- a stroke ahead: nothing gets better, and the best stays -/
theorem psi_step (hN : N ≤ 30) {d t k : Nat} (ht : t + (d + 1) = N) {c l : Int} (hE : EE D t k c l) (hc : c < 99999999) :
    (((A + (xk k + sgk k * D)).natAbs : Int) ≤ m → psi A D m N (d + 1) (xk k) (sgk k) c l ≤ psi A D m N d (xk k + sgk k * D) (sgk k) c l)
    ∧ (((A + (xk k - sgk k * D)).natAbs : Int) ≤ m → psi A D m N (d + 1) (xk k) (sgk k) c l ≤ psi A D m N d (xk k - sgk k * D) (-sgk k) (c + 1) (if c = 0 then (t : Int) else l))
    ∧ (psi A D m N (d + 1) (xk k) (sgk k) c l < 900000 → (((A + (xk k + sgk k * D)).natAbs : Int) ≤ m ∧ psi A D m N d (xk k + sgk k * D) (sgk k) c l ≤ psi A D m N (d + 1) (xk k) (sgk k) c l) ∨ (((A + (xk k - sgk k * D)).natAbs : Int) ≤ m ∧ psi A D m N d (xk k - sgk k * D) (-sgk k) (c + 1) (if c = 0 then (t : Int) else l) ≤ psi A D m N (d + 1) (xk k) (sgk k) c l)) := by
  obtain ⟨c0, ct, l1, l2, hz, -⟩ : 0 ≤ c ∧ c ≤ t ∧ -1 ≤ l ∧ l ≤ 99 ∧ (c = 0 → l = 99 ∧ xk k = t * D ∧ sgk k = 1) ∧ -(9 * t) ≤ xk k ∧ xk k ≤ 9 * t := by
    rcases hE with q | q
    · omega
    · exact q
  have b1 := bcd_b A D m d (xk k + sgk k * D) (sgk k)
  have b2 := bcd_b A D m d (xk k - sgk k * D) (-sgk k)
  have e1 := bcd_d (A := A) (D := D) (m := m) d (xk k + sgk k * D) (sgk k)
  have e2 := bcd_d (A := A) (D := D) (m := m) d (xk k - sgk k * D) (-sgk k)
  have hl := lfd_b (A := A) (D := D) (m := m) hN d (by omega)
  have hB := bcd_s A D m d (xk k) (sgk k)
  have hL : c = 0 → lfd A D m N (d + 1) = (if chg A D m d (xk k) (sgk k) < sty A D m d (xk k) (sgk k) then (t : Int) else lfd A D m N d) := by
    intro q
    obtain ⟨-, q2, q3⟩ := hz q
    rw [lfd_s, q2, q3, show (N : Int) - ((d + 1 : Nat) : Int) = (t : Int) by omega]
  have hs : sty A D m d (xk k) (sgk k) = if ((A + (xk k + sgk k * D)).natAbs : Int) ≤ m then bcd A D m d (xk k + sgk k * D) (sgk k) else 1000 := rfl
  have hg : chg A D m d (xk k) (sgk k) = (if ((A + (xk k - sgk k * D)).natAbs : Int) ≤ m then bcd A D m d (xk k - sgk k * D) (-sgk k) else 1000) + 1 := rfl
  unfold psi
  rw [hB]
  generalize bcd A D m d (xk k + sgk k * D) (sgk k) = B1 at *
  generalize bcd A D m d (xk k - sgk k * D) (-sgk k) = B2 at *
  generalize sty A D m d (xk k) (sgk k) = S at *
  generalize chg A D m d (xk k) (sgk k) = G at *
  generalize lfd A D m N d = L at *
  generalize lfd A D m N (d + 1) = L1 at *
  generalize ((A + (xk k + sgk k * D)).natAbs : Int) = P1 at *
  generalize ((A + (xk k - sgk k * D)).natAbs : Int) = P2 at *
  by_cases hcz : c = 0
  · have hL' := hL hcz
    subst hcz
    simp only [if_true]
    refine ⟨fun q => ?_, fun q => ?_, fun q => ?_⟩
    · rw [if_pos q] at hs
      by_cases r : P2 ≤ m
      · rw [if_pos r] at hg
        repeat' split at *
        all_goals omega
      · rw [if_neg r] at hg
        repeat' split at *
        all_goals omega
    · rw [if_pos q] at hg
      by_cases r : P1 ≤ m
      · rw [if_pos r] at hs
        repeat' split at *
        all_goals omega
      · rw [if_neg r] at hs
        repeat' split at *
        all_goals omega
    · by_cases r1 : P1 ≤ m
      · rw [if_pos r1] at hs
        by_cases r2 : P2 ≤ m
        · rw [if_pos r2] at hg
          by_cases w : G < S
          · right
            refine ⟨r2, ?_⟩
            repeat' split at *
            all_goals omega
          · left
            refine ⟨r1, ?_⟩
            repeat' split at *
            all_goals omega
        · rw [if_neg r2] at hg
          left
          refine ⟨r1, ?_⟩
          repeat' split at *
          all_goals omega
      · rw [if_neg r1] at hs
        by_cases r2 : P2 ≤ m
        · rw [if_pos r2] at hg
          right
          refine ⟨r2, ?_⟩
          repeat' split at *
          all_goals omega
        · rw [if_neg r2] at hg
          exfalso
          repeat' split at *
          all_goals omega
  · rw [if_neg hcz, if_neg hcz, if_neg hcz, if_neg (by omega : ¬ c + 1 = 0)]
    clear hL hz
    refine ⟨fun q => ?_, fun q => ?_, fun q => ?_⟩
    · rw [if_pos q] at hs
      by_cases r : P2 ≤ m
      · rw [if_pos r] at hg
        repeat' split
        all_goals omega
      · rw [if_neg r] at hg
        repeat' split
        all_goals omega
    · rw [if_pos q] at hg
      by_cases r : P1 ≤ m
      · rw [if_pos r] at hs
        repeat' split
        all_goals omega
      · rw [if_neg r] at hs
        repeat' split
        all_goals omega
    · by_cases r1 : P1 ≤ m
      · rw [if_pos r1] at hs
        by_cases r2 : P2 ≤ m
        · rw [if_pos r2] at hg
          by_cases w : G < S
          · right
            refine ⟨r2, ?_⟩
            repeat' split at *
            all_goals omega
          · left
            refine ⟨r1, ?_⟩
            repeat' split at *
            all_goals omega
        · rw [if_neg r2] at hg
          left
          refine ⟨r1, ?_⟩
          repeat' split at *
          all_goals omega
      · rw [if_neg r1] at hs
        by_cases r2 : P2 ≤ m
        · rw [if_pos r2] at hg
          right
          refine ⟨r2, ?_⟩
          repeat' split at *
          all_goals omega
        · rw [if_neg r2] at hg
          exfalso
          repeat' split at *
          all_goals omega
/-- of two at one place, the better one -/
theorem psi_lay (hN : N ≤ 30) {d t k : Nat} (ht : t + d = N) {c l c' l' : Int} (hE : EE D t k c l) (hE' : EE D t k c' l') (x s : Int) : (c' < c ∨ (c' = c ∧ l < l') → psi A D m N d x s c' l' ≤ psi A D m N d x s c l) ∧ (¬ (c' < c ∨ (c' = c ∧ l < l')) → psi A D m N d x s c l ≤ psi A D m N d x s c' l') := by
  have h1 := bcd_d (A := A) (D := D) (m := m) d x s
  have h2 := bcd_b A D m d x s
  have h3 := lfd_b (A := A) (D := D) (m := m) hN d (by omega)
  have q1 : c = 99999999 ∨ (0 ≤ c ∧ c ≤ t ∧ -1 ≤ l ∧ l ≤ 99) := by rcases hE with a | a; exact Or.inl a; exact Or.inr ⟨a.1, a.2.1, a.2.2.1, a.2.2.2.1⟩
  have q2 : c' = 99999999 ∨ (0 ≤ c' ∧ c' ≤ t ∧ -1 ≤ l' ∧ l' ≤ 99) := by rcases hE' with a | a; exact Or.inl a; exact Or.inr ⟨a.1, a.2.1, a.2.2.1, a.2.2.2.1⟩
  unfold psi
  generalize bcd A D m d x s = B at *
  generalize lfd A D m N d = L at *
  refine ⟨fun w => ?_, fun w => ?_⟩
  · repeat' split
    all_goals omega
  · repeat' split
    all_goals omega
/-- without any, none is best, or nothing goes -/
theorem lfd_none (hN : N ≤ 30) : ∀ d : Nat, d ≤ N → (lfd A D m N d = 99 → bcd A D m d (((N : Int) - d) * D) 1 = 0 ∨ bcd A D m d (((N : Int) - d) * D) 1 = 1000) ∧ (bcd A D m d (((N : Int) - d) * D) 1 = 0 → lfd A D m N d = 99) := by
  intro d
  induction d with
  | zero => intro _; exact ⟨fun _ => Or.inl rfl, fun _ => rfl⟩
  | succ d ih =>
    intro hd
    obtain ⟨i1, i2⟩ := ih (by omega)
    have e : ((N : Int) - ((d + 1 : Nat) : Int)) * D + 1 * D = ((N : Int) - d) * D := by rw [← Int.add_mul]; congr 1; omega
    have hs : sty A D m d (((N : Int) - ((d + 1 : Nat) : Int)) * D) 1 = bhd A m (bcd A D m d (((N : Int) - d) * D) 1) (((N : Int) - d) * D) := by unfold sty; rw [e]
    have hb := sty_b A D m d (((N : Int) - ((d + 1 : Nat) : Int)) * D) 1
    have hbb := bcd_b A D m d (((N : Int) - d) * D) 1
    rw [lfd_s, bcd_s]
    unfold bhd at hs
    generalize sty A D m d (((N : Int) - ((d + 1 : Nat) : Int)) * D) 1 = S at *
    generalize chg A D m d (((N : Int) - ((d + 1 : Nat) : Int)) * D) 1 = G at *
    refine ⟨fun q => ?_, fun q => ?_⟩
    · by_cases w : G < S
      · rw [if_pos w] at q
        omega
      · rw [if_neg w] at q
        have := i1 q
        split at hs <;> omega
    · have hS0 : S = 0 := by omega
      rw [if_neg (by omega)]
      apply i2
      split at hs <;> omega
end
