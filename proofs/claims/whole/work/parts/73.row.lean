/-! a Work as a row of whole numbers: 0 wishes, 4 tired, 8 answers, 12 habits (of four), 16 left, 17 right, 18 next, 19 depth, 20 strokes, 21 askew, 22 gum, 23 wedged, 24 teeth -/
def rs (r : Nat → Int) (k : Nat) (v : Int) : Nat → Int := fun j => if j = k then v else r j
def inW (a c k : Nat) : Prop := (c = a ∧ k < 9) ∨ (a < c ∧ c ≤ a + 4 ∧ k < 4)
def ixW (a c k : Nat) : Nat := if c = a then (if k = 7 then 24 else if k = 8 then 23 else 16 + k) else if c = a + 1 then k else if c = a + 2 then 12 + k else if c = a + 3 then 4 + k else 8 + k
def putW (h : Nat → Nat → Int32) (a : Nat) (r : Nat → Int) : Nat → Nat → Int32 := fun c k => if (c = a ∧ k < 9) ∨ (a < c ∧ c ≤ a + 4 ∧ k < 4) then ii (r (ixW a c k)) else h c k
/-- the row that a Work holds -/
def wk (h : Nat → Nat → Int32) (a : Nat) : Nat → Int := fun k =>
  if k < 4 then (h (a + 1) k).toInt else if k < 8 then (h (a + 3) (k - 4)).toInt else if k < 12 then (h (a + 4) (k - 8)).toInt else if k < 16 then (h (a + 2) (k - 12)).toInt
  else if k = 24 then (h a 7).toInt else if k = 23 then (h a 8).toInt else (h a (k - 16)).toInt
theorem ixW_inj {a c k c' k' : Nat} (h : inW a c k) (h' : inW a c' k') (e : ixW a c k = ixW a c' k') : c = c' ∧ k = k' := by
  unfold inW at h h'
  unfold ixW at e
  repeat' split at e
  all_goals omega
theorem putW_in (h : Nat → Nat → Int32) (a : Nat) (r : Nat → Int) {c k : Nat} (hi : inW a c k) : putW h a r c k = ii (r (ixW a c k)) := by
  unfold putW
  exact if_pos hi
theorem putW_out (h : Nat → Nat → Int32) (a : Nat) (r : Nat → Int) {c k : Nat} (hi : ¬ inW a c k) : putW h a r c k = h c k := by
  unfold putW
  exact if_neg hi
theorem wk_ix (h : Nat → Nat → Int32) (a : Nat) {c k : Nat} (hi : inW a c k) : wk h a (ixW a c k) = (h c k).toInt := by
  unfold inW at hi
  rcases hi with ⟨rfl, hk⟩ | ⟨h1, h2, hk⟩
  · rcases (show k = 0 ∨ k = 1 ∨ k = 2 ∨ k = 3 ∨ k = 4 ∨ k = 5 ∨ k = 6 ∨ k = 7 ∨ k = 8 by omega) with rfl | rfl | rfl | rfl | rfl | rfl | rfl | rfl | rfl <;> simp [ixW, wk]
  · rcases (show c = a + 1 ∨ c = a + 2 ∨ c = a + 3 ∨ c = a + 4 by omega) with rfl | rfl | rfl | rfl
    · simp [ixW, wk, hk]
    · simp [ixW, wk, show ¬ 12 + k < 4 by omega, show ¬ 12 + k < 8 by omega, show ¬ 12 + k < 12 by omega, show 12 + k < 16 by omega]
    · simp [ixW, wk, show ¬ 4 + k < 4 by omega, show 4 + k < 8 by omega]
    · simp [ixW, wk, show ¬ 8 + k < 4 by omega, show ¬ 8 + k < 8 by omega, show 8 + k < 12 by omega]
theorem putW_wk (h : Nat → Nat → Int32) (a : Nat) : putW h a (wk h a) = h := by
  funext c k
  by_cases hi : inW a c k
  · rw [putW_in _ _ _ hi, wk_ix h a hi, ii_toInt]
  · rw [putW_out _ _ _ hi]
theorem putW_putW (h : Nat → Nat → Int32) (a : Nat) (r r' : Nat → Int) : putW (putW h a r) a r' = putW h a r' := by
  funext c k
  by_cases hi : inW a c k
  · rw [putW_in _ _ _ hi, putW_in _ _ _ hi]
  · rw [putW_out _ _ _ hi, putW_out _ _ _ hi, putW_out _ _ _ hi]
theorem uI_in (h : Nat → Nat → Int32) (a : Nat) (r : Nat → Int) (v : Int) {c0 k0 : Nat} (h0 : inW a c0 k0) : ps_uI (putW h a r) c0 k0 (ii v) = putW h a (rs r (ixW a c0 k0) v) := by
  funext c k
  unfold ps_uI
  by_cases hi : inW a c k
  · rw [putW_in _ _ _ hi, putW_in _ _ _ hi]
    by_cases hc : c = c0 ∧ k = k0
    · obtain ⟨rfl, rfl⟩ := hc
      simp [rs]
    · rw [if_neg hc]
      have : ixW a c k ≠ ixW a c0 k0 := fun e => hc (ixW_inj hi h0 e)
      simp only [rs, if_neg this]
  · rw [putW_out _ _ _ hi, putW_out _ _ _ hi, if_neg]
    intro q
    rw [q.1, q.2] at hi
    exact hi h0
theorem putW_o (h : Nat → Nat → Int32) (a : Nat) (r : Nat → Int) {c : Nat} (hc : c < a ∨ a + 4 < c) (k : Nat) : putW h a r c k = h c k := putW_out h a r (by unfold inW; omega)
theorem putW_r (h : Nat → Nat → Int32) (a : Nat) (r : Nat → Int) : putW h a r a 0 = ii (r 16) ∧ putW h a r a 1 = ii (r 17) ∧ putW h a r a 2 = ii (r 18) ∧ putW h a r a 3 = ii (r 19) ∧ putW h a r a 4 = ii (r 20) ∧ putW h a r a 5 = ii (r 21) ∧ putW h a r a 6 = ii (r 22) ∧ putW h a r a 7 = ii (r 24) ∧ putW h a r a 8 = ii (r 23) := by
  simp [putW, ixW]
theorem putW_1 (h : Nat → Nat → Int32) (a : Nat) (r : Nat → Int) {k : Nat} (hk : k < 4) : putW h a r (a + 1) k = ii (r k) := by simp [putW, ixW, hk]
theorem putW_2 (h : Nat → Nat → Int32) (a : Nat) (r : Nat → Int) {k : Nat} (hk : k < 4) : putW h a r (a + 2) k = ii (r (12 + k)) := by simp [putW, ixW, hk]
theorem putW_3 (h : Nat → Nat → Int32) (a : Nat) (r : Nat → Int) {k : Nat} (hk : k < 4) : putW h a r (a + 3) k = ii (r (4 + k)) := by simp [putW, ixW, hk]
theorem putW_4 (h : Nat → Nat → Int32) (a : Nat) (r : Nat → Int) {k : Nat} (hk : k < 4) : putW h a r (a + 4) k = ii (r (8 + k)) := by simp [putW, ixW, hk]
theorem uI_w (h : Nat → Nat → Int32) (a : Nat) (r : Nat → Int) (v : Int) : ps_uI (putW h a r) a 0 (ii v) = putW h a (rs r 16 v) ∧ ps_uI (putW h a r) a 1 (ii v) = putW h a (rs r 17 v) ∧ ps_uI (putW h a r) a 2 (ii v) = putW h a (rs r 18 v) ∧ ps_uI (putW h a r) a 3 (ii v) = putW h a (rs r 19 v) ∧ ps_uI (putW h a r) a 4 (ii v) = putW h a (rs r 20 v) ∧ ps_uI (putW h a r) a 5 (ii v) = putW h a (rs r 21 v) ∧ ps_uI (putW h a r) a 6 (ii v) = putW h a (rs r 22 v) ∧ ps_uI (putW h a r) a 7 (ii v) = putW h a (rs r 24 v) ∧ ps_uI (putW h a r) a 8 (ii v) = putW h a (rs r 23 v) := by
  refine ⟨?_, ?_, ?_, ?_, ?_, ?_, ?_, ?_, ?_⟩ <;> (rw [uI_in _ _ _ _ (by unfold inW; omega)]; simp [ixW])
theorem uI_1 (h : Nat → Nat → Int32) (a : Nat) (r : Nat → Int) (v : Int) {i : Nat} (hi : i < 4) : ps_uI (putW h a r) (a + 1) i (ii v) = putW h a (rs r i v) := by
  rw [uI_in _ _ _ _ (by unfold inW; omega)]; simp [ixW]
theorem uI_2 (h : Nat → Nat → Int32) (a : Nat) (r : Nat → Int) (v : Int) {i : Nat} (hi : i < 4) : ps_uI (putW h a r) (a + 2) i (ii v) = putW h a (rs r (12 + i) v) := by
  rw [uI_in _ _ _ _ (by unfold inW; omega)]; simp [ixW]
theorem uI_3 (h : Nat → Nat → Int32) (a : Nat) (r : Nat → Int) (v : Int) {i : Nat} (hi : i < 4) : ps_uI (putW h a r) (a + 3) i (ii v) = putW h a (rs r (4 + i) v) := by
  rw [uI_in _ _ _ _ (by unfold inW; omega)]; simp [ixW]
theorem uI_4 (h : Nat → Nat → Int32) (a : Nat) (r : Nat → Int) (v : Int) {i : Nat} (hi : i < 4) : ps_uI (putW h a r) (a + 4) i (ii v) = putW h a (rs r (8 + i) v) := by
  rw [uI_in _ _ _ _ (by unfold inW; omega)]; simp [ixW]
