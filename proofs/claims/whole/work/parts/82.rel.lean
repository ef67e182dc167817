/-! the relation of the two memories -/
abbrev zM : Type := Nat → Nat → Int32
def RY (h : zM) (y : Nat → Nat → Int) : Prop := Yk y ∧ Yd h y ∧ Ym h y
def RN (h : zM) (y : Nat → Nat → Int) (g : Int) : Prop := Ok y g (wk h 18) (mrow h 0)
def RS (h : zM) : Prop := h 206 25 = h 0 10 ∧ 0 ≤ (h 0 10).toInt
def Ls (h : zM) (c cr kd mr N : Nat) (hi : Int) : Prop := ∃ n : Nat, n ≤ N ∧ h c 1 = ii n ∧ h 205 kd = ii n ∧ ∀ j, j < n → h mr j = h cr j ∧ 0 ≤ (h cr j).toInt ∧ (h cr j).toInt ≤ hi
def RF (h : zM) : Prop := h 205 25 = h 8 3
def RI (h : zM) (y : Nat → Nat → Int) (g : Int) (i ci : Nat) : Prop := (h ci 2 = ii 0 ∧ h 207 i = ii 0) ∨ (h ci 2 = ii 1 ∧ h 207 i = ii 1 ∧ Ok y g (wk h (ci + 1)) (mrow h (56 + 28 * i)) ∧ h 206 (56 + 28 * i + 25) = h ci 1 ∧ 0 ≤ (h ci 1).toInt)
def RP (h : zM) (y : Nat → Nat → Int) (g : Int) : Prop := ∃ n t : Nat, n ≤ 30 ∧ t < 30 ∧ h 23 0 = ii n ∧ h 205 26 = ii n ∧ h 23 1 = ii t ∧ ∀ j, j < n → Ok y g (wk h (25 + 5 * ((t + 30 - n + j) % 30))) (mrow h (112 + 28 * j))
def Rel (g : Int) (h : zM) (y : Nat → Nat → Int) : Prop := RY h y ∧ RN h y g ∧ RS h ∧ Ls h 189 190 32 219 8 999 ∧ Ls h 191 192 34 220 20 999 ∧ Ls h 9 10 21 214 250 255 ∧ RF h ∧ RI h y g 0 193 ∧ RI h y g 1 199 ∧ RP h y g
def Inv (k : Nat) (M : ps_M) : Prop := ∃ (h : zM) (b : Bool) (y : Nat → Nat → Int), M = mk h b ∧ Rel (891 * k) h y
theorem Ok_m {y : Nat → Nat → Int} {g : Int} {r m m' : Nat → Int} (h : Ok y g r m) (hm : ∀ j, j < 25 → m' j = m j) (hy : y 0 1 ≤ 4) : Ok y g r m' := by
  obtain ⟨h1, h2, h3, h4⟩ := h
  refine ⟨h1, h2, fun j a b => by rw [hm j b]; exact h3 j a b, fun p hp => ?_⟩
  rw [hm p (by omega), hm (4 + p) (by omega), hm (8 + p) (by omega), hm (12 + p) (by omega)]
  exact h4 p hp
theorem wk_c {h h' : zM} {a : Nat} (hc : ∀ c k, a ≤ c → c ≤ a + 4 → h' c k = h c k) : wk h' a = wk h a := by
  funext j
  unfold wk
  simp only [hc a _ (by omega) (by omega), hc (a + 1) _ (by omega) (by omega), hc (a + 2) _ (by omega) (by omega), hc (a + 3) _ (by omega) (by omega), hc (a + 4) _ (by omega) (by omega)]
theorem mrow_c {h h' : zM} {x j : Nat} (hc : h' 206 (x + j) = h 206 (x + j)) : mrow h' x j = mrow h x j := by
  unfold mrow
  rw [hc]
theorem Yd_c {h h' : zM} {y : Nat → Nat → Int} (h0 : Yd h y) (hc : ∀ c k, 1 ≤ c → c ≤ 7 → h' c k = h c k) : Yd h' y := by
  unfold Yd at h0 ⊢
  simp only [hc 1 _ (by omega) (by omega), hc 2 _ (by omega) (by omega), hc 3 _ (by omega) (by omega), hc 4 _ (by omega) (by omega), hc 5 _ (by omega) (by omega), hc 7 _ (by omega) (by omega)]
  exact h0
theorem Ym_c {h h' : zM} {y : Nat → Nat → Int} (h0 : Ym h y) (hc : ∀ c k, (c = 205 ∧ 2 ≤ k ∧ k ≤ 6) ∨ (208 ≤ c ∧ c ≤ 213) → h' c k = h c k) : Ym h' y := by
  unfold Ym at h0 ⊢
  simp only [hc 205 2 (by omega), hc 205 3 (by omega), hc 205 4 (by omega), hc 205 5 (by omega), hc 205 6 (by omega), show ∀ k, h' 208 k = h 208 k from fun k => hc 208 k (by omega), show ∀ k, h' 209 k = h 209 k from fun k => hc 209 k (by omega), show ∀ k, h' 210 k = h 210 k from fun k => hc 210 k (by omega), show ∀ k, h' 211 k = h 211 k from fun k => hc 211 k (by omega), show ∀ k, h' 213 k = h 213 k from fun k => hc 213 k (by omega)]
  exact h0
theorem RY_c {h h' : zM} {y : Nat → Nat → Int} (h0 : RY h y) (hc : ∀ c k, (1 ≤ c ∧ c ≤ 7) ∨ (c = 205 ∧ 2 ≤ k ∧ k ≤ 6) ∨ (208 ≤ c ∧ c ≤ 213) → h' c k = h c k) : RY h' y :=
  ⟨h0.1, Yd_c h0.2.1 (fun c k a b => hc c k (by omega)), Ym_c h0.2.2 (fun c k a => hc c k (by omega))⟩
theorem RN_c {h h' : zM} {y : Nat → Nat → Int} {g : Int} (hy : y 0 1 ≤ 4) (h0 : RN h y g) (hc : ∀ c k, (18 ≤ c ∧ c ≤ 22) ∨ (c = 206 ∧ k < 25) → h' c k = h c k) : RN h' y g := by
  unfold RN at h0 ⊢
  rw [wk_c (a := 18) (fun c k a b => hc c k (by omega))]
  exact Ok_m h0 (fun j hj => mrow_c (hc _ _ (by omega))) hy
theorem RS_c {h h' : zM} (h0 : RS h) (hc : ∀ c k, (c = 0 ∧ k = 10) ∨ (c = 206 ∧ k = 25) → h' c k = h c k) : RS h' := by
  unfold RS at h0 ⊢
  rw [hc 0 10 (by omega), hc 206 25 (by omega)]
  exact h0
theorem Ls_c {h h' : zM} {c cr kd mr N : Nat} {hi : Int} (h0 : Ls h c cr kd mr N hi) (hc : ∀ c' k, (c' = c ∧ k = 1) ∨ c' = cr ∨ (c' = 205 ∧ k = kd) ∨ c' = mr → h' c' k = h c' k) : Ls h' c cr kd mr N hi := by
  obtain ⟨n, h1, h2, h3, h4⟩ := h0
  refine ⟨n, h1, by rw [hc c 1 (by omega)]; exact h2, by rw [hc 205 kd (by omega)]; exact h3, fun j hj => ?_⟩
  rw [hc mr j (by omega), hc cr j (by omega)]
  exact h4 j hj
theorem RF_c {h h' : zM} (h0 : RF h) (hc : ∀ c k, (c = 8 ∧ k = 3) ∨ (c = 205 ∧ k = 25) → h' c k = h c k) : RF h' := by
  unfold RF at h0 ⊢
  rw [hc 8 3 (by omega), hc 205 25 (by omega)]
  exact h0
theorem RI_c {h h' : zM} {y : Nat → Nat → Int} {g : Int} {i ci : Nat} (hy : y 0 1 ≤ 4) (h0 : RI h y g i ci) (hc : ∀ c k, (ci ≤ c ∧ c ≤ ci + 5) ∨ (c = 207 ∧ k = i) ∨ (c = 206 ∧ 56 + 28 * i ≤ k ∧ k < 56 + 28 * i + 28) → h' c k = h c k) : RI h' y g i ci := by
  rcases h0 with ⟨h1, h2⟩ | ⟨h1, h2, h3, h4, h5⟩
  · exact Or.inl ⟨by rw [hc ci 2 (by omega)]; exact h1, by rw [hc 207 i (by omega)]; exact h2⟩
  · refine Or.inr ⟨by rw [hc ci 2 (by omega)]; exact h1, by rw [hc 207 i (by omega)]; exact h2, ?_, by rw [hc 206 _ (by omega), hc ci 1 (by omega)]; exact h4, by rw [hc ci 1 (by omega)]; exact h5⟩
    rw [wk_c (a := ci + 1) (fun c k a b => hc c k (by omega))]
    exact Ok_m h3 (fun j hj => mrow_c (hc _ _ (by omega))) hy
theorem RP_c {h h' : zM} {y : Nat → Nat → Int} {g : Int} (hy : y 0 1 ≤ 4) (h0 : RP h y g) (hc : ∀ c k, (23 ≤ c ∧ c ≤ 174) ∨ (c = 205 ∧ k = 26) ∨ (c = 206 ∧ 112 ≤ k) → h' c k = h c k) : RP h' y g := by
  obtain ⟨n, t, h1, h2, h3, h4, h5, h6⟩ := h0
  refine ⟨n, t, h1, h2, by rw [hc 23 0 (by omega)]; exact h3, by rw [hc 205 26 (by omega)]; exact h4, by rw [hc 23 1 (by omega)]; exact h5, fun j hj => ?_⟩
  have hm : (t + 30 - n + j) % 30 < 30 := Nat.mod_lt _ (by omega)
  rw [wk_c (a := 25 + 5 * ((t + 30 - n + j) % 30)) (fun c k a b => hc c k (by omega))]
  exact Ok_m (h6 j hj) (fun i hi => mrow_c (hc _ _ (by omega))) hy
theorem RI_up {h : zM} {y : Nat → Nat → Int} {g g' : Int} {i ci : Nat} (h0 : RI h y g i ci) (hg : g ≤ g') : RI h y g' i ci := by
  rcases h0 with h1 | ⟨h1, h2, h3, h4, h5⟩
  · exact Or.inl h1
  · exact Or.inr ⟨h1, h2, h3.up hg, h4, h5⟩
theorem RP_up {h : zM} {y : Nat → Nat → Int} {g g' : Int} (h0 : RP h y g) (hg : g ≤ g') : RP h y g' := by
  obtain ⟨n, t, h1, h2, h3, h4, h5, h6⟩ := h0
  exact ⟨n, t, h1, h2, h3, h4, h5, fun j hj => (h6 j hj).up hg⟩
theorem Rel_up {h : zM} {y : Nat → Nat → Int} {g g' : Int} (h0 : Rel g h y) (hg : g ≤ g') : Rel g' h y := by
  obtain ⟨a1, a2, a3, a4, a5, a6, a7, a8, a9, a10⟩ := h0
  exact ⟨a1, Ok.up a2 hg, a3, a4, a5, a6, a7, RI_up a8 hg, RI_up a9 hg, RP_up a10 hg⟩
theorem pi_up : ∀ k M, Inv k M → Inv (k + 1) M := by
  rintro k M ⟨h, b, y, rfl, hR⟩
  exact ⟨h, b, y, rfl, Rel_up hR (by omega)⟩
theorem Rel_y4 {h : zM} {y : Nat → Nat → Int} {g : Int} (h0 : Rel g h y) : y 0 1 ≤ 4 := h0.1.1.2.1.2
/-- what changes only cells that nothing is said of -/
theorem Rel_c {h h' : zM} {y : Nat → Nat → Int} {g : Int} (h0 : Rel g h y) (hc : ∀ c k, c = 0 ∨ (1 ≤ c ∧ c ≤ 7) ∨ (c = 8 ∧ k = 3) ∨ (9 ≤ c ∧ c ≤ 10) ∨ (18 ≤ c ∧ c ≤ 174) ∨ (189 ≤ c ∧ c ≤ 204) ∨ (c = 205 ∧ 2 ≤ k ∧ k ≤ 6) ∨ (c = 205 ∧ (k = 21 ∨ k = 25 ∨ k = 26 ∨ k = 32 ∨ k = 34)) ∨ (c = 206 ∧ (k < 28 ∨ 56 ≤ k)) ∨ (207 ≤ c ∧ c ≤ 214) ∨ 219 ≤ c → h' c k = h c k) : Rel g h' y := by
  have hy := Rel_y4 h0
  obtain ⟨a1, a2, a3, a4, a5, a6, a7, a8, a9, a10⟩ := h0
  exact ⟨RY_c a1 (fun c k q => hc c k (by omega)), RN_c hy a2 (fun c k q => hc c k (by omega)), RS_c a3 (fun c k q => hc c k (by omega)), Ls_c a4 (fun c k q => hc c k (by omega)), Ls_c a5 (fun c k q => hc c k (by omega)), Ls_c a6 (fun c k q => hc c k (by omega)), RF_c a7 (fun c k q => hc c k (by omega)), RI_c hy a8 (fun c k q => hc c k (by omega)), RI_c hy a9 (fun c k q => hc c k (by omega)), RP_c hy a10 (fun c k q => hc c k (by omega))⟩
theorem wk_z {h : zM} {a : Nat} (h0 : h a 0 = ii (-1)) (h1 : h a 1 = ii (-1)) (h2 : h a 2 = ii (-1)) : wk h a 16 = -1 ∧ wk h a 17 = -1 ∧ wk h a 18 = -1 := by
  simp [wk, h0, h1, h2]
  decide
theorem pi_zero : Inv 0 (mk z0 false) := by
  obtain ⟨i1, i2, i3, i4, i5, i6, i7, i8, i9, i10, i11, i12, i13, i14, i15, i16, i17, i18, i19, i20, i21, i22, i23, i24, i25, i26, i27, i28, i29, i30, i31, i32, i33, i34, i35, i36, i37, i38, i39, i40, i41, i42, i43, i44, i45, i46, i47⟩ := ini_z
  refine ⟨z0, false, fun c k => if c = 0 ∧ k = 3 then 2 else if c = 0 ∧ k = 5 then 12 else 0, rfl, ⟨?_, ?_, ?_⟩, ⟨?_, ?_, ?_, ?_⟩, ⟨?_, ?_⟩, ?_, ?_, ?_, ?_, ?_, ?_, ?_⟩
  · refine ⟨by simp, by simp, by simp, by simp, by simp, fun j hj => ?_, fun p hp => ?_⟩
    · simp at hj; omega
    · simp at hp; omega
  · refine ⟨by simp [i1]; decide, by simp [i2]; decide, by simp [i4]; decide, by simp [i5]; decide, by simp [i6]; decide, fun j hj => ?_, fun p hp => ?_⟩
    · simp at hj; omega
    · simp at hp; omega
  · refine ⟨by simp [i7]; decide, by simp [i8]; decide, by simp [i9]; decide, by simp [i10]; decide, by simp [i11]; decide, fun j hj => ?_, fun p hp => ?_⟩
    · simp at hj; omega
    · simp at hp; omega
  · refine ⟨?_, ?_, ?_, ?_, ?_, ?_, fun p hp => ?_⟩
    · simp [wk, i15]
    · simp [wk, i16]
    · simp [wk, i17]
    · simp [wk, i18]
    · simp [wk, i20]
    · simp [wk, i19]
    · simp at hp; omega
  · exact Or.inl (wk_z (by rw [i12]; decide) (by rw [i13]; decide) (by rw [i14]; decide))
  · intro j h1 h2
    rcases (show j = 16 ∨ j = 17 ∨ j = 18 ∨ j = 19 ∨ j = 20 ∨ j = 21 ∨ j = 22 ∨ j = 23 ∨ j = 24 by omega) with rfl | rfl | rfl | rfl | rfl | rfl | rfl | rfl | rfl <;> simp [mrow, wk, i12, i13, i14, i15, i16, i17, i18, i19, i20, i21, i22, i23, i24, i25, i26, i27, i28, i29]
  · intro p hp
    simp at hp
    omega
  · rw [i30, i31]
  · rw [i31]; decide
  · exact ⟨0, by omega, by rw [i32]; decide, by rw [i39]; decide, fun j hj => by omega⟩
  · exact ⟨0, by omega, by rw [i33]; decide, by rw [i40]; decide, fun j hj => by omega⟩
  · exact ⟨0, by omega, by rw [i34]; decide, by rw [i37]; decide, fun j hj => by omega⟩
  · unfold RF; rw [i47, i46]
  · exact Or.inl ⟨by rw [i41]; decide, by rw [i43]; decide⟩
  · exact Or.inl ⟨by rw [i42]; decide, by rw [i44]; decide⟩
  · exact ⟨0, 0, by omega, by omega, by rw [i35]; decide, by rw [i38]; decide, by rw [i36]; decide, fun j hj => by omega⟩
