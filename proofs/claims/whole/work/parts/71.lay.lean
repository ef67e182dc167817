def wl : List Nat := 18 :: 176 :: 181 :: 194 :: 200 :: (List.range 30).map (fun i => 25 + 5 * i)
def Lay (K L : Nat → Nat) (R : Nat → Nat → Nat) : Prop := (∀ i, i < 221 → K i = ([9, 8, 21, 21, 21, 21, 21, 21, 4, 5, 21, 8, 21, 21, 21, 21, 21, 21, 7, 21, 21, 21, 21, 3, 23, 7, 21, 21, 21, 21, 7, 21, 21, 21, 21, 7, 21, 21, 21, 21, 7, 21, 21, 21, 21, 7, 21, 21, 21, 21, 7, 21, 21, 21, 21, 7, 21, 21, 21, 21, 7, 21, 21, 21, 21, 7, 21, 21, 21, 21, 7, 21, 21, 21, 21, 7, 21, 21, 21, 21, 7, 21, 21, 21, 21, 7, 21, 21, 21, 21, 7, 21, 21, 21, 21, 7, 21, 21, 21, 21, 7, 21, 21, 21, 21, 7, 21, 21, 21, 21, 7, 21, 21, 21, 21, 7, 21, 21, 21, 21, 7, 21, 21, 21, 21, 7, 21, 21, 21, 21, 7, 21, 21, 21, 21, 7, 21, 21, 21, 21, 7, 21, 21, 21, 21, 7, 21, 21, 21, 21, 7, 21, 21, 21, 21, 7, 21, 21, 21, 21, 7, 21, 21, 21, 21, 7, 21, 21, 21, 21, 7, 21, 21, 21, 21, 6, 7, 21, 21, 21, 21, 7, 21, 21, 21, 21, 1, 21, 21, 5, 21, 5, 21, 2, 7, 21, 21, 21, 21, 2, 7, 21, 21, 21, 21, 10, 21, 22, 21, 21, 21, 21, 21, 21, 21, 21, 21, 21, 21, 21, 21] : List Nat).getD i 0) ∧ (∀ i, i < 221 → L i = ([0, 0, 12, 4, 4, 4, 4, 4, 0, 0, 250, 0, 12, 4, 4, 4, 4, 4, 0, 4, 4, 4, 4, 0, 30, 0, 4, 4, 4, 4, 0, 4, 4, 4, 4, 0, 4, 4, 4, 4, 0, 4, 4, 4, 4, 0, 4, 4, 4, 4, 0, 4, 4, 4, 4, 0, 4, 4, 4, 4, 0, 4, 4, 4, 4, 0, 4, 4, 4, 4, 0, 4, 4, 4, 4, 0, 4, 4, 4, 4, 0, 4, 4, 4, 4, 0, 4, 4, 4, 4, 0, 4, 4, 4, 4, 0, 4, 4, 4, 4, 0, 4, 4, 4, 4, 0, 4, 4, 4, 4, 0, 4, 4, 4, 4, 0, 4, 4, 4, 4, 0, 4, 4, 4, 4, 0, 4, 4, 4, 4, 0, 4, 4, 4, 4, 0, 4, 4, 4, 4, 0, 4, 4, 4, 4, 0, 4, 4, 4, 4, 0, 4, 4, 4, 4, 0, 4, 4, 4, 4, 0, 4, 4, 4, 4, 0, 4, 4, 4, 4, 0, 4, 4, 4, 4, 0, 0, 4, 4, 4, 4, 0, 4, 4, 4, 4, 0, 122, 122, 0, 8, 0, 20, 0, 0, 4, 4, 4, 4, 0, 0, 4, 4, 4, 4, 0, 952, 2, 24, 8, 8, 8, 8, 8, 250, 1204, 1204, 1204, 1204, 8, 20] : List Nat).getD i 0) ∧ (R 0 0 = 2 ∧ R 0 1 = 9 ∧ R 0 2 = 19 ∧ R 0 3 = 24 ∧ R 0 4 = 176 ∧ R 0 5 = 187 ∧ R 0 6 = 190 ∧ R 0 7 = 192 ∧ R 0 8 = 194 ∧ R 0 9 = 200 ∧ R 1 6 = 3 ∧ R 1 7 = 4 ∧ R 1 8 = 5 ∧ R 1 9 = 6 ∧ R 1 10 = 7 ∧ R 1 11 = 8 ∧ R 8 0 = 10 ∧ R 8 1 = 12 ∧ R 9 0 = 11 ∧ R 11 6 = 13 ∧ R 11 7 = 14 ∧ R 11 8 = 15 ∧ R 11 9 = 16 ∧ R 11 10 = 17 ∧ R 11 11 = 18 ∧ R 23 2 = 25 ∧ R 175 8 = 177 ∧ R 175 9 = 182 ∧ R 189 0 = 191 ∧ R 191 0 = 193 ∧ R 193 0 = 195 ∧ R 199 0 = 201 ∧ R 205 0 = 207 ∧ R 205 1 = 208 ∧ R 205 14 = 209 ∧ R 205 15 = 210 ∧ R 205 16 = 211 ∧ R 205 17 = 212 ∧ R 205 18 = 213 ∧ R 205 19 = 214 ∧ R 205 20 = 215 ∧ R 205 27 = 216 ∧ R 205 28 = 217 ∧ R 205 29 = 218 ∧ R 205 30 = 219 ∧ R 205 31 = 220 ∧ R 205 33 = 221) ∧ (∀ i, i < 30 → R 24 i = 25 + 5 * i + 1) ∧ (R 186 5 = 188 ∧ R 186 6 = 189) ∧
  ∀ a ∈ wl, R a 9 = a + 1 + 1 ∧ R a 10 = a + 2 + 1 ∧ R a 11 = a + 3 + 1 ∧ R a 12 = a + 4 + 1
def Ini (h : Nat → Nat → Int32) : Prop := h 1 0 = 0 ∧ h 1 1 = 0 ∧ h 1 2 = 5 ∧ h 1 3 = 2 ∧ h 1 4 = 0 ∧ h 1 5 = 12 ∧ h 205 2 = 0 ∧ h 205 3 = 0 ∧ h 205 4 = 2 ∧ h 205 5 = 0 ∧ h 205 6 = 12 ∧ h 18 0 = -1 ∧ h 18 1 = -1 ∧ h 18 2 = -1 ∧ h 18 3 = 0 ∧ h 18 4 = 0 ∧ h 18 5 = 0 ∧ h 18 6 = 0 ∧ h 18 7 = 5 ∧ h 18 8 = 0 ∧ h 206 16 = -1 ∧ h 206 17 = -1 ∧ h 206 18 = -1 ∧ h 206 19 = 0 ∧ h 206 20 = 0 ∧ h 206 21 = 0 ∧ h 206 22 = 0 ∧ h 206 23 = 0 ∧ h 206 24 = 5 ∧ h 206 25 = 0 ∧ h 0 10 = 0 ∧ h 189 1 = 0 ∧ h 191 1 = 0 ∧ h 9 1 = 0 ∧ h 23 0 = 0 ∧ h 23 1 = 0 ∧ h 205 21 = 0 ∧ h 205 26 = 0 ∧ h 205 32 = 0 ∧ h 205 34 = 0 ∧ h 193 2 = 0 ∧ h 199 2 = 0 ∧ h 207 0 = 0 ∧ h 207 1 = 0 ∧ h 8 2 = 0 ∧ h 8 3 = -1 ∧ h 205 25 = -1
def ps_M0 : ps_M := (f_law_init.getD (0, 0, ps_Mz)).2.2
theorem li_0 : f_law_init.isSome = true := by decide +kernel
theorem li_1 : (f_law_init.getD (7, 7, ps_Mz)).1 = 0 ∧ (f_law_init.getD (7, 7, ps_Mz)).2.1 = 205 := by decide +kernel
theorem li_2 : f_law_init = some (0, 205, ps_M0) := by
  have h := li_0
  have h1 := li_1
  unfold ps_M0
  cases hf : f_law_init with
  | none => rw [hf] at h; cases h
  | some q =>
    rw [hf] at h1
    obtain ⟨a, b, M⟩ := q
    obtain ⟨h2, h3⟩ := h1
    simp at h2 h3
    simp [h2, h3]
theorem li_3 : Lay (ps_K ps_M0) (ps_L ps_M0) (ps_R ps_M0) := ⟨by decide +kernel, by decide +kernel, by decide +kernel, by decide +kernel, by decide +kernel, by decide +kernel⟩
theorem li_4 : Ini (ps_I ps_M0) := by
  unfold Ini
  decide +kernel
abbrev zT : Type := (Nat → Nat → Int32) × (Nat → Nat → Nat) × (Nat → Nat) × (Nat → Nat) × Nat
theorem li_5 (M : ps_M) (h : f_law_init = some (0, 205, M)) (h3 : Lay (ps_K M) (ps_L M) (ps_R M)) (h4 : Ini (ps_I M)) : ∃ q : zT, f_law_init = some (0, 205, (q.1, q.2.1, q.2.2.1, q.2.2.2.1, q.2.2.2.2)) ∧ Lay q.2.2.1 q.2.2.2.1 q.2.1 ∧ Ini q.1 := ⟨M, h, h3, h4⟩
noncomputable def zq : zT := Classical.choose (li_5 ps_M0 li_2 li_3 li_4)
noncomputable def z0 : Nat → Nat → Int32 := zq.1
noncomputable def zK : Nat → Nat := zq.2.2.1
noncomputable def zL : Nat → Nat := zq.2.2.2.1
noncomputable def zN : Nat := zq.2.2.2.2
noncomputable def zR (b : Bool) : Nat → Nat → Nat := fun x y => if b = true ∧ x = 186 ∧ y = 5 then 189 else if b = true ∧ x = 186 ∧ y = 6 then 188 else zq.2.1 x y
/-- the memory with the ints h; b: whether the two rows of Balance have changed places -/
noncomputable def mk (h : Nat → Nat → Int32) (b : Bool) : ps_M := (h, zR b, zK, zL, zN)
theorem zq_spec : f_law_init = some (0, 205, (z0, zq.2.1, zK, zL, zN)) ∧ Lay zK zL zq.2.1 ∧ Ini z0 := Classical.choose_spec (li_5 ps_M0 li_2 li_3 li_4)
theorem zR_f : zR false = zq.2.1 := by
  funext x y
  simp [zR]
theorem pi_init : f_law_init = some (0, 205, mk z0 false) := by
  unfold mk
  rw [zR_f]
  exact zq_spec.1
theorem lk_all : ∀ i, i < 221 → zK i = ([9, 8, 21, 21, 21, 21, 21, 21, 4, 5, 21, 8, 21, 21, 21, 21, 21, 21, 7, 21, 21, 21, 21, 3, 23, 7, 21, 21, 21, 21, 7, 21, 21, 21, 21, 7, 21, 21, 21, 21, 7, 21, 21, 21, 21, 7, 21, 21, 21, 21, 7, 21, 21, 21, 21, 7, 21, 21, 21, 21, 7, 21, 21, 21, 21, 7, 21, 21, 21, 21, 7, 21, 21, 21, 21, 7, 21, 21, 21, 21, 7, 21, 21, 21, 21, 7, 21, 21, 21, 21, 7, 21, 21, 21, 21, 7, 21, 21, 21, 21, 7, 21, 21, 21, 21, 7, 21, 21, 21, 21, 7, 21, 21, 21, 21, 7, 21, 21, 21, 21, 7, 21, 21, 21, 21, 7, 21, 21, 21, 21, 7, 21, 21, 21, 21, 7, 21, 21, 21, 21, 7, 21, 21, 21, 21, 7, 21, 21, 21, 21, 7, 21, 21, 21, 21, 7, 21, 21, 21, 21, 7, 21, 21, 21, 21, 7, 21, 21, 21, 21, 7, 21, 21, 21, 21, 6, 7, 21, 21, 21, 21, 7, 21, 21, 21, 21, 1, 21, 21, 5, 21, 5, 21, 2, 7, 21, 21, 21, 21, 2, 7, 21, 21, 21, 21, 10, 21, 22, 21, 21, 21, 21, 21, 21, 21, 21, 21, 21, 21, 21, 21] : List Nat).getD i 0 := zq_spec.2.1.1
theorem ll_all : ∀ i, i < 221 → zL i = ([0, 0, 12, 4, 4, 4, 4, 4, 0, 0, 250, 0, 12, 4, 4, 4, 4, 4, 0, 4, 4, 4, 4, 0, 30, 0, 4, 4, 4, 4, 0, 4, 4, 4, 4, 0, 4, 4, 4, 4, 0, 4, 4, 4, 4, 0, 4, 4, 4, 4, 0, 4, 4, 4, 4, 0, 4, 4, 4, 4, 0, 4, 4, 4, 4, 0, 4, 4, 4, 4, 0, 4, 4, 4, 4, 0, 4, 4, 4, 4, 0, 4, 4, 4, 4, 0, 4, 4, 4, 4, 0, 4, 4, 4, 4, 0, 4, 4, 4, 4, 0, 4, 4, 4, 4, 0, 4, 4, 4, 4, 0, 4, 4, 4, 4, 0, 4, 4, 4, 4, 0, 4, 4, 4, 4, 0, 4, 4, 4, 4, 0, 4, 4, 4, 4, 0, 4, 4, 4, 4, 0, 4, 4, 4, 4, 0, 4, 4, 4, 4, 0, 4, 4, 4, 4, 0, 4, 4, 4, 4, 0, 4, 4, 4, 4, 0, 4, 4, 4, 4, 0, 4, 4, 4, 4, 0, 0, 4, 4, 4, 4, 0, 4, 4, 4, 4, 0, 122, 122, 0, 8, 0, 20, 0, 0, 4, 4, 4, 4, 0, 0, 4, 4, 4, 4, 0, 952, 2, 24, 8, 8, 8, 8, 8, 250, 1204, 1204, 1204, 1204, 8, 20] : List Nat).getD i 0 := zq_spec.2.1.2.1
theorem lr_0 : zq.2.1 0 0 = 2 ∧ zq.2.1 0 1 = 9 ∧ zq.2.1 0 2 = 19 ∧ zq.2.1 0 3 = 24 ∧ zq.2.1 0 4 = 176 ∧ zq.2.1 0 5 = 187 ∧ zq.2.1 0 6 = 190 ∧ zq.2.1 0 7 = 192 ∧ zq.2.1 0 8 = 194 ∧ zq.2.1 0 9 = 200 ∧ zq.2.1 1 6 = 3 ∧ zq.2.1 1 7 = 4 ∧ zq.2.1 1 8 = 5 ∧ zq.2.1 1 9 = 6 ∧ zq.2.1 1 10 = 7 ∧ zq.2.1 1 11 = 8 ∧ zq.2.1 8 0 = 10 ∧ zq.2.1 8 1 = 12 ∧ zq.2.1 9 0 = 11 ∧ zq.2.1 11 6 = 13 ∧ zq.2.1 11 7 = 14 ∧ zq.2.1 11 8 = 15 ∧ zq.2.1 11 9 = 16 ∧ zq.2.1 11 10 = 17 ∧ zq.2.1 11 11 = 18 ∧ zq.2.1 23 2 = 25 ∧ zq.2.1 175 8 = 177 ∧ zq.2.1 175 9 = 182 ∧ zq.2.1 189 0 = 191 ∧ zq.2.1 191 0 = 193 ∧ zq.2.1 193 0 = 195 ∧ zq.2.1 199 0 = 201 ∧ zq.2.1 205 0 = 207 ∧ zq.2.1 205 1 = 208 ∧ zq.2.1 205 14 = 209 ∧ zq.2.1 205 15 = 210 ∧ zq.2.1 205 16 = 211 ∧ zq.2.1 205 17 = 212 ∧ zq.2.1 205 18 = 213 ∧ zq.2.1 205 19 = 214 ∧ zq.2.1 205 20 = 215 ∧ zq.2.1 205 27 = 216 ∧ zq.2.1 205 28 = 217 ∧ zq.2.1 205 29 = 218 ∧ zq.2.1 205 30 = 219 ∧ zq.2.1 205 31 = 220 ∧ zq.2.1 205 33 = 221 := zq_spec.2.1.2.2.1
theorem lk_s : zK 0 = 9 ∧ zK 1 = 8 ∧ zK 2 = 21 ∧ zK 3 = 21 ∧ zK 4 = 21 ∧ zK 5 = 21 ∧ zK 6 = 21 ∧ zK 7 = 21 ∧ zK 8 = 4 ∧ zK 9 = 5 ∧ zK 10 = 21 ∧ zK 11 = 8 ∧ zK 12 = 21 ∧ zK 13 = 21 ∧ zK 14 = 21 ∧ zK 15 = 21 ∧ zK 16 = 21 ∧ zK 17 = 21 ∧ zK 23 = 3 ∧ zK 24 = 23 ∧ zK 175 = 6 ∧ zK 186 = 1 ∧ zK 187 = 21 ∧ zK 188 = 21 ∧ zK 189 = 5 ∧ zK 190 = 21 ∧ zK 191 = 5 ∧ zK 192 = 21 ∧ zK 193 = 2 ∧ zK 199 = 2 ∧ zK 205 = 10 ∧ zK 206 = 21 ∧ zK 207 = 22 ∧ zK 208 = 21 ∧ zK 209 = 21 ∧ zK 210 = 21 ∧ zK 211 = 21 ∧ zK 212 = 21 ∧ zK 213 = 21 ∧ zK 214 = 21 ∧ zK 215 = 21 ∧ zK 216 = 21 ∧ zK 217 = 21 ∧ zK 218 = 21 ∧ zK 219 = 21 ∧ zK 220 = 21 := by
  refine ⟨lk_all 0 (by decide), lk_all 1 (by decide), lk_all 2 (by decide), lk_all 3 (by decide), lk_all 4 (by decide), lk_all 5 (by decide), lk_all 6 (by decide), lk_all 7 (by decide), lk_all 8 (by decide), lk_all 9 (by decide), lk_all 10 (by decide), lk_all 11 (by decide), lk_all 12 (by decide), lk_all 13 (by decide), lk_all 14 (by decide), lk_all 15 (by decide), lk_all 16 (by decide), lk_all 17 (by decide), lk_all 23 (by decide), lk_all 24 (by decide), lk_all 175 (by decide), lk_all 186 (by decide), lk_all 187 (by decide), lk_all 188 (by decide), lk_all 189 (by decide), lk_all 190 (by decide), lk_all 191 (by decide), lk_all 192 (by decide), lk_all 193 (by decide), lk_all 199 (by decide), lk_all 205 (by decide), lk_all 206 (by decide), lk_all 207 (by decide), lk_all 208 (by decide), lk_all 209 (by decide), lk_all 210 (by decide), lk_all 211 (by decide), lk_all 212 (by decide), lk_all 213 (by decide), lk_all 214 (by decide), lk_all 215 (by decide), lk_all 216 (by decide), lk_all 217 (by decide), lk_all 218 (by decide), lk_all 219 (by decide), lk_all 220 (by decide)⟩
theorem ll_s : zL 2 = 12 ∧ zL 3 = 4 ∧ zL 4 = 4 ∧ zL 5 = 4 ∧ zL 6 = 4 ∧ zL 7 = 4 ∧ zL 10 = 250 ∧ zL 12 = 12 ∧ zL 13 = 4 ∧ zL 14 = 4 ∧ zL 15 = 4 ∧ zL 16 = 4 ∧ zL 17 = 4 ∧ zL 24 = 30 ∧ zL 187 = 122 ∧ zL 188 = 122 ∧ zL 190 = 8 ∧ zL 192 = 20 ∧ zL 206 = 952 ∧ zL 207 = 2 ∧ zL 208 = 24 ∧ zL 209 = 8 ∧ zL 210 = 8 ∧ zL 211 = 8 ∧ zL 212 = 8 ∧ zL 213 = 8 ∧ zL 214 = 250 ∧ zL 215 = 1204 ∧ zL 216 = 1204 ∧ zL 217 = 1204 ∧ zL 218 = 1204 ∧ zL 219 = 8 ∧ zL 220 = 20 := by
  refine ⟨ll_all 2 (by decide), ll_all 3 (by decide), ll_all 4 (by decide), ll_all 5 (by decide), ll_all 6 (by decide), ll_all 7 (by decide), ll_all 10 (by decide), ll_all 12 (by decide), ll_all 13 (by decide), ll_all 14 (by decide), ll_all 15 (by decide), ll_all 16 (by decide), ll_all 17 (by decide), ll_all 24 (by decide), ll_all 187 (by decide), ll_all 188 (by decide), ll_all 190 (by decide), ll_all 192 (by decide), ll_all 206 (by decide), ll_all 207 (by decide), ll_all 208 (by decide), ll_all 209 (by decide), ll_all 210 (by decide), ll_all 211 (by decide), ll_all 212 (by decide), ll_all 213 (by decide), ll_all 214 (by decide), ll_all 215 (by decide), ll_all 216 (by decide), ll_all 217 (by decide), ll_all 218 (by decide), ll_all 219 (by decide), ll_all 220 (by decide)⟩
theorem lr_s (b : Bool) : zR b 0 0 = 2 ∧ zR b 0 1 = 9 ∧ zR b 0 2 = 19 ∧ zR b 0 3 = 24 ∧ zR b 0 4 = 176 ∧ zR b 0 5 = 187 ∧ zR b 0 6 = 190 ∧ zR b 0 7 = 192 ∧ zR b 0 8 = 194 ∧ zR b 0 9 = 200 ∧ zR b 1 6 = 3 ∧ zR b 1 7 = 4 ∧ zR b 1 8 = 5 ∧ zR b 1 9 = 6 ∧ zR b 1 10 = 7 ∧ zR b 1 11 = 8 ∧ zR b 8 0 = 10 ∧ zR b 8 1 = 12 ∧ zR b 9 0 = 11 ∧ zR b 11 6 = 13 ∧ zR b 11 7 = 14 ∧ zR b 11 8 = 15 ∧ zR b 11 9 = 16 ∧ zR b 11 10 = 17 ∧ zR b 11 11 = 18 ∧ zR b 23 2 = 25 ∧ zR b 175 8 = 177 ∧ zR b 175 9 = 182 ∧ zR b 189 0 = 191 ∧ zR b 191 0 = 193 ∧ zR b 193 0 = 195 ∧ zR b 199 0 = 201 ∧ zR b 205 0 = 207 ∧ zR b 205 1 = 208 ∧ zR b 205 14 = 209 ∧ zR b 205 15 = 210 ∧ zR b 205 16 = 211 ∧ zR b 205 17 = 212 ∧ zR b 205 18 = 213 ∧ zR b 205 19 = 214 ∧ zR b 205 20 = 215 ∧ zR b 205 27 = 216 ∧ zR b 205 28 = 217 ∧ zR b 205 29 = 218 ∧ zR b 205 30 = 219 ∧ zR b 205 31 = 220 ∧ zR b 205 33 = 221 := by
  have h := lr_0
  simpa [zR] using h
theorem lr_b : zR false 186 5 = 188 ∧ zR false 186 6 = 189 ∧ zR true 186 5 = 189 ∧ zR true 186 6 = 188 := by
  obtain ⟨h1, h2⟩ := zq_spec.2.1.2.2.2.2.1
  simp [zR, h1, h2]
theorem lr_ring (b : Bool) : ∀ i, i < 30 → zR b 24 i = 25 + 5 * i + 1 := by
  intro i hi
  simp [zR, zq_spec.2.1.2.2.2.1 i hi]
def zKl : List Nat := [9, 8, 21, 21, 21, 21, 21, 21, 4, 5, 21, 8, 21, 21, 21, 21, 21, 21, 7, 21, 21, 21, 21, 3, 23, 7, 21, 21, 21, 21, 7, 21, 21, 21, 21, 7, 21, 21, 21, 21, 7, 21, 21, 21, 21, 7, 21, 21, 21, 21, 7, 21, 21, 21, 21, 7, 21, 21, 21, 21, 7, 21, 21, 21, 21, 7, 21, 21, 21, 21, 7, 21, 21, 21, 21, 7, 21, 21, 21, 21, 7, 21, 21, 21, 21, 7, 21, 21, 21, 21, 7, 21, 21, 21, 21, 7, 21, 21, 21, 21, 7, 21, 21, 21, 21, 7, 21, 21, 21, 21, 7, 21, 21, 21, 21, 7, 21, 21, 21, 21, 7, 21, 21, 21, 21, 7, 21, 21, 21, 21, 7, 21, 21, 21, 21, 7, 21, 21, 21, 21, 7, 21, 21, 21, 21, 7, 21, 21, 21, 21, 7, 21, 21, 21, 21, 7, 21, 21, 21, 21, 7, 21, 21, 21, 21, 7, 21, 21, 21, 21, 7, 21, 21, 21, 21, 6, 7, 21, 21, 21, 21, 7, 21, 21, 21, 21, 1, 21, 21, 5, 21, 5, 21, 2, 7, 21, 21, 21, 21, 2, 7, 21, 21, 21, 21, 10, 21, 22, 21, 21, 21, 21, 21, 21, 21, 21, 21, 21, 21, 21, 21]
def zLl : List Nat := [0, 0, 12, 4, 4, 4, 4, 4, 0, 0, 250, 0, 12, 4, 4, 4, 4, 4, 0, 4, 4, 4, 4, 0, 30, 0, 4, 4, 4, 4, 0, 4, 4, 4, 4, 0, 4, 4, 4, 4, 0, 4, 4, 4, 4, 0, 4, 4, 4, 4, 0, 4, 4, 4, 4, 0, 4, 4, 4, 4, 0, 4, 4, 4, 4, 0, 4, 4, 4, 4, 0, 4, 4, 4, 4, 0, 4, 4, 4, 4, 0, 4, 4, 4, 4, 0, 4, 4, 4, 4, 0, 4, 4, 4, 4, 0, 4, 4, 4, 4, 0, 4, 4, 4, 4, 0, 4, 4, 4, 4, 0, 4, 4, 4, 4, 0, 4, 4, 4, 4, 0, 4, 4, 4, 4, 0, 4, 4, 4, 4, 0, 4, 4, 4, 4, 0, 4, 4, 4, 4, 0, 4, 4, 4, 4, 0, 4, 4, 4, 4, 0, 4, 4, 4, 4, 0, 4, 4, 4, 4, 0, 4, 4, 4, 4, 0, 4, 4, 4, 4, 0, 4, 4, 4, 4, 0, 0, 4, 4, 4, 4, 0, 4, 4, 4, 4, 0, 122, 122, 0, 8, 0, 20, 0, 0, 4, 4, 4, 4, 0, 0, 4, 4, 4, 4, 0, 952, 2, 24, 8, 8, 8, 8, 8, 250, 1204, 1204, 1204, 1204, 8, 20]
theorem lw_1 : ∀ a ∈ wl, (zKl.getD a 0 = 7 ∧ zKl.getD (a + 1) 0 = 21 ∧ zKl.getD (a + 2) 0 = 21 ∧ zKl.getD (a + 3) 0 = 21 ∧ zKl.getD (a + 4) 0 = 21) ∧ (zLl.getD (a + 1) 0 = 4 ∧ zLl.getD (a + 2) 0 = 4 ∧ zLl.getD (a + 3) 0 = 4 ∧ zLl.getD (a + 4) 0 = 4) ∧ a ≠ 186 ∧ a + 4 < 205 ∧ 18 ≤ a := by decide +kernel
/-- what is known of a Work's cells -/
def isW (a : Nat) : Prop := zK a = 7 ∧ zK (a + 1) = 21 ∧ zK (a + 2) = 21 ∧ zK (a + 3) = 21 ∧ zK (a + 4) = 21 ∧ zL (a + 1) = 4 ∧ zL (a + 2) = 4 ∧ zL (a + 3) = 4 ∧ zL (a + 4) = 4 ∧ (∀ b, zR b a 9 = a + 1 + 1) ∧ (∀ b, zR b a 10 = a + 2 + 1) ∧ (∀ b, zR b a 11 = a + 3 + 1) ∧ (∀ b, zR b a 12 = a + 4 + 1) ∧ 18 ≤ a ∧ a + 4 < 205 ∧ a ≠ 186
theorem isW_of {a : Nat} (ha : a ∈ wl) : isW a := by
  obtain ⟨h1, h2, h3, h4, h5⟩ := lw_1 a ha
  obtain ⟨g1, g2, g3, g4⟩ := zq_spec.2.1.2.2.2.2.2 a ha
  obtain ⟨e0, e1, e2, e3, e4⟩ := h1
  obtain ⟨f1, f2, f3, f4⟩ := h2
  refine ⟨(lk_all a (by omega)).trans e0, (lk_all (a + 1) (by omega)).trans e1, (lk_all (a + 2) (by omega)).trans e2, (lk_all (a + 3) (by omega)).trans e3, (lk_all (a + 4) (by omega)).trans e4, (ll_all (a + 1) (by omega)).trans f1, (ll_all (a + 2) (by omega)).trans f2, (ll_all (a + 3) (by omega)).trans f3, (ll_all (a + 4) (by omega)).trans f4, fun b => ?_, fun b => ?_, fun b => ?_, fun b => ?_, h5, h4, h3⟩
  all_goals simp [zR, h3, g1, g2, g3, g4]
theorem mk_I (h : Nat → Nat → Int32) (b : Bool) : ps_I (mk h b) = h := rfl
theorem mk_R (h : Nat → Nat → Int32) (b : Bool) : ps_R (mk h b) = zR b := rfl
theorem mk_K (h : Nat → Nat → Int32) (b : Bool) : ps_K (mk h b) = zK := rfl
theorem mk_L (h : Nat → Nat → Int32) (b : Bool) : ps_L (mk h b) = zL := rfl
theorem mk_sI (h : Nat → Nat → Int32) (b : Bool) (a k : Nat) (v : Int32) : ps_sI (mk h b) a k v = mk (ps_uI h a k v) b := rfl
theorem ini_z : Ini z0 := zq_spec.2.2
theorem zk_0 : zK 0 = 9 := lk_all 0 (by decide)
theorem zk_1 : zK 1 = 8 := lk_all 1 (by decide)
theorem zk_2 : zK 2 = 21 := lk_all 2 (by decide)
theorem zk_3 : zK 3 = 21 := lk_all 3 (by decide)
theorem zk_4 : zK 4 = 21 := lk_all 4 (by decide)
theorem zk_5 : zK 5 = 21 := lk_all 5 (by decide)
theorem zk_6 : zK 6 = 21 := lk_all 6 (by decide)
theorem zk_7 : zK 7 = 21 := lk_all 7 (by decide)
theorem zk_8 : zK 8 = 4 := lk_all 8 (by decide)
theorem zk_9 : zK 9 = 5 := lk_all 9 (by decide)
theorem zk_10 : zK 10 = 21 := lk_all 10 (by decide)
theorem zk_11 : zK 11 = 8 := lk_all 11 (by decide)
theorem zk_12 : zK 12 = 21 := lk_all 12 (by decide)
theorem zk_13 : zK 13 = 21 := lk_all 13 (by decide)
theorem zk_14 : zK 14 = 21 := lk_all 14 (by decide)
theorem zk_15 : zK 15 = 21 := lk_all 15 (by decide)
theorem zk_16 : zK 16 = 21 := lk_all 16 (by decide)
theorem zk_17 : zK 17 = 21 := lk_all 17 (by decide)
theorem zk_23 : zK 23 = 3 := lk_all 23 (by decide)
theorem zk_24 : zK 24 = 23 := lk_all 24 (by decide)
theorem zk_175 : zK 175 = 6 := lk_all 175 (by decide)
theorem zk_186 : zK 186 = 1 := lk_all 186 (by decide)
theorem zk_187 : zK 187 = 21 := lk_all 187 (by decide)
theorem zk_188 : zK 188 = 21 := lk_all 188 (by decide)
theorem zk_189 : zK 189 = 5 := lk_all 189 (by decide)
theorem zk_190 : zK 190 = 21 := lk_all 190 (by decide)
theorem zk_191 : zK 191 = 5 := lk_all 191 (by decide)
theorem zk_192 : zK 192 = 21 := lk_all 192 (by decide)
theorem zk_193 : zK 193 = 2 := lk_all 193 (by decide)
theorem zk_199 : zK 199 = 2 := lk_all 199 (by decide)
theorem zk_205 : zK 205 = 10 := lk_all 205 (by decide)
theorem zk_206 : zK 206 = 21 := lk_all 206 (by decide)
theorem zk_207 : zK 207 = 22 := lk_all 207 (by decide)
theorem zk_208 : zK 208 = 21 := lk_all 208 (by decide)
theorem zk_209 : zK 209 = 21 := lk_all 209 (by decide)
theorem zk_210 : zK 210 = 21 := lk_all 210 (by decide)
theorem zk_211 : zK 211 = 21 := lk_all 211 (by decide)
theorem zk_212 : zK 212 = 21 := lk_all 212 (by decide)
theorem zk_213 : zK 213 = 21 := lk_all 213 (by decide)
theorem zk_214 : zK 214 = 21 := lk_all 214 (by decide)
theorem zk_215 : zK 215 = 21 := lk_all 215 (by decide)
theorem zk_216 : zK 216 = 21 := lk_all 216 (by decide)
theorem zk_217 : zK 217 = 21 := lk_all 217 (by decide)
theorem zk_218 : zK 218 = 21 := lk_all 218 (by decide)
theorem zk_219 : zK 219 = 21 := lk_all 219 (by decide)
theorem zk_220 : zK 220 = 21 := lk_all 220 (by decide)
theorem zl_2 : zL 2 = 12 := ll_all 2 (by decide)
theorem zl_3 : zL 3 = 4 := ll_all 3 (by decide)
theorem zl_4 : zL 4 = 4 := ll_all 4 (by decide)
theorem zl_5 : zL 5 = 4 := ll_all 5 (by decide)
theorem zl_6 : zL 6 = 4 := ll_all 6 (by decide)
theorem zl_7 : zL 7 = 4 := ll_all 7 (by decide)
theorem zl_10 : zL 10 = 250 := ll_all 10 (by decide)
theorem zl_12 : zL 12 = 12 := ll_all 12 (by decide)
theorem zl_13 : zL 13 = 4 := ll_all 13 (by decide)
theorem zl_14 : zL 14 = 4 := ll_all 14 (by decide)
theorem zl_15 : zL 15 = 4 := ll_all 15 (by decide)
theorem zl_16 : zL 16 = 4 := ll_all 16 (by decide)
theorem zl_17 : zL 17 = 4 := ll_all 17 (by decide)
theorem zl_24 : zL 24 = 30 := ll_all 24 (by decide)
theorem zl_187 : zL 187 = 122 := ll_all 187 (by decide)
theorem zl_188 : zL 188 = 122 := ll_all 188 (by decide)
theorem zl_190 : zL 190 = 8 := ll_all 190 (by decide)
theorem zl_192 : zL 192 = 20 := ll_all 192 (by decide)
theorem zl_206 : zL 206 = 952 := ll_all 206 (by decide)
theorem zl_207 : zL 207 = 2 := ll_all 207 (by decide)
theorem zl_208 : zL 208 = 24 := ll_all 208 (by decide)
theorem zl_209 : zL 209 = 8 := ll_all 209 (by decide)
theorem zl_210 : zL 210 = 8 := ll_all 210 (by decide)
theorem zl_211 : zL 211 = 8 := ll_all 211 (by decide)
theorem zl_212 : zL 212 = 8 := ll_all 212 (by decide)
theorem zl_213 : zL 213 = 8 := ll_all 213 (by decide)
theorem zl_214 : zL 214 = 250 := ll_all 214 (by decide)
theorem zl_215 : zL 215 = 1204 := ll_all 215 (by decide)
theorem zl_216 : zL 216 = 1204 := ll_all 216 (by decide)
theorem zl_217 : zL 217 = 1204 := ll_all 217 (by decide)
theorem zl_218 : zL 218 = 1204 := ll_all 218 (by decide)
theorem zl_219 : zL 219 = 8 := ll_all 219 (by decide)
theorem zl_220 : zL 220 = 20 := ll_all 220 (by decide)
theorem zr_0_0 (b : Bool) : zR b 0 0 = 1 + 1 := by
  obtain ⟨h0, h1, h2, h3, h4, h5, h6, h7, h8, h9, h10, h11, h12, h13, h14, h15, h16, h17, h18, h19, h20, h21, h22, h23, h24, h25, h26, h27, h28, h29, h30, h31, h32, h33, h34, h35, h36, h37, h38, h39, h40, h41, h42, h43, h44, h45, h46⟩ := lr_s b
  exact h0
theorem zr_0_1 (b : Bool) : zR b 0 1 = 8 + 1 := by
  obtain ⟨h0, h1, h2, h3, h4, h5, h6, h7, h8, h9, h10, h11, h12, h13, h14, h15, h16, h17, h18, h19, h20, h21, h22, h23, h24, h25, h26, h27, h28, h29, h30, h31, h32, h33, h34, h35, h36, h37, h38, h39, h40, h41, h42, h43, h44, h45, h46⟩ := lr_s b
  exact h1
theorem zr_0_2 (b : Bool) : zR b 0 2 = 18 + 1 := by
  obtain ⟨h0, h1, h2, h3, h4, h5, h6, h7, h8, h9, h10, h11, h12, h13, h14, h15, h16, h17, h18, h19, h20, h21, h22, h23, h24, h25, h26, h27, h28, h29, h30, h31, h32, h33, h34, h35, h36, h37, h38, h39, h40, h41, h42, h43, h44, h45, h46⟩ := lr_s b
  exact h2
theorem zr_0_3 (b : Bool) : zR b 0 3 = 23 + 1 := by
  obtain ⟨h0, h1, h2, h3, h4, h5, h6, h7, h8, h9, h10, h11, h12, h13, h14, h15, h16, h17, h18, h19, h20, h21, h22, h23, h24, h25, h26, h27, h28, h29, h30, h31, h32, h33, h34, h35, h36, h37, h38, h39, h40, h41, h42, h43, h44, h45, h46⟩ := lr_s b
  exact h3
theorem zr_0_4 (b : Bool) : zR b 0 4 = 175 + 1 := by
  obtain ⟨h0, h1, h2, h3, h4, h5, h6, h7, h8, h9, h10, h11, h12, h13, h14, h15, h16, h17, h18, h19, h20, h21, h22, h23, h24, h25, h26, h27, h28, h29, h30, h31, h32, h33, h34, h35, h36, h37, h38, h39, h40, h41, h42, h43, h44, h45, h46⟩ := lr_s b
  exact h4
theorem zr_0_5 (b : Bool) : zR b 0 5 = 186 + 1 := by
  obtain ⟨h0, h1, h2, h3, h4, h5, h6, h7, h8, h9, h10, h11, h12, h13, h14, h15, h16, h17, h18, h19, h20, h21, h22, h23, h24, h25, h26, h27, h28, h29, h30, h31, h32, h33, h34, h35, h36, h37, h38, h39, h40, h41, h42, h43, h44, h45, h46⟩ := lr_s b
  exact h5
theorem zr_0_6 (b : Bool) : zR b 0 6 = 189 + 1 := by
  obtain ⟨h0, h1, h2, h3, h4, h5, h6, h7, h8, h9, h10, h11, h12, h13, h14, h15, h16, h17, h18, h19, h20, h21, h22, h23, h24, h25, h26, h27, h28, h29, h30, h31, h32, h33, h34, h35, h36, h37, h38, h39, h40, h41, h42, h43, h44, h45, h46⟩ := lr_s b
  exact h6
theorem zr_0_7 (b : Bool) : zR b 0 7 = 191 + 1 := by
  obtain ⟨h0, h1, h2, h3, h4, h5, h6, h7, h8, h9, h10, h11, h12, h13, h14, h15, h16, h17, h18, h19, h20, h21, h22, h23, h24, h25, h26, h27, h28, h29, h30, h31, h32, h33, h34, h35, h36, h37, h38, h39, h40, h41, h42, h43, h44, h45, h46⟩ := lr_s b
  exact h7
theorem zr_0_8 (b : Bool) : zR b 0 8 = 193 + 1 := by
  obtain ⟨h0, h1, h2, h3, h4, h5, h6, h7, h8, h9, h10, h11, h12, h13, h14, h15, h16, h17, h18, h19, h20, h21, h22, h23, h24, h25, h26, h27, h28, h29, h30, h31, h32, h33, h34, h35, h36, h37, h38, h39, h40, h41, h42, h43, h44, h45, h46⟩ := lr_s b
  exact h8
theorem zr_0_9 (b : Bool) : zR b 0 9 = 199 + 1 := by
  obtain ⟨h0, h1, h2, h3, h4, h5, h6, h7, h8, h9, h10, h11, h12, h13, h14, h15, h16, h17, h18, h19, h20, h21, h22, h23, h24, h25, h26, h27, h28, h29, h30, h31, h32, h33, h34, h35, h36, h37, h38, h39, h40, h41, h42, h43, h44, h45, h46⟩ := lr_s b
  exact h9
theorem zr_1_6 (b : Bool) : zR b 1 6 = 2 + 1 := by
  obtain ⟨h0, h1, h2, h3, h4, h5, h6, h7, h8, h9, h10, h11, h12, h13, h14, h15, h16, h17, h18, h19, h20, h21, h22, h23, h24, h25, h26, h27, h28, h29, h30, h31, h32, h33, h34, h35, h36, h37, h38, h39, h40, h41, h42, h43, h44, h45, h46⟩ := lr_s b
  exact h10
theorem zr_1_7 (b : Bool) : zR b 1 7 = 3 + 1 := by
  obtain ⟨h0, h1, h2, h3, h4, h5, h6, h7, h8, h9, h10, h11, h12, h13, h14, h15, h16, h17, h18, h19, h20, h21, h22, h23, h24, h25, h26, h27, h28, h29, h30, h31, h32, h33, h34, h35, h36, h37, h38, h39, h40, h41, h42, h43, h44, h45, h46⟩ := lr_s b
  exact h11
theorem zr_1_8 (b : Bool) : zR b 1 8 = 4 + 1 := by
  obtain ⟨h0, h1, h2, h3, h4, h5, h6, h7, h8, h9, h10, h11, h12, h13, h14, h15, h16, h17, h18, h19, h20, h21, h22, h23, h24, h25, h26, h27, h28, h29, h30, h31, h32, h33, h34, h35, h36, h37, h38, h39, h40, h41, h42, h43, h44, h45, h46⟩ := lr_s b
  exact h12
theorem zr_1_9 (b : Bool) : zR b 1 9 = 5 + 1 := by
  obtain ⟨h0, h1, h2, h3, h4, h5, h6, h7, h8, h9, h10, h11, h12, h13, h14, h15, h16, h17, h18, h19, h20, h21, h22, h23, h24, h25, h26, h27, h28, h29, h30, h31, h32, h33, h34, h35, h36, h37, h38, h39, h40, h41, h42, h43, h44, h45, h46⟩ := lr_s b
  exact h13
theorem zr_1_10 (b : Bool) : zR b 1 10 = 6 + 1 := by
  obtain ⟨h0, h1, h2, h3, h4, h5, h6, h7, h8, h9, h10, h11, h12, h13, h14, h15, h16, h17, h18, h19, h20, h21, h22, h23, h24, h25, h26, h27, h28, h29, h30, h31, h32, h33, h34, h35, h36, h37, h38, h39, h40, h41, h42, h43, h44, h45, h46⟩ := lr_s b
  exact h14
theorem zr_1_11 (b : Bool) : zR b 1 11 = 7 + 1 := by
  obtain ⟨h0, h1, h2, h3, h4, h5, h6, h7, h8, h9, h10, h11, h12, h13, h14, h15, h16, h17, h18, h19, h20, h21, h22, h23, h24, h25, h26, h27, h28, h29, h30, h31, h32, h33, h34, h35, h36, h37, h38, h39, h40, h41, h42, h43, h44, h45, h46⟩ := lr_s b
  exact h15
theorem zr_8_0 (b : Bool) : zR b 8 0 = 9 + 1 := by
  obtain ⟨h0, h1, h2, h3, h4, h5, h6, h7, h8, h9, h10, h11, h12, h13, h14, h15, h16, h17, h18, h19, h20, h21, h22, h23, h24, h25, h26, h27, h28, h29, h30, h31, h32, h33, h34, h35, h36, h37, h38, h39, h40, h41, h42, h43, h44, h45, h46⟩ := lr_s b
  exact h16
theorem zr_8_1 (b : Bool) : zR b 8 1 = 11 + 1 := by
  obtain ⟨h0, h1, h2, h3, h4, h5, h6, h7, h8, h9, h10, h11, h12, h13, h14, h15, h16, h17, h18, h19, h20, h21, h22, h23, h24, h25, h26, h27, h28, h29, h30, h31, h32, h33, h34, h35, h36, h37, h38, h39, h40, h41, h42, h43, h44, h45, h46⟩ := lr_s b
  exact h17
theorem zr_9_0 (b : Bool) : zR b 9 0 = 10 + 1 := by
  obtain ⟨h0, h1, h2, h3, h4, h5, h6, h7, h8, h9, h10, h11, h12, h13, h14, h15, h16, h17, h18, h19, h20, h21, h22, h23, h24, h25, h26, h27, h28, h29, h30, h31, h32, h33, h34, h35, h36, h37, h38, h39, h40, h41, h42, h43, h44, h45, h46⟩ := lr_s b
  exact h18
theorem zr_11_6 (b : Bool) : zR b 11 6 = 12 + 1 := by
  obtain ⟨h0, h1, h2, h3, h4, h5, h6, h7, h8, h9, h10, h11, h12, h13, h14, h15, h16, h17, h18, h19, h20, h21, h22, h23, h24, h25, h26, h27, h28, h29, h30, h31, h32, h33, h34, h35, h36, h37, h38, h39, h40, h41, h42, h43, h44, h45, h46⟩ := lr_s b
  exact h19
theorem zr_11_7 (b : Bool) : zR b 11 7 = 13 + 1 := by
  obtain ⟨h0, h1, h2, h3, h4, h5, h6, h7, h8, h9, h10, h11, h12, h13, h14, h15, h16, h17, h18, h19, h20, h21, h22, h23, h24, h25, h26, h27, h28, h29, h30, h31, h32, h33, h34, h35, h36, h37, h38, h39, h40, h41, h42, h43, h44, h45, h46⟩ := lr_s b
  exact h20
theorem zr_11_8 (b : Bool) : zR b 11 8 = 14 + 1 := by
  obtain ⟨h0, h1, h2, h3, h4, h5, h6, h7, h8, h9, h10, h11, h12, h13, h14, h15, h16, h17, h18, h19, h20, h21, h22, h23, h24, h25, h26, h27, h28, h29, h30, h31, h32, h33, h34, h35, h36, h37, h38, h39, h40, h41, h42, h43, h44, h45, h46⟩ := lr_s b
  exact h21
theorem zr_11_9 (b : Bool) : zR b 11 9 = 15 + 1 := by
  obtain ⟨h0, h1, h2, h3, h4, h5, h6, h7, h8, h9, h10, h11, h12, h13, h14, h15, h16, h17, h18, h19, h20, h21, h22, h23, h24, h25, h26, h27, h28, h29, h30, h31, h32, h33, h34, h35, h36, h37, h38, h39, h40, h41, h42, h43, h44, h45, h46⟩ := lr_s b
  exact h22
theorem zr_11_10 (b : Bool) : zR b 11 10 = 16 + 1 := by
  obtain ⟨h0, h1, h2, h3, h4, h5, h6, h7, h8, h9, h10, h11, h12, h13, h14, h15, h16, h17, h18, h19, h20, h21, h22, h23, h24, h25, h26, h27, h28, h29, h30, h31, h32, h33, h34, h35, h36, h37, h38, h39, h40, h41, h42, h43, h44, h45, h46⟩ := lr_s b
  exact h23
theorem zr_11_11 (b : Bool) : zR b 11 11 = 17 + 1 := by
  obtain ⟨h0, h1, h2, h3, h4, h5, h6, h7, h8, h9, h10, h11, h12, h13, h14, h15, h16, h17, h18, h19, h20, h21, h22, h23, h24, h25, h26, h27, h28, h29, h30, h31, h32, h33, h34, h35, h36, h37, h38, h39, h40, h41, h42, h43, h44, h45, h46⟩ := lr_s b
  exact h24
theorem zr_23_2 (b : Bool) : zR b 23 2 = 24 + 1 := by
  obtain ⟨h0, h1, h2, h3, h4, h5, h6, h7, h8, h9, h10, h11, h12, h13, h14, h15, h16, h17, h18, h19, h20, h21, h22, h23, h24, h25, h26, h27, h28, h29, h30, h31, h32, h33, h34, h35, h36, h37, h38, h39, h40, h41, h42, h43, h44, h45, h46⟩ := lr_s b
  exact h25
theorem zr_175_8 (b : Bool) : zR b 175 8 = 176 + 1 := by
  obtain ⟨h0, h1, h2, h3, h4, h5, h6, h7, h8, h9, h10, h11, h12, h13, h14, h15, h16, h17, h18, h19, h20, h21, h22, h23, h24, h25, h26, h27, h28, h29, h30, h31, h32, h33, h34, h35, h36, h37, h38, h39, h40, h41, h42, h43, h44, h45, h46⟩ := lr_s b
  exact h26
theorem zr_175_9 (b : Bool) : zR b 175 9 = 181 + 1 := by
  obtain ⟨h0, h1, h2, h3, h4, h5, h6, h7, h8, h9, h10, h11, h12, h13, h14, h15, h16, h17, h18, h19, h20, h21, h22, h23, h24, h25, h26, h27, h28, h29, h30, h31, h32, h33, h34, h35, h36, h37, h38, h39, h40, h41, h42, h43, h44, h45, h46⟩ := lr_s b
  exact h27
theorem zr_189_0 (b : Bool) : zR b 189 0 = 190 + 1 := by
  obtain ⟨h0, h1, h2, h3, h4, h5, h6, h7, h8, h9, h10, h11, h12, h13, h14, h15, h16, h17, h18, h19, h20, h21, h22, h23, h24, h25, h26, h27, h28, h29, h30, h31, h32, h33, h34, h35, h36, h37, h38, h39, h40, h41, h42, h43, h44, h45, h46⟩ := lr_s b
  exact h28
theorem zr_191_0 (b : Bool) : zR b 191 0 = 192 + 1 := by
  obtain ⟨h0, h1, h2, h3, h4, h5, h6, h7, h8, h9, h10, h11, h12, h13, h14, h15, h16, h17, h18, h19, h20, h21, h22, h23, h24, h25, h26, h27, h28, h29, h30, h31, h32, h33, h34, h35, h36, h37, h38, h39, h40, h41, h42, h43, h44, h45, h46⟩ := lr_s b
  exact h29
theorem zr_193_0 (b : Bool) : zR b 193 0 = 194 + 1 := by
  obtain ⟨h0, h1, h2, h3, h4, h5, h6, h7, h8, h9, h10, h11, h12, h13, h14, h15, h16, h17, h18, h19, h20, h21, h22, h23, h24, h25, h26, h27, h28, h29, h30, h31, h32, h33, h34, h35, h36, h37, h38, h39, h40, h41, h42, h43, h44, h45, h46⟩ := lr_s b
  exact h30
theorem zr_199_0 (b : Bool) : zR b 199 0 = 200 + 1 := by
  obtain ⟨h0, h1, h2, h3, h4, h5, h6, h7, h8, h9, h10, h11, h12, h13, h14, h15, h16, h17, h18, h19, h20, h21, h22, h23, h24, h25, h26, h27, h28, h29, h30, h31, h32, h33, h34, h35, h36, h37, h38, h39, h40, h41, h42, h43, h44, h45, h46⟩ := lr_s b
  exact h31
theorem zr_205_0 (b : Bool) : zR b 205 0 = 206 + 1 := by
  obtain ⟨h0, h1, h2, h3, h4, h5, h6, h7, h8, h9, h10, h11, h12, h13, h14, h15, h16, h17, h18, h19, h20, h21, h22, h23, h24, h25, h26, h27, h28, h29, h30, h31, h32, h33, h34, h35, h36, h37, h38, h39, h40, h41, h42, h43, h44, h45, h46⟩ := lr_s b
  exact h32
theorem zr_205_1 (b : Bool) : zR b 205 1 = 207 + 1 := by
  obtain ⟨h0, h1, h2, h3, h4, h5, h6, h7, h8, h9, h10, h11, h12, h13, h14, h15, h16, h17, h18, h19, h20, h21, h22, h23, h24, h25, h26, h27, h28, h29, h30, h31, h32, h33, h34, h35, h36, h37, h38, h39, h40, h41, h42, h43, h44, h45, h46⟩ := lr_s b
  exact h33
theorem zr_205_14 (b : Bool) : zR b 205 14 = 208 + 1 := by
  obtain ⟨h0, h1, h2, h3, h4, h5, h6, h7, h8, h9, h10, h11, h12, h13, h14, h15, h16, h17, h18, h19, h20, h21, h22, h23, h24, h25, h26, h27, h28, h29, h30, h31, h32, h33, h34, h35, h36, h37, h38, h39, h40, h41, h42, h43, h44, h45, h46⟩ := lr_s b
  exact h34
theorem zr_205_15 (b : Bool) : zR b 205 15 = 209 + 1 := by
  obtain ⟨h0, h1, h2, h3, h4, h5, h6, h7, h8, h9, h10, h11, h12, h13, h14, h15, h16, h17, h18, h19, h20, h21, h22, h23, h24, h25, h26, h27, h28, h29, h30, h31, h32, h33, h34, h35, h36, h37, h38, h39, h40, h41, h42, h43, h44, h45, h46⟩ := lr_s b
  exact h35
theorem zr_205_16 (b : Bool) : zR b 205 16 = 210 + 1 := by
  obtain ⟨h0, h1, h2, h3, h4, h5, h6, h7, h8, h9, h10, h11, h12, h13, h14, h15, h16, h17, h18, h19, h20, h21, h22, h23, h24, h25, h26, h27, h28, h29, h30, h31, h32, h33, h34, h35, h36, h37, h38, h39, h40, h41, h42, h43, h44, h45, h46⟩ := lr_s b
  exact h36
theorem zr_205_17 (b : Bool) : zR b 205 17 = 211 + 1 := by
  obtain ⟨h0, h1, h2, h3, h4, h5, h6, h7, h8, h9, h10, h11, h12, h13, h14, h15, h16, h17, h18, h19, h20, h21, h22, h23, h24, h25, h26, h27, h28, h29, h30, h31, h32, h33, h34, h35, h36, h37, h38, h39, h40, h41, h42, h43, h44, h45, h46⟩ := lr_s b
  exact h37
theorem zr_205_18 (b : Bool) : zR b 205 18 = 212 + 1 := by
  obtain ⟨h0, h1, h2, h3, h4, h5, h6, h7, h8, h9, h10, h11, h12, h13, h14, h15, h16, h17, h18, h19, h20, h21, h22, h23, h24, h25, h26, h27, h28, h29, h30, h31, h32, h33, h34, h35, h36, h37, h38, h39, h40, h41, h42, h43, h44, h45, h46⟩ := lr_s b
  exact h38
theorem zr_205_19 (b : Bool) : zR b 205 19 = 213 + 1 := by
  obtain ⟨h0, h1, h2, h3, h4, h5, h6, h7, h8, h9, h10, h11, h12, h13, h14, h15, h16, h17, h18, h19, h20, h21, h22, h23, h24, h25, h26, h27, h28, h29, h30, h31, h32, h33, h34, h35, h36, h37, h38, h39, h40, h41, h42, h43, h44, h45, h46⟩ := lr_s b
  exact h39
theorem zr_205_20 (b : Bool) : zR b 205 20 = 214 + 1 := by
  obtain ⟨h0, h1, h2, h3, h4, h5, h6, h7, h8, h9, h10, h11, h12, h13, h14, h15, h16, h17, h18, h19, h20, h21, h22, h23, h24, h25, h26, h27, h28, h29, h30, h31, h32, h33, h34, h35, h36, h37, h38, h39, h40, h41, h42, h43, h44, h45, h46⟩ := lr_s b
  exact h40
theorem zr_205_27 (b : Bool) : zR b 205 27 = 215 + 1 := by
  obtain ⟨h0, h1, h2, h3, h4, h5, h6, h7, h8, h9, h10, h11, h12, h13, h14, h15, h16, h17, h18, h19, h20, h21, h22, h23, h24, h25, h26, h27, h28, h29, h30, h31, h32, h33, h34, h35, h36, h37, h38, h39, h40, h41, h42, h43, h44, h45, h46⟩ := lr_s b
  exact h41
theorem zr_205_28 (b : Bool) : zR b 205 28 = 216 + 1 := by
  obtain ⟨h0, h1, h2, h3, h4, h5, h6, h7, h8, h9, h10, h11, h12, h13, h14, h15, h16, h17, h18, h19, h20, h21, h22, h23, h24, h25, h26, h27, h28, h29, h30, h31, h32, h33, h34, h35, h36, h37, h38, h39, h40, h41, h42, h43, h44, h45, h46⟩ := lr_s b
  exact h42
theorem zr_205_29 (b : Bool) : zR b 205 29 = 217 + 1 := by
  obtain ⟨h0, h1, h2, h3, h4, h5, h6, h7, h8, h9, h10, h11, h12, h13, h14, h15, h16, h17, h18, h19, h20, h21, h22, h23, h24, h25, h26, h27, h28, h29, h30, h31, h32, h33, h34, h35, h36, h37, h38, h39, h40, h41, h42, h43, h44, h45, h46⟩ := lr_s b
  exact h43
theorem zr_205_30 (b : Bool) : zR b 205 30 = 218 + 1 := by
  obtain ⟨h0, h1, h2, h3, h4, h5, h6, h7, h8, h9, h10, h11, h12, h13, h14, h15, h16, h17, h18, h19, h20, h21, h22, h23, h24, h25, h26, h27, h28, h29, h30, h31, h32, h33, h34, h35, h36, h37, h38, h39, h40, h41, h42, h43, h44, h45, h46⟩ := lr_s b
  exact h44
theorem zr_205_31 (b : Bool) : zR b 205 31 = 219 + 1 := by
  obtain ⟨h0, h1, h2, h3, h4, h5, h6, h7, h8, h9, h10, h11, h12, h13, h14, h15, h16, h17, h18, h19, h20, h21, h22, h23, h24, h25, h26, h27, h28, h29, h30, h31, h32, h33, h34, h35, h36, h37, h38, h39, h40, h41, h42, h43, h44, h45, h46⟩ := lr_s b
  exact h45
theorem zr_205_33 (b : Bool) : zR b 205 33 = 220 + 1 := by
  obtain ⟨h0, h1, h2, h3, h4, h5, h6, h7, h8, h9, h10, h11, h12, h13, h14, h15, h16, h17, h18, h19, h20, h21, h22, h23, h24, h25, h26, h27, h28, h29, h30, h31, h32, h33, h34, h35, h36, h37, h38, h39, h40, h41, h42, h43, h44, h45, h46⟩ := lr_s b
  exact h46
theorem iw_18 : isW 18 := isW_of (by decide)
theorem iw_176 : isW 176 := isW_of (by decide)
theorem iw_181 : isW 181 := isW_of (by decide)
theorem iw_194 : isW 194 := isW_of (by decide)
theorem iw_200 : isW 200 := isW_of (by decide)
theorem iw_r {i : Nat} (hi : i < 30) : isW (25 + 5 * i) := isW_of (by unfold wl; exact List.mem_cons_of_mem _ (List.mem_cons_of_mem _ (List.mem_cons_of_mem _ (List.mem_cons_of_mem _ (List.mem_cons_of_mem _ (List.mem_map.mpr ⟨i, List.mem_range.mpr hi, rfl⟩))))))
