def ps_M0 : ps_M := (f_law_init.getD (0, 0, ps_Mz)).2.2
def zK : Nat → Nat := ps_K ps_M0
def zL : Nat → Nat := ps_L ps_M0
def zN : Nat := ps_N ps_M0
def zR (b : Bool) : Nat → Nat → Nat := fun x y => if b = true ∧ x = 186 ∧ y = 5 then 189 else if b = true ∧ x = 186 ∧ y = 6 then 188 else ps_R ps_M0 x y
/-- the memory with the ints h; b: whether the two rows of Balance have changed places -/
def mk (h : Nat → Nat → Int32) (b : Bool) : ps_M := (h, zR b, zK, zL, zN)
theorem li_0 : f_law_init.isSome = true := by decide +kernel
theorem li_1 : (f_law_init.getD (7, 7, ps_Mz)).1 = 0 ∧ (f_law_init.getD (7, 7, ps_Mz)).2.1 = 205 := by decide +kernel
theorem pi_init : f_law_init = some (0, 205, ps_M0) := by
  have h := li_0
  have h1 := li_1
  unfold ps_M0
  cases hf : f_law_init with
  | none => rw [hf] at h; cases h
  | some q =>
    rw [hf] at h1
    obtain ⟨a, b, M⟩ := q
    obtain ⟨h2, h3⟩ := h1
    simp at h2 h3
    simp [h2, h3]
theorem lk_all : ∀ i, i < 221 → zK i = ([9, 8, 21, 21, 21, 21, 21, 21, 4, 5, 21, 8, 21, 21, 21, 21, 21, 21, 7, 21, 21, 21, 21, 3, 23, 7, 21, 21, 21, 21, 7, 21, 21, 21, 21, 7, 21, 21, 21, 21, 7, 21, 21, 21, 21, 7, 21, 21, 21, 21, 7, 21, 21, 21, 21, 7, 21, 21, 21, 21, 7, 21, 21, 21, 21, 7, 21, 21, 21, 21, 7, 21, 21, 21, 21, 7, 21, 21, 21, 21, 7, 21, 21, 21, 21, 7, 21, 21, 21, 21, 7, 21, 21, 21, 21, 7, 21, 21, 21, 21, 7, 21, 21, 21, 21, 7, 21, 21, 21, 21, 7, 21, 21, 21, 21, 7, 21, 21, 21, 21, 7, 21, 21, 21, 21, 7, 21, 21, 21, 21, 7, 21, 21, 21, 21, 7, 21, 21, 21, 21, 7, 21, 21, 21, 21, 7, 21, 21, 21, 21, 7, 21, 21, 21, 21, 7, 21, 21, 21, 21, 7, 21, 21, 21, 21, 7, 21, 21, 21, 21, 7, 21, 21, 21, 21, 6, 7, 21, 21, 21, 21, 7, 21, 21, 21, 21, 1, 21, 21, 5, 21, 5, 21, 2, 7, 21, 21, 21, 21, 2, 7, 21, 21, 21, 21, 10, 21, 22, 21, 21, 21, 21, 21, 21, 21, 21, 21, 21, 21, 21, 21] : List Nat).getD i 0 := by decide +kernel
theorem ll_all : ∀ i, i < 221 → zL i = ([0, 0, 12, 4, 4, 4, 4, 4, 0, 0, 250, 0, 12, 4, 4, 4, 4, 4, 0, 4, 4, 4, 4, 0, 30, 0, 4, 4, 4, 4, 0, 4, 4, 4, 4, 0, 4, 4, 4, 4, 0, 4, 4, 4, 4, 0, 4, 4, 4, 4, 0, 4, 4, 4, 4, 0, 4, 4, 4, 4, 0, 4, 4, 4, 4, 0, 4, 4, 4, 4, 0, 4, 4, 4, 4, 0, 4, 4, 4, 4, 0, 4, 4, 4, 4, 0, 4, 4, 4, 4, 0, 4, 4, 4, 4, 0, 4, 4, 4, 4, 0, 4, 4, 4, 4, 0, 4, 4, 4, 4, 0, 4, 4, 4, 4, 0, 4, 4, 4, 4, 0, 4, 4, 4, 4, 0, 4, 4, 4, 4, 0, 4, 4, 4, 4, 0, 4, 4, 4, 4, 0, 4, 4, 4, 4, 0, 4, 4, 4, 4, 0, 4, 4, 4, 4, 0, 4, 4, 4, 4, 0, 4, 4, 4, 4, 0, 4, 4, 4, 4, 0, 4, 4, 4, 4, 0, 0, 4, 4, 4, 4, 0, 4, 4, 4, 4, 0, 122, 122, 0, 8, 0, 20, 0, 0, 4, 4, 4, 4, 0, 0, 4, 4, 4, 4, 0, 952, 2, 24, 8, 8, 8, 8, 8, 250, 1204, 1204, 1204, 1204, 8, 20] : List Nat).getD i 0 := by decide +kernel
theorem lk_s : zK 0 = 9 ∧ zK 1 = 8 ∧ zK 2 = 21 ∧ zK 3 = 21 ∧ zK 4 = 21 ∧ zK 5 = 21 ∧ zK 6 = 21 ∧ zK 7 = 21 ∧ zK 8 = 4 ∧ zK 9 = 5 ∧ zK 10 = 21 ∧ zK 11 = 8 ∧ zK 12 = 21 ∧ zK 13 = 21 ∧ zK 14 = 21 ∧ zK 15 = 21 ∧ zK 16 = 21 ∧ zK 17 = 21 ∧ zK 23 = 3 ∧ zK 24 = 23 ∧ zK 175 = 6 ∧ zK 186 = 1 ∧ zK 187 = 21 ∧ zK 188 = 21 ∧ zK 189 = 5 ∧ zK 190 = 21 ∧ zK 191 = 5 ∧ zK 192 = 21 ∧ zK 193 = 2 ∧ zK 199 = 2 ∧ zK 205 = 10 ∧ zK 206 = 21 ∧ zK 207 = 22 ∧ zK 208 = 21 ∧ zK 209 = 21 ∧ zK 210 = 21 ∧ zK 211 = 21 ∧ zK 212 = 21 ∧ zK 213 = 21 ∧ zK 214 = 21 ∧ zK 215 = 21 ∧ zK 216 = 21 ∧ zK 217 = 21 ∧ zK 218 = 21 ∧ zK 219 = 21 ∧ zK 220 = 21 := by
  refine ⟨lk_all 0 (by decide), lk_all 1 (by decide), lk_all 2 (by decide), lk_all 3 (by decide), lk_all 4 (by decide), lk_all 5 (by decide), lk_all 6 (by decide), lk_all 7 (by decide), lk_all 8 (by decide), lk_all 9 (by decide), lk_all 10 (by decide), lk_all 11 (by decide), lk_all 12 (by decide), lk_all 13 (by decide), lk_all 14 (by decide), lk_all 15 (by decide), lk_all 16 (by decide), lk_all 17 (by decide), lk_all 23 (by decide), lk_all 24 (by decide), lk_all 175 (by decide), lk_all 186 (by decide), lk_all 187 (by decide), lk_all 188 (by decide), lk_all 189 (by decide), lk_all 190 (by decide), lk_all 191 (by decide), lk_all 192 (by decide), lk_all 193 (by decide), lk_all 199 (by decide), lk_all 205 (by decide), lk_all 206 (by decide), lk_all 207 (by decide), lk_all 208 (by decide), lk_all 209 (by decide), lk_all 210 (by decide), lk_all 211 (by decide), lk_all 212 (by decide), lk_all 213 (by decide), lk_all 214 (by decide), lk_all 215 (by decide), lk_all 216 (by decide), lk_all 217 (by decide), lk_all 218 (by decide), lk_all 219 (by decide), lk_all 220 (by decide)⟩
theorem ll_s : zL 2 = 12 ∧ zL 3 = 4 ∧ zL 4 = 4 ∧ zL 5 = 4 ∧ zL 6 = 4 ∧ zL 7 = 4 ∧ zL 10 = 250 ∧ zL 12 = 12 ∧ zL 13 = 4 ∧ zL 14 = 4 ∧ zL 15 = 4 ∧ zL 16 = 4 ∧ zL 17 = 4 ∧ zL 24 = 30 ∧ zL 187 = 122 ∧ zL 188 = 122 ∧ zL 190 = 8 ∧ zL 192 = 20 ∧ zL 206 = 952 ∧ zL 207 = 2 ∧ zL 208 = 24 ∧ zL 209 = 8 ∧ zL 210 = 8 ∧ zL 211 = 8 ∧ zL 212 = 8 ∧ zL 213 = 8 ∧ zL 214 = 250 ∧ zL 215 = 1204 ∧ zL 216 = 1204 ∧ zL 217 = 1204 ∧ zL 218 = 1204 ∧ zL 219 = 8 ∧ zL 220 = 20 := by
  refine ⟨ll_all 2 (by decide), ll_all 3 (by decide), ll_all 4 (by decide), ll_all 5 (by decide), ll_all 6 (by decide), ll_all 7 (by decide), ll_all 10 (by decide), ll_all 12 (by decide), ll_all 13 (by decide), ll_all 14 (by decide), ll_all 15 (by decide), ll_all 16 (by decide), ll_all 17 (by decide), ll_all 24 (by decide), ll_all 187 (by decide), ll_all 188 (by decide), ll_all 190 (by decide), ll_all 192 (by decide), ll_all 206 (by decide), ll_all 207 (by decide), ll_all 208 (by decide), ll_all 209 (by decide), ll_all 210 (by decide), ll_all 211 (by decide), ll_all 212 (by decide), ll_all 213 (by decide), ll_all 214 (by decide), ll_all 215 (by decide), ll_all 216 (by decide), ll_all 217 (by decide), ll_all 218 (by decide), ll_all 219 (by decide), ll_all 220 (by decide)⟩
theorem lr_0 : ps_R ps_M0 0 0 = 2 ∧ ps_R ps_M0 0 1 = 9 ∧ ps_R ps_M0 0 2 = 19 ∧ ps_R ps_M0 0 3 = 24 ∧ ps_R ps_M0 0 4 = 176 ∧ ps_R ps_M0 0 5 = 187 ∧ ps_R ps_M0 0 6 = 190 ∧ ps_R ps_M0 0 7 = 192 ∧ ps_R ps_M0 0 8 = 194 ∧ ps_R ps_M0 0 9 = 200 ∧ ps_R ps_M0 1 6 = 3 ∧ ps_R ps_M0 1 7 = 4 ∧ ps_R ps_M0 1 8 = 5 ∧ ps_R ps_M0 1 9 = 6 ∧ ps_R ps_M0 1 10 = 7 ∧ ps_R ps_M0 1 11 = 8 ∧ ps_R ps_M0 8 0 = 10 ∧ ps_R ps_M0 8 1 = 12 ∧ ps_R ps_M0 9 0 = 11 ∧ ps_R ps_M0 11 6 = 13 ∧ ps_R ps_M0 11 7 = 14 ∧ ps_R ps_M0 11 8 = 15 ∧ ps_R ps_M0 11 9 = 16 ∧ ps_R ps_M0 11 10 = 17 ∧ ps_R ps_M0 11 11 = 18 ∧ ps_R ps_M0 23 2 = 25 ∧ ps_R ps_M0 175 8 = 177 ∧ ps_R ps_M0 175 9 = 182 ∧ ps_R ps_M0 189 0 = 191 ∧ ps_R ps_M0 191 0 = 193 ∧ ps_R ps_M0 193 0 = 195 ∧ ps_R ps_M0 199 0 = 201 ∧ ps_R ps_M0 205 0 = 207 ∧ ps_R ps_M0 205 1 = 208 ∧ ps_R ps_M0 205 14 = 209 ∧ ps_R ps_M0 205 15 = 210 ∧ ps_R ps_M0 205 16 = 211 ∧ ps_R ps_M0 205 17 = 212 ∧ ps_R ps_M0 205 18 = 213 ∧ ps_R ps_M0 205 19 = 214 ∧ ps_R ps_M0 205 20 = 215 ∧ ps_R ps_M0 205 27 = 216 ∧ ps_R ps_M0 205 28 = 217 ∧ ps_R ps_M0 205 29 = 218 ∧ ps_R ps_M0 205 30 = 219 ∧ ps_R ps_M0 205 31 = 220 ∧ ps_R ps_M0 205 33 = 221 := by decide +kernel
theorem lr_s (b : Bool) : zR b 0 0 = 2 ∧ zR b 0 1 = 9 ∧ zR b 0 2 = 19 ∧ zR b 0 3 = 24 ∧ zR b 0 4 = 176 ∧ zR b 0 5 = 187 ∧ zR b 0 6 = 190 ∧ zR b 0 7 = 192 ∧ zR b 0 8 = 194 ∧ zR b 0 9 = 200 ∧ zR b 1 6 = 3 ∧ zR b 1 7 = 4 ∧ zR b 1 8 = 5 ∧ zR b 1 9 = 6 ∧ zR b 1 10 = 7 ∧ zR b 1 11 = 8 ∧ zR b 8 0 = 10 ∧ zR b 8 1 = 12 ∧ zR b 9 0 = 11 ∧ zR b 11 6 = 13 ∧ zR b 11 7 = 14 ∧ zR b 11 8 = 15 ∧ zR b 11 9 = 16 ∧ zR b 11 10 = 17 ∧ zR b 11 11 = 18 ∧ zR b 23 2 = 25 ∧ zR b 175 8 = 177 ∧ zR b 175 9 = 182 ∧ zR b 189 0 = 191 ∧ zR b 191 0 = 193 ∧ zR b 193 0 = 195 ∧ zR b 199 0 = 201 ∧ zR b 205 0 = 207 ∧ zR b 205 1 = 208 ∧ zR b 205 14 = 209 ∧ zR b 205 15 = 210 ∧ zR b 205 16 = 211 ∧ zR b 205 17 = 212 ∧ zR b 205 18 = 213 ∧ zR b 205 19 = 214 ∧ zR b 205 20 = 215 ∧ zR b 205 27 = 216 ∧ zR b 205 28 = 217 ∧ zR b 205 29 = 218 ∧ zR b 205 30 = 219 ∧ zR b 205 31 = 220 ∧ zR b 205 33 = 221 := by
  have h := lr_0
  simpa [zR] using h
theorem lr_b : zR false 186 5 = 188 ∧ zR false 186 6 = 189 ∧ zR true 186 5 = 189 ∧ zR true 186 6 = 188 := by decide +kernel
def wl : List Nat := 18 :: 176 :: 181 :: 194 :: 200 :: (List.range 30).map (fun i => 25 + 5 * i)
theorem lr_ring : ∀ i, i < 30 → ps_R ps_M0 24 i = 25 + 5 * i + 1 := by decide +kernel
theorem lw_0 : ∀ a ∈ wl, zK a = 7 ∧ zK (a + 1) = 21 ∧ zK (a + 2) = 21 ∧ zK (a + 3) = 21 ∧ zK (a + 4) = 21 ∧ zL (a + 1) = 4 ∧ zL (a + 2) = 4 ∧ zL (a + 3) = 4 ∧ zL (a + 4) = 4 ∧ ps_R ps_M0 a 9 = a + 1 + 1 ∧ ps_R ps_M0 a 10 = a + 2 + 1 ∧ ps_R ps_M0 a 11 = a + 3 + 1 ∧ ps_R ps_M0 a 12 = a + 4 + 1 ∧ a ≠ 186 ∧ a < 205 ∧ 17 < a := by decide +kernel
/-- what is known of a Work's cells -/
def isW (a : Nat) : Prop := zK a = 7 ∧ zK (a + 1) = 21 ∧ zK (a + 2) = 21 ∧ zK (a + 3) = 21 ∧ zK (a + 4) = 21 ∧ zL (a + 1) = 4 ∧ zL (a + 2) = 4 ∧ zL (a + 3) = 4 ∧ zL (a + 4) = 4 ∧ (∀ b, zR b a 9 = a + 1 + 1) ∧ (∀ b, zR b a 10 = a + 2 + 1) ∧ (∀ b, zR b a 11 = a + 3 + 1) ∧ (∀ b, zR b a 12 = a + 4 + 1)
theorem isW_of {a : Nat} (ha : a ∈ wl) : isW a := by
  obtain ⟨h1, h2, h3, h4, h5, h6, h7, h8, h9, h10, h11, h12, h13, h14, -⟩ := lw_0 a ha
  refine ⟨h1, h2, h3, h4, h5, h6, h7, h8, h9, fun b => ?_, fun b => ?_, fun b => ?_, fun b => ?_⟩ <;> simp [zR, h14, h10, h11, h12, h13]
theorem mk_I (h : Nat → Nat → Int32) (b : Bool) : ps_I (mk h b) = h := by simp only [ps_I, mk]
theorem mk_R (h : Nat → Nat → Int32) (b : Bool) : ps_R (mk h b) = zR b := by simp only [ps_R, mk]
theorem mk_K (h : Nat → Nat → Int32) (b : Bool) : ps_K (mk h b) = zK := by simp only [ps_K, mk]
theorem mk_L (h : Nat → Nat → Int32) (b : Bool) : ps_L (mk h b) = zL := by simp only [ps_L, mk]
theorem mk_sI (h : Nat → Nat → Int32) (b : Bool) (a k : Nat) (v : Int32) : ps_sI (mk h b) a k v = mk (ps_uI h a k v) b := by simp only [ps_sI, ps_I, ps_R, ps_K, ps_L, ps_N, mk]
theorem mk_0 : ps_M0 = mk (ps_I ps_M0) false := by
  have e : zR false = ps_R ps_M0 := by
    funext x y
    simp [zR]
  unfold mk
  rw [e]
  unfold zK zL zN ps_I ps_R ps_K ps_L ps_N
  generalize ps_M0 = M
  rfl
