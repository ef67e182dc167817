/-! with whom: of three ways to stand -/
def wst (k u v : Int) (S : Int × Int × Int) : Int × Int × Int := if max u v < S.2.1 ∨ (max u v = S.2.1 ∧ max u v < 1000 ∧ u + v < S.2.2) then (k, max u v, u + v) else S
def WI (S : Int × Int × Int) : Prop := (S.1 = -1 ∧ S.2.1 = 1000 ∧ 0 ≤ S.2.2 ∧ S.2.2 ≤ 2000) ∨ (1 ≤ S.1 ∧ S.1 ≤ 3 ∧ 0 ≤ S.2.1 ∧ S.2.1 ≤ 999 ∧ 0 ≤ S.2.2 ∧ S.2.2 ≤ 2000)
theorem wst_WI {k u v : Int} {S : Int × Int × Int} (h : WI S) (hk : 1 ≤ k ∧ k ≤ 3) (hu : 0 ≤ u ∧ u ≤ 1000) (hv : 0 ≤ v ∧ v ≤ 1000) : WI (wst k u v S) := by
  unfold wst
  split
  · rename_i hc
    unfold WI at h ⊢
    right
    show 1 ≤ k ∧ k ≤ 3 ∧ 0 ≤ max u v ∧ max u v ≤ 999 ∧ 0 ≤ u + v ∧ u + v ≤ 2000
    omega
  · exact h
theorem nv_b {y : Nat → Nat → Int} (r : Nat → Int) : 0 ≤ nv (gon y 999 r 0) ∧ nv (gon y 999 r 0) ≤ 1000 := by
  cases ho : gon y 999 r 0 with
  | none => exact ⟨by decide, by decide⟩
  | some n => have := gon_b _ _ _ _ ho; show 0 ≤ (n : Int) ∧ (n : Int) ≤ 1000; omega
/-- never, as the model has it -/
def fr (v : Int) : Int := if v = 1000 then 99999999 else v
theorem fr_nv {y : Nat → Nat → Int} (r : Nat → Int) : fv (gon y 999 r 0) = fr (nv (gon y 999 r 0)) := by
  cases ho : gon y 999 r 0 with
  | none => rfl
  | some n =>
    have := gon_b _ _ _ _ ho
    show (n : Int) = fr n
    unfold fr
    rw [if_neg (by omega)]
section
variable {h : zM} {b : Bool} {y : Nat → Nat → Int} {g : Int}
def sv (h h1 : zM) : Prop := ∀ c k, ¬ ((c = 175 ∧ k < 8) ∨ (176 ≤ c ∧ c ≤ 185)) → h1 c k = h c k
theorem sv_sc {h h1 : zM} (s : sv h h1) : sc h h1 := fun c k q => s c k (by omega)
theorem mate_c {kk t3 t4 : Int} {S : Int × Int × Int} {h' : zM} (hR : Rel g h y) (hg0 : 0 ≤ g) (hg : g ≤ 80000000) (hL : 0 < y 0 0) (h1 : two y 0 kk) (h2 : two y t3 t4) (hS : WI S) (hsv : sv h h') (h0 : h' 175 0 = ii S.2.1) (k25 : ps_M → Nat → Nat → Nat → Int32 → Int32 → Int32 → Option (Int32 × ps_M)) : ∃ h1, f_X6_findMate_b55 k25 (mk h' b) 175 1 18 (ii S.1) (ii S.2.2) (ii kk) (ii t3) (ii t4) = k25 (mk h1 b) 175 1 18 (ii (wst kk (nv (gon y 999 (frs h 0 kk) 0)) (nv (gon y 999 (frs h t3 t4) 0)) S).1) (ii (wst kk (nv (gon y 999 (frs h 0 kk) 0)) (nv (gon y 999 (frs h t3 t4) 0)) S).2.2) (ii (kk + 1)) ∧ sv h h1 ∧ h1 175 0 = ii (wst kk (nv (gon y 999 (frs h 0 kk) 0)) (nv (gon y 999 (frs h t3 t4) 0)) S).2.1 := by
  have hn := hR.1.1.2.1.2
  have hR' := Rel_sc hR (sv_sc hsv)
  obtain ⟨ha, fa, sa⟩ := fresh_c (b := b) hR' hg0 hg hL h1
  have hRa := Rel_sc hR' (sw_sc sa)
  obtain ⟨hb, fb, sb⟩ := fresh_c (b := b) hRa hg0 hg hL h2
  rw [frs_sc (sw_sc sa), frs_sc (sv_sc hsv)] at fb
  rw [frs_sc (sv_sc hsv)] at fa
  have hu := nv_b (y := y) (frs h 0 kk)
  have hv := nv_b (y := y) (frs h t3 t4)
  have svb : sv h hb := fun c k q => by rw [sb c k (by omega), sa c k (by omega), hsv c k q]
  have h0b : hb 175 0 = ii S.2.1 := by rw [sb 175 0 (by omega), sa 175 0 (by omega), h0]
  generalize nv (gon y 999 (frs h 0 kk) 0) = u at *
  generalize nv (gon y 999 (frs h t3 t4) 0) = v at *
  have hSb : -1 ≤ S.2.1 ∧ S.2.1 ≤ 1000 ∧ 0 ≤ S.2.2 ∧ S.2.2 ≤ 2000 := by unfold WI at hS; omega
  have k1 := h1.2.1
  have e1 : ii kk + 1 = ii (kk + 1) := by rw [ii_lits.2.1, ii_add]
  unfold f_X6_findMate_b55
  rw [ck_mk zk_175, show (0 : Int32) = ii 0 by decide, fa, b2_mk, ck_mk zk_175, fb, b2_mk, ii_max (by omega) (by omega) (by omega) (by omega), v_mk, gI_mk zk_175, h0b, show (1000 : Int32) = ii 1000 by decide, ii_add]
  have upd : (max u v < S.2.1 ∨ (max u v = S.2.1 ∧ max u v < 1000 ∧ u + v < S.2.2)) → ∃ h1, f_X6_findMate_b137 k25 (mk hb b) 175 1 18 (ii kk) (ii u) (ii v) (ii (max u v)) = k25 (mk h1 b) 175 1 18 (ii (wst kk u v S).1) (ii (wst kk u v S).2.2) (ii (kk + 1)) ∧ sv h h1 ∧ h1 175 0 = ii (wst kk u v S).2.1 := by
    intro hc
    unfold wst
    rw [if_pos hc]
    refine ⟨ps_uI hb 175 0 (ii (max u v)), ?_, fun c k q => by rw [uI_o (by omega), svb c k q], by rw [uI_s]⟩
    unfold f_X6_findMate_b137 f_X6_findMate_b153
    rw [pI_mk zk_175, ii_add, v_mk, e1, v_mk]
  have kee : ¬ (max u v < S.2.1 ∨ (max u v = S.2.1 ∧ max u v < 1000 ∧ u + v < S.2.2)) → ∃ h1, f_X6_findMate_b153 k25 (mk hb b) 175 1 18 (ii S.1) (ii S.2.2) (ii kk) = k25 (mk h1 b) 175 1 18 (ii (wst kk u v S).1) (ii (wst kk u v S).2.2) (ii (kk + 1)) ∧ sv h h1 ∧ h1 175 0 = ii (wst kk u v S).2.1 := by
    intro hc
    unfold wst
    rw [if_neg hc]
    refine ⟨hb, ?_, svb, h0b⟩
    unfold f_X6_findMate_b153
    rw [e1, v_mk]
  have e0 : (ii 0 = (0 : Int32)) := by decide
  have b120 : ¬ (max u v = S.2.1 ∧ max u v < 1000 ∧ u + v < S.2.2) → ∃ h1, f_X6_findMate_b120 k25 (mk hb b) 175 1 18 (ii S.1) (ii S.2.2) (ii kk) (ii u) (ii v) (ii (max u v)) = k25 (mk h1 b) 175 1 18 (ii (wst kk u v S).1) (ii (wst kk u v S).2.2) (ii (kk + 1)) ∧ sv h h1 ∧ h1 175 0 = ii (wst kk u v S).2.1 := by
    intro hc
    unfold f_X6_findMate_b120 f_X6_findMate_b121
    rw [gI_mk zk_175, h0b]
    by_cases c1 : max u v < S.2.1
    · rw [if_pos (by rw [ii_lt (by omega) (by omega) (by omega) (by omega)]; exact c1)]
      exact upd (Or.inl c1)
    · rw [if_neg (by rw [ii_lt (by omega) (by omega) (by omega) (by omega)]; exact c1), if_pos rfl]
      exact kee (by omega)
  by_cases c1 : max u v = S.2.1
  · rw [if_pos (by rw [c1])]
    by_cases c2 : 1000 ≤ max u v
    · rw [if_pos (by rw [ii_le (by omega) (by omega) (by omega) (by omega)]; exact c2)]
      exact b120 (by omega)
    · rw [if_neg (by rw [ii_le (by omega) (by omega) (by omega) (by omega)]; exact c2)]
      by_cases c3 : S.2.2 ≤ u + v
      · rw [if_pos (by rw [ii_le (by omega) (by omega) (by omega) (by omega)]; exact c3)]
        exact b120 (by omega)
      · rw [if_neg (by rw [ii_le (by omega) (by omega) (by omega) (by omega)]; exact c3)]
        unfold f_X6_findMate_b121
        rw [gI_mk zk_175, h0b, if_neg (by rw [ii_lt (by omega) (by omega) (by omega) (by omega)]; omega), if_neg (by decide)]
        exact upd (by omega)
  · rw [if_neg (by rw [ii_eq (by omega) (by omega) (by omega) (by omega)]; exact c1)]
    exact b120 (by omega)
theorem findMate_c {m : Nat} {h' : zM} (hR : Rel g h y) (hg0 : 0 ≤ g) (hg : g ≤ 80000000) (hL : 0 < y 0 0) (h4 : y 0 1 = 4) (hsv : sv h h') (h0 : h' 175 0 = ii 1000) : ∃ (S : Int × Int × Int) (h1 : zM), S = wst 3 (nv (gon y 999 (frs h 0 3) 0)) (nv (gon y 999 (frs h 1 2) 0)) (wst 2 (nv (gon y 999 (frs h 0 2) 0)) (nv (gon y 999 (frs h 1 3) 0)) (wst 1 (nv (gon y 999 (frs h 0 1) 0)) (nv (gon y 999 (frs h 2 3) 0)) (-1, 1000, 0))) ∧ WI S ∧ f_X6_findMate_l25 (m + 1 + 1 + 1 + 1) (mk h' b) 175 1 18 (ii (-1)) (ii 0) (ii 1) = some (ii S.1, mk h1 b) ∧ sv h h1 ∧ h1 175 0 = ii S.2.1 := by
  have w0 : WI (-1, 1000, 0) := Or.inl ⟨rfl, rfl, by decide, by decide⟩
  have w1 := wst_WI (k := 1) w0 (by omega) (nv_b (y := y) (frs h 0 1)) (nv_b (y := y) (frs h 2 3))
  obtain ⟨h1, f1, s1, z1⟩ := mate_c (b := b) (kk := 1) (t3 := 2) (t4 := 3) (S := (-1, 1000, 0)) hR hg0 hg hL ⟨by omega, by omega, by omega⟩ ⟨by omega, by omega, by omega⟩ w0 hsv h0 (f_X6_findMate_l25 (m + 1 + 1 + 1))
  generalize wst 1 (nv (gon y 999 (frs h 0 1) 0)) (nv (gon y 999 (frs h 2 3) 0)) (-1, 1000, 0) = S1 at *
  have w2 := wst_WI (k := 2) w1 (by omega) (nv_b (y := y) (frs h 0 2)) (nv_b (y := y) (frs h 1 3))
  obtain ⟨h2, f2, s2, z2⟩ := mate_c (b := b) (kk := 2) (t3 := 1) (t4 := 3) (S := S1) hR hg0 hg hL ⟨by omega, by omega, by omega⟩ ⟨by omega, by omega, by omega⟩ w1 s1 z1 (f_X6_findMate_l25 (m + 1 + 1))
  generalize wst 2 (nv (gon y 999 (frs h 0 2) 0)) (nv (gon y 999 (frs h 1 3) 0)) S1 = S2 at *
  have w3 := wst_WI (k := 3) w2 (by omega) (nv_b (y := y) (frs h 0 3)) (nv_b (y := y) (frs h 1 2))
  obtain ⟨h3, f3, s3, z3⟩ := mate_c (b := b) (kk := 3) (t3 := 1) (t4 := 2) (S := S2) hR hg0 hg hL ⟨by omega, by omega, by omega⟩ ⟨by omega, by omega, by omega⟩ w2 s2 z2 (f_X6_findMate_l25 (m + 1))
  refine ⟨_, h3, rfl, w3, ?_, s3, z3⟩
  show f_X6_findMate_w25 (f_X6_findMate_l25 (m + 1 + 1 + 1)) (mk h' b) 175 1 18 (ii (-1)) (ii 0) (ii 1) = _
  unfold f_X6_findMate_w25 f_X6_findMate_b42
  rw [if_neg (by decide), if_pos (by decide), if_neg (by decide), show (2 : Int32) = ii 2 by decide, show (3 : Int32) = ii 3 by decide]
  refine f1.trans ?_
  show f_X6_findMate_w25 (f_X6_findMate_l25 (m + 1 + 1)) (mk h1 b) 175 1 18 (ii S1.1) (ii S1.2.2) (ii 2) = _
  unfold f_X6_findMate_w25 f_X6_findMate_b42
  rw [if_neg (by decide), if_neg (by decide), if_neg (by decide), show (1 : Int32) = ii 1 by decide, show (3 : Int32) = ii 3 by decide]
  refine f2.trans ?_
  show f_X6_findMate_w25 (f_X6_findMate_l25 (m + 1)) (mk h2 b) 175 1 18 (ii S2.1) (ii S2.2.2) (ii 3) = _
  unfold f_X6_findMate_w25 f_X6_findMate_b42
  rw [if_neg (by decide), if_neg (by decide), if_pos (by decide), show (1 : Int32) = ii 1 by decide, show (2 : Int32) = ii 2 by decide]
  refine f3.trans ?_
  show f_X6_findMate_w25 (f_X6_findMate_l25 m) (mk h3 b) 175 1 18 _ _ (ii 4) = _
  unfold f_X6_findMate_w25
  rw [if_pos (by decide)]
/-- the model's sum -/
def es (S : Int × Int × Int) : Int := if S.2.1 = 1000 then 99999999 else S.2.2
theorem mate_m {kk t3 t4 : Int} {S : Int × Int × Int} (W : Int) (hk : 1 ≤ kk ∧ kk ≤ 3) (u v : Int) (hS : WI S) (hu : 0 ≤ u ∧ u ≤ 1000) (hv : 0 ≤ v ∧ v ≤ 1000) (M : ps_M) (k35 : ps_M → Nat → Int32 → Int32 → Int32 → Int32 → Int32 → Option (Int32 × ps_M)) : f_X10_withWhom_b94 k35 M 205 (ii W) (ii S.1) (ii (fr S.2.1)) (ii (es S)) (ii kk) (ii (fr u)) (ii (fr v)) = k35 M 205 (ii W) (ii (wst kk u v S).1) (ii (fr (wst kk u v S).2.1)) (ii (es (wst kk u v S))) (ii (kk + 1)) := by
  have frb : ∀ x, 0 ≤ x ∧ x ≤ 1000 → 0 ≤ fr x ∧ fr x ≤ 99999999 := fun x hx => by unfold fr; split <;> omega
  have hSb : 0 ≤ S.2.1 ∧ S.2.1 ≤ 1000 ∧ 0 ≤ S.2.2 ∧ S.2.2 ≤ 2000 := by unfold WI at hS; omega
  have u1 := frb u hu
  have v1 := frb v hv
  have f1 := frb S.2.1 ⟨hSb.1, hSb.2.1⟩
  have esb : 0 ≤ es S ∧ es S ≤ 99999999 := by unfold es; split <;> omega
  have e1 : ii kk + 1 = ii (kk + 1) := by rw [ii_lits.2.1, ii_add]
  have mx : max (fr u) (fr v) = fr (max u v) := by unfold fr; repeat' split
                                                   all_goals omega
  have b110 : f_X10_withWhom_b110 k35 M 205 (ii W) (ii S.1) (ii (fr S.2.1)) (ii (es S)) (ii kk) (ii (fr u)) (ii (fr v)) (ii (max (fr u) (fr v))) = k35 M 205 (ii W) (ii (wst kk u v S).1) (ii (fr (wst kk u v S).2.1)) (ii (es (wst kk u v S))) (ii (kk + 1)) := by
    have upd : (max u v < S.2.1 ∨ (max u v = S.2.1 ∧ max u v < 1000 ∧ u + v < S.2.2)) → f_X10_withWhom_b141 k35 M 205 (ii W) (ii kk) (ii (fr u)) (ii (fr v)) (ii (fr (max u v))) = k35 M 205 (ii W) (ii (wst kk u v S).1) (ii (fr (wst kk u v S).2.1)) (ii (es (wst kk u v S))) (ii (kk + 1)) := by
      intro hc
      have e5 : es (kk, max u v, u + v) = fr u + fr v := by
        unfold es fr
        show (if max u v = 1000 then (99999999 : Int) else u + v) = _
        rw [if_neg (by omega), if_neg (by omega), if_neg (by omega)]
      unfold f_X10_withWhom_b141 f_X10_withWhom_b154 wst
      rw [if_pos hc, ii_add, v_mk, e1, v_mk, e5]
    have kee : ¬ (max u v < S.2.1 ∨ (max u v = S.2.1 ∧ max u v < 1000 ∧ u + v < S.2.2)) → f_X10_withWhom_b154 k35 M 205 (ii W) (ii S.1) (ii (fr S.2.1)) (ii (es S)) (ii kk) = k35 M 205 (ii W) (ii (wst kk u v S).1) (ii (fr (wst kk u v S).2.1)) (ii (es (wst kk u v S))) (ii (kk + 1)) := by
      intro hc
      unfold f_X10_withWhom_b154 wst
      rw [if_neg hc, e1, v_mk]
    have mxb := frb (max u v) (by omega)
    unfold f_X10_withWhom_b110
    rw [mx]
    by_cases c1 : max u v < S.2.1
    · rw [if_pos (by rw [ii_lt (by omega) (by omega) (by omega) (by omega)]; unfold fr; repeat' split
                     all_goals omega)]
      exact upd (Or.inl c1)
    · rw [if_neg (by rw [ii_lt (by omega) (by omega) (by omega) (by omega)]; unfold fr; repeat' split
                     all_goals omega)]
      by_cases c2 : max u v = S.2.1
      · rw [if_pos (by rw [c2]), show (99999999 : Int32) = ii 99999999 by decide]
        by_cases c3 : max u v < 1000
        · rw [if_neg (by rw [ii_le (by omega) (by omega) (by omega) (by omega)]; unfold fr; rw [if_neg (by omega)]; omega), ii_add]
          have e6 : es S = S.2.2 := by unfold es; rw [if_neg (by omega)]
          have e7 : fr u + fr v = u + v := by unfold fr; rw [if_neg (by omega), if_neg (by omega)]
          rw [e6, e7]
          rw [e6] at kee
          by_cases c4 : S.2.2 ≤ u + v
          · rw [if_pos (by rw [ii_le (by omega) (by omega) (by omega) (by omega)]; exact c4)]
            exact kee (by omega)
          · rw [if_neg (by rw [ii_le (by omega) (by omega) (by omega) (by omega)]; exact c4)]
            exact upd (by omega)
        · rw [if_pos (by rw [ii_le (by omega) (by omega) (by omega) (by omega)]; unfold fr; rw [if_pos (by omega)]; omega)]
          exact kee (by omega)
      · rw [if_neg (by rw [ii_eq (by omega) (by omega) (by omega) (by omega)]; unfold fr; repeat' split
                       all_goals omega)]
        exact kee (by omega)
  unfold f_X10_withWhom_b94
  by_cases c : fr u ≤ fr v
  · rw [if_pos (by rw [ii_le (by omega) (by omega) (by omega) (by omega)]; exact c)]
    rw [Int.max_eq_right c] at b110
    exact b110
  · rw [if_neg (by rw [ii_le (by omega) (by omega) (by omega) (by omega)]; exact c)]
    rw [Int.max_eq_left (by omega)] at b110
    exact b110
theorem findMate_m {m : Nat} {W : Int} (hR : Rel g h y) (hg0 : 0 ≤ g) (hg : g ≤ 80000000) (hL : 0 < y 0 0) (h4 : y 0 1 = 4) {S : Int × Int × Int} (hSS : S = wst 3 (nv (gon y 999 (frs h 0 3) 0)) (nv (gon y 999 (frs h 1 2) 0)) (wst 2 (nv (gon y 999 (frs h 0 2) 0)) (nv (gon y 999 (frs h 1 3) 0)) (wst 1 (nv (gon y 999 (frs h 0 1) 0)) (nv (gon y 999 (frs h 2 3) 0)) (-1, 1000, 0)))) : ∃ h1, f_X10_withWhom_l35 (m + 1 + 1 + 1 + 1) (mk h b) 205 (ii W) (ii (-1)) (ii 99999999) (ii 99999999) (ii 1) = f_X10_withWhom_b160 (mk h1 b) (ii W) (ii S.1) (ii (fr S.2.1)) ∧ sm h h1 := by
  have w0 : WI (-1, 1000, 0) := Or.inl ⟨rfl, rfl, by decide, by decide⟩
  have two_ : ∀ p q : Int, 0 ≤ p → p < 4 → 0 ≤ q → q < 4 → p ≠ q → two y p q := fun p q a b c d e => ⟨by omega, by omega, e⟩
  have go : ∀ (h' : zM) (p q : Int), sm h h' → two y p q → ∃ h1, f_X10_freshOf (mk h' b) 205 (ii p) (ii q) = some (ii (fr (nv (gon y 999 (frs h p q) 0))), mk h1 b) ∧ sm h h1 := by
    intro h' p q s h2
    obtain ⟨h1, f1, s1⟩ := fresh_m (b := b) (Rel_sc hR (sm_sc s)) hg0 hg hL h2
    refine ⟨h1, ?_, sm_tr s s1⟩
    rw [f1, frs_sc (sm_sc s), fr_nv]
  have z3 : ∀ h' : zM, sm h h' → h' 205 3 = ii 4 := fun h' s => by rw [s 205 3 (by omega), hR.1.2.2.2.1, h4]
  have w1 := wst_WI (k := 1) w0 (by omega) (nv_b (y := y) (frs h 0 1)) (nv_b (y := y) (frs h 2 3))
  obtain ⟨ha, fa, sa⟩ := go h 0 1 (sm_rf h) (two_ 0 1 (by omega) (by omega) (by omega) (by omega) (by omega))
  obtain ⟨hb, fb, sb⟩ := go ha 2 3 sa (two_ 2 3 (by omega) (by omega) (by omega) (by omega) (by omega))
  have q1 := mate_m (kk := 1) (t3 := 2) (t4 := 3) W (by omega) _ _ w0 (nv_b (y := y) (frs h 0 1)) (nv_b (y := y) (frs h 2 3)) (mk hb b) (f_X10_withWhom_l35 (m + 1 + 1 + 1))
  generalize wst 1 (nv (gon y 999 (frs h 0 1) 0)) (nv (gon y 999 (frs h 2 3) 0)) (-1, 1000, 0) = S1 at *
  have w2 := wst_WI (k := 2) w1 (by omega) (nv_b (y := y) (frs h 0 2)) (nv_b (y := y) (frs h 1 3))
  obtain ⟨hc, fc, sc_⟩ := go hb 0 2 sb (two_ 0 2 (by omega) (by omega) (by omega) (by omega) (by omega))
  obtain ⟨hd, fd, sd⟩ := go hc 1 3 sc_ (two_ 1 3 (by omega) (by omega) (by omega) (by omega) (by omega))
  have q2 := mate_m (kk := 2) (t3 := 1) (t4 := 3) W (by omega) _ _ w1 (nv_b (y := y) (frs h 0 2)) (nv_b (y := y) (frs h 1 3)) (mk hd b) (f_X10_withWhom_l35 (m + 1 + 1))
  generalize wst 2 (nv (gon y 999 (frs h 0 2) 0)) (nv (gon y 999 (frs h 1 3) 0)) S1 = S2 at *
  obtain ⟨he, fe', se⟩ := go hd 0 3 sd (two_ 0 3 (by omega) (by omega) (by omega) (by omega) (by omega))
  obtain ⟨hf, ff, sf⟩ := go he 1 2 se (two_ 1 2 (by omega) (by omega) (by omega) (by omega) (by omega))
  have q3 := mate_m (kk := 3) (t3 := 1) (t4 := 2) W (by omega) _ _ w2 (nv_b (y := y) (frs h 0 3)) (nv_b (y := y) (frs h 1 2)) (mk hf b) (f_X10_withWhom_l35 (m + 1))
  rw [← hSS] at q3
  refine ⟨hf, ?_, sf⟩
  show f_X10_withWhom_w35 (f_X10_withWhom_l35 (m + 1 + 1 + 1)) (mk h b) 205 (ii W) (ii (-1)) (ii 99999999) (ii 99999999) (ii 1) = _
  unfold f_X10_withWhom_w35
  rw [if_neg (by decide), gI_mk zk_205, z3 h (sm_rf h), if_pos (by decide), ck_mk zk_205, show (0 : Int32) = ii 0 by decide, fa, b2_mk, if_pos (by decide), ck_mk zk_205, show (2 : Int32) = ii 2 by decide, show (3 : Int32) = ii 3 by decide, fb, b2_mk]
  refine q1.trans ?_
  show f_X10_withWhom_w35 (f_X10_withWhom_l35 (m + 1 + 1)) (mk hb b) 205 (ii W) (ii S1.1) (ii (fr S1.2.1)) (ii (es S1)) (ii 2) = _
  unfold f_X10_withWhom_w35
  rw [if_neg (by decide), gI_mk zk_205, z3 hb sb, if_pos (by decide), ck_mk zk_205, show (0 : Int32) = ii 0 by decide, fc, b2_mk, if_neg (by decide), if_pos (by decide), ck_mk zk_205, show (1 : Int32) = ii 1 by decide, show (3 : Int32) = ii 3 by decide, fd, b2_mk]
  refine q2.trans ?_
  show f_X10_withWhom_w35 (f_X10_withWhom_l35 (m + 1)) (mk hd b) 205 (ii W) (ii S2.1) (ii (fr S2.2.1)) (ii (es S2)) (ii 3) = _
  unfold f_X10_withWhom_w35
  rw [if_neg (by decide), gI_mk zk_205, z3 hd sd, if_pos (by decide), ck_mk zk_205, show (0 : Int32) = ii 0 by decide, fe', b2_mk, if_neg (by decide), if_neg (by decide), ck_mk zk_205, show (1 : Int32) = ii 1 by decide, show (2 : Int32) = ii 2 by decide, ff, b2_mk]
  refine q3.trans ?_
  show f_X10_withWhom_w35 (f_X10_withWhom_l35 m) (mk hf b) 205 (ii W) _ _ _ (ii 4) = _
  unfold f_X10_withWhom_w35
  rw [if_pos (by decide)]
end
theorem arm21 : ps_arm21 Inv := by
  rintro k M x hk ⟨h, b, y, rfl, hR⟩
  obtain ⟨X, rfl, x1, x2⟩ := ex_ii x
  have hLb := hR.1.1.1
  have hnb := hR.1.1.2.1
  have min_ : ∀ H : zM, f_X10_in (mk H b) ((ii X).toInt64) (0 : Int64) (1 : Int64) = some (ii (if 0 ≤ X ∧ X ≤ 1 then 1 else 0), mk H b) := fun H => by
    rw [ii_l64 x1 x2, show (1 : Int64) = l64 1 by decide, show (0 : Int64) = l64 0 by decide, in_mk (by omega) (by omega) (by omega) (by omega) (by omega) (by omega)]
  have win_ : ∀ H : zM, f_X9_isWithin (mk H b) (ii X) (0 : Int32) (1 : Int32) = some (ii (if 0 ≤ X ∧ X ≤ 1 then 1 else 0), mk H b) := fun H => by
    rw [show (1 : Int32) = ii 1 by decide, show (0 : Int32) = ii 0 by decide, within_mk (by omega) (by omega) (by omega) (by omega) (by omega) (by omega)]
  by_cases c : 0 ≤ X ∧ X ≤ 1
  · by_cases hL : y 0 0 = 0
    · refine eqv_of (r := ii (-1000000003)) (h1 := h) (h2 := h) (b1 := b) (b2 := b) ?_ ?_ (inv_of hR)
      · unfold f_X9_withWhom
        rw [win_, b2_mk, if_pos c, if_neg (by decide), g0_0, gI_mk zk_1, hR.1.2.1.1, hL, if_pos (by decide)]
        rfl
      · show f_X10_withWhom (mk h b) 205 (ii X) = _
        unfold f_X10_withWhom
        rw [min_, b2_mk, if_pos c, if_neg (by decide), gI_mk zk_205, hR.1.2.2.1, hL, if_pos (by decide)]
        rfl
    · have hL' : 0 < y 0 0 := by omega
      have n0 : ¬ ii (y 0 0) = 0 := by rw [ii_lits.1, ii_eq (by omega) (by omega) (by omega) (by omega)]; exact hL
      have efu : ps_fu = 4092 + 1 + 1 + 1 + 1 := rfl
      by_cases h4 : y 0 1 = 4
      · have s0 : sv h (ps_uI h 175 0 (ii 1000)) := fun c k q => by rw [uI_o (by omega)]
        obtain ⟨S, h1, hSS, hW, f1, s1, z1⟩ := findMate_c (b := b) (m := 4092) (h' := ps_uI h 175 0 (ii 1000)) hR (by omega) (by omega) hL' h4 s0 (uI_s ..)
        have hR1 := Rel_sc hR (sv_sc s1)
        have hSS1 := hSS
        rw [← frs_sc (sv_sc s1) 0 3, ← frs_sc (sv_sc s1) 1 2, ← frs_sc (sv_sc s1) 0 2, ← frs_sc (sv_sc s1) 1 3, ← frs_sc (sv_sc s1) 0 1, ← frs_sc (sv_sc s1) 2 3] at hSS1
        obtain ⟨h3, f2, s2⟩ := findMate_m (b := b) (m := 4092) (W := X) hR1 (by omega) (by omega) hL' h4 hSS1
        have hWb : -1 ≤ S.1 ∧ S.1 ≤ 3 ∧ (S.1 = -1 ∨ (0 ≤ S.1 ∧ 0 ≤ S.2.1 ∧ S.2.1 ≤ 999)) := by unfold WI at hW; omega
        refine eqv_of (h1 := h1) (h2 := h3) (b1 := b) (b2 := b) (r := ii (if S.1 = -1 then S.1 else if X = 1 then S.1 else S.2.1)) ?_ ?_ (inv_of (Rel_sc hR1 (sm_sc s2)))
        · unfold f_X9_withWhom f_X6_findMate
          rw [win_, b2_mk, if_pos c, if_neg (by decide), g0_0, gI_mk zk_1, hR.1.2.1.1, if_neg n0, g0_4, g0_0, g0_2, ck_mk zk_175, gI_mk zk_1, hR.1.2.1.2.1, h4, if_pos (by decide), show (1000 : Int32) = ii 1000 by decide, pI_mk zk_175, efu, show (0 : Int32) = ii 0 by decide, show (1 : Int32) = ii 1 by decide, ii_neg]
          rw [f1, b2_mk]
          by_cases c1 : S.1 = -1
          · rw [if_pos (by rw [c1]), if_pos c1]
            rfl
          · rw [if_neg (by rw [ii_eq (by omega) (by omega) (by omega) (by omega)]; exact c1), if_neg c1]
            by_cases c2 : X = 1
            · rw [if_pos (by rw [c2]), if_pos c2]
              rfl
            · rw [if_neg (by rw [ii_eq (by omega) (by omega) (by omega) (by omega)]; exact c2), if_neg c2, g0_4, gI_mk zk_175, z1]
              rfl
        · show f_X10_withWhom (mk h1 b) 205 (ii X) = _
          unfold f_X10_withWhom
          rw [min_, b2_mk, if_pos c, if_neg (by decide), gI_mk zk_205, hR1.1.2.2.1, if_neg n0, efu, show (99999999 : Int32) = ii 99999999 by decide, show (-1 : Int32) = ii (-1) by decide, show (1 : Int32) = ii 1 by decide, f2]
          unfold f_X10_withWhom_b160
          by_cases c1 : S.1 = -1
          · rw [if_pos (by rw [ii_lits.1, ii_lt (by omega) (by omega) (by omega) (by omega)]; omega), if_pos c1]
            rfl
          · rw [if_neg (by rw [ii_lits.1, ii_lt (by omega) (by omega) (by omega) (by omega)]; omega), if_neg c1]
            by_cases c2 : X = 1
            · rw [if_pos (by rw [c2]; decide), if_pos c2]
              rfl
            · rw [if_neg (by rw [show (1 : Int32) = ii 1 by decide, ii_eq (by omega) (by omega) (by omega) (by omega)]; exact c2), if_neg c2]
              unfold fr
              rw [if_neg (by omega)]
              rfl
      · have e3 : h 205 3 = ii (y 0 1) := hR.1.2.2.2.1
        refine eqv_of (r := ii (-1)) (h1 := h) (h2 := h) (b1 := b) (b2 := b) ?_ ?_ (inv_of hR)
        · unfold f_X9_withWhom f_X6_findMate
          rw [win_, b2_mk, if_pos c, if_neg (by decide), g0_0, gI_mk zk_1, hR.1.2.1.1, if_neg n0, g0_4, g0_0, g0_2, ck_mk zk_175, gI_mk zk_1, hR.1.2.1.2.1, if_neg (by rw [show (4 : Int32) = ii 4 by decide, ii_le (by omega) (by omega) (by omega) (by omega)]; omega), b2_mk, if_pos rfl]
          rfl
        · show f_X10_withWhom (mk h b) 205 (ii X) = _
          unfold f_X10_withWhom
          rw [min_, b2_mk, if_pos c, if_neg (by decide), gI_mk zk_205, hR.1.2.2.1, if_neg n0, efu]
          show f_X10_withWhom_w35 _ (mk h b) 205 (ii X) _ _ _ _ = _
          unfold f_X10_withWhom_w35
          rw [if_neg (by decide), gI_mk zk_205, e3, if_neg (by rw [show (4 : Int32) = ii 4 by decide, ii_eq (by omega) (by omega) (by omega) (by omega)]; exact h4)]
          unfold f_X10_withWhom_b160
          rw [if_pos (by decide)]
          rfl
  · refine eqv_of (r := ii (-1000000002)) (h1 := h) (h2 := h) (b1 := b) (b2 := b) ?_ ?_ (inv_of hR)
    · unfold f_X9_withWhom
      rw [win_, b2_mk, if_neg c, if_pos (by decide)]
      rfl
    · show f_X10_withWhom (mk h b) 205 (ii X) = _
      unfold f_X10_withWhom
      rw [min_, b2_mk, if_neg c, if_pos (by decide)]
      rfl
