/-! the text, read by the other side: a clause -/
/-- the draft, and what is told -/
def Dm (H : zM) (y : yS) : Prop := Da H y ∧ Tb H (0 < y 0 0) (y 0 6 = 1) (y 0 7 = 1)
theorem Tb_c {H H' : zM} {A B C A' B' C' : Prop} (h : Tb H A B C) (hc : H' 205 13 = H 205 13) (ha : A ↔ A') (hb : B ↔ B') (hcc : C ↔ C') : Tb H' A' B' C' := by
  obtain ⟨T, h1, h2, h3, h4, h5⟩ := h
  exact ⟨T, h1, by rw [hc]; exact h2, h3.trans ha, h4.trans hb, h5.trans hcc⟩
section
variable {H : zM} {b : Bool} {t : Nat → Int} {n : Nat} {S : rS} {y : yS}
theorem cL_o {t : Nat → Int} {n : Nat} : ∀ (d i : Nat) (S : rS) (y : yS), (∀ c k, c ≠ 1 → ¬ (c = 0 ∧ k = 0) → (cL t n d i S y).2 c k = y c k) ∧ ((0 < y 0 0 ∨ 0 < d) → 0 < (cL t n d i S y).2 0 0) := by
  intro d
  induction d with
  | zero => intro i S y; exact ⟨fun _ _ _ _ => rfl, fun a => by rcases a with a | a; exact a; omega⟩
  | succ d ih =>
    intro i S y
    unfold cL
    split
    · exact ⟨fun c k q1 q2 => by show up (up y 1 i (nV t n S.1)) 0 0 ((i + 1 : Nat) : Int) c k = _; rw [up_o (by omega), up_o (by omega)], fun _ => by show 0 < up (up y 1 i (nV t n S.1)) 0 0 ((i + 1 : Nat) : Int) 0 0; rw [up_s]; omega⟩
    · obtain ⟨i1, i2⟩ := ih (i + 1) (sk t n (num t n 1 9 S).1 + 1, (num t n 1 9 S).2) (up (up y 1 i (nV t n S.1)) 0 0 ((i + 1 : Nat) : Int))
      exact ⟨fun c k q1 q2 => by rw [i1 c k q1 q2, up_o (by omega), up_o (by omega)], fun _ => i2 (Or.inl (by rw [up_s]; omega))⟩
theorem word_m {M : ps_M} {c : Int} (hc : -1 ≤ c ∧ c ≤ 255) : f_X10_wordOf M (ii c) = some (ii (if c = 108 then 0 else if c = 115 then 1 else if c = 99 then 2 else if c = 112 then 3 else -1), M) := by
  unfold f_X10_wordOf f_X10_wordOf_b41
  rw [show (108 : Int32) = ii 108 by decide, show (115 : Int32) = ii 115 by decide, show (99 : Int32) = ii 99 by decide, show (112 : Int32) = ii 112 by decide]
  by_cases q1 : c = 108
  · rw [if_pos (by rw [q1]), if_pos q1]; rfl
  · rw [if_neg (by rw [ii_eq (by omega) (by omega) (by omega) (by omega)]; exact q1), if_neg q1]
    by_cases q2 : c = 115
    · rw [if_pos (by rw [q2]), if_pos q2]; rfl
    · rw [if_neg (by rw [ii_eq (by omega) (by omega) (by omega) (by omega)]; exact q2), if_neg q2]
      by_cases q3 : c = 99
      · rw [if_pos (by rw [q3]), if_pos q3]; rfl
      · rw [if_neg (by rw [ii_eq (by omega) (by omega) (by omega) (by omega)]; exact q3), if_neg q3]
        by_cases q4 : c = 112
        · rw [if_pos (by rw [q4]), if_pos q4]; rfl
        · rw [if_neg (by rw [ii_eq (by omega) (by omega) (by omega) (by omega)]; exact q4), if_neg q4]; rfl
theorem has_any {M : ps_M} {x k : Int32} : f_X10_has M x k = some (ii 0, M) ∨ f_X10_has M x k = some (ii 1, M) := by
  unfold f_X10_has f_X10_has_b14
  split
  · exact Or.inr rfl
  · exact Or.inl rfl
theorem has_m {M : ps_M} {T k : Nat} (hT : T < 16) (hk : k < 3) : f_X10_has M (ii (T : Int)) (ii (k : Int)) = some (ii (if T / 2 ^ k % 2 = 1 then 1 else 0), M) := by
  unfold f_X10_has f_X10_has_b14
  have := has_all T hT k hk
  by_cases q : T / 2 ^ k % 2 = 1
  · rw [if_pos (this.mpr q), if_pos q]; rfl
  · rw [if_neg (fun a => q (this.mp a)), if_neg q]; rfl
theorem said_m {w : Nat} (hw : w < 4) {A B C : Prop} (h : Tb H A B C) : ∃ v : Int32, H 205 13 ||| ((1 : Int32) <<< ((ii (w : Int)) &&& (31 : Int32))) = v ∧ ∀ H' : zM, H' 205 13 = v → Tb H' (A ∨ w = 0) (B ∨ w = 1) (C ∨ w = 2) := by
  obtain ⟨T, h1, h2, h3, h4, h5⟩ := h
  obtain ⟨o1, o2, o3, o4, o5⟩ := or_all T h1 w hw
  refine ⟨_, by rw [h2, o1], fun H' hH => ⟨_, o2, hH, ?_, ?_, ?_⟩⟩
  · rw [o3, h3]
  · rw [o4, h4]
  · rw [o5, h5]
/-- what a clause reads behind its word -/
theorem body_log {H1 : zM} {m : Option ps_M} (hm : m = ps_ck (mk H1 b) 205 9 (ps_b1 (f_X10_takeLog (mk H1 b) 205) (fun M => f_X10_takeClause_b196 M))) (hT : Tm t n H1) (hR : Rm H1 S) (hk : S.2.1 = 0) (hf : fok n S) (hD : Da H1 y) (h0 : y 0 0 = 0) (hB : Tb H1 (0 < y 0 0 ∨ 0 = 0) (y 0 6 = 1 ∨ 0 = 1) (y 0 7 = 1 ∨ 0 = 2)) : ∃ H', m = some (mk H' b) ∧ mg H1 H' ∧ PC t n (Dm H') H' (cL t n 12 0 S y) := by
  obtain ⟨H', f1, o1, p1⟩ := log_m (b := b) 12 0 ps_fu H1 S y (by omega) (by omega) (by unfold ps_fu; omega) hT hR hk hf hD (by rw [h0]; rfl)
  have hn := hT.1
  refine ⟨H', ?_, ml_mg o1, ?_⟩
  · rw [hm, ck_mk zk_205, show f_X10_takeLog (mk H1 b) 205 = _ from f1, b1_mk]
    rfl
  · obtain ⟨c1, c2⟩ := cL_o (t := t) (n := n) 12 0 S y
    rcases p1 with ⟨Z, z1, z2, z3, z4, z5⟩ | p1
    · refine Or.inl ⟨Z, z1, z2, z3, z4, z5, Tb_c hB (o1 205 13 (by omega)) ?_ ?_ ?_⟩
      · exact ⟨fun _ => c2 (Or.inr (by omega)), fun _ => Or.inr rfl⟩
      · rw [c1 0 6 (by omega) (by omega)]
        omega
      · rw [c1 0 7 (by omega) (by omega)]
        omega
    · exact Or.inr p1
theorem body_saw {H1 : zM} {m : Option ps_M} (hm : m = ps_ck (mk H1 b) 205 9 (ps_b2 (f_X10_takeNumber (mk H1 b) 205 (1 : Int32) (9 : Int32)) (fun xv8 M => ps_pI M 205 9 9 xv8 (fun M => ps_ck M 205 9 (ps_b2 (f_X10_takeNumber M 205 (0 : Int32) (9 : Int32)) (fun xv9 M => ps_pI M 205 9 10 xv9 (fun M => ps_ck M 205 9 (ps_b2 (f_X10_takeNumber M 205 (0 : Int32) (9 : Int32)) (fun xv10 M => ps_pI M 205 9 11 xv10 (fun M => f_X10_takeClause_b196 M)))))))))) (hT : Tm t n H1) (hR : Rm H1 S) (hf : fok n S) (hD : Da H1 y) (hB : Tb H1 (0 < y 0 0 ∨ 1 = 0) (y 0 6 = 1 ∨ 1 = 1) (y 0 7 = 1 ∨ 1 = 2)) : ∃ H', m = some (mk H' b) ∧ mg H1 H' ∧ PC t n (Dm H') H' (cS t n S y) := by
  have hn := hT.1
  obtain ⟨H2, v1, f1, r1, o1, e1⟩ := num_m (b := b) (lo := 1) (hi := 9) hT hR hf (by omega) (by omega)
  have k1 := (num_f (t := t) (lo := 1) (hi := 9) hn hf).1
  have m1 := mg_tr (mf_mg o1) (mg_u (c := 205) (k := 9) (v := ii v1) (by omega))
  obtain ⟨H3, v2, f2, r2, o2, e2⟩ := num_m (b := b) (lo := 0) (hi := 9) (Tm_mg hT m1) (Rm_u r1 (by omega)) k1 (by omega) (by omega)
  have k2 := (num_f (t := t) (lo := 0) (hi := 9) hn k1).1
  have m2 := mg_tr (mg_tr m1 (mf_mg o2)) (mg_u (c := 205) (k := 10) (v := ii v2) (by omega))
  obtain ⟨H4, v3, f3, r3, o3, e3⟩ := num_m (b := b) (lo := 0) (hi := 9) (Tm_mg hT m2) (Rm_u r2 (by omega)) k2 (by omega) (by omega)
  have k3 := (num_f (t := t) (lo := 0) (hi := 9) hn k2).1
  have m3 := mg_tr (mg_tr m2 (mf_mg o3)) (mg_u (c := 205) (k := 11) (v := ii v3) (by omega))
  refine ⟨ps_uI H4 205 11 (ii v3), ?_, m3, ?_⟩
  · rw [hm, ck_mk zk_205, show f_X10_takeNumber (mk H1 b) 205 (1 : Int32) (9 : Int32) = _ from f1, b2_mk, pI_mk zk_205, ck_mk zk_205, show f_X10_takeNumber (mk (ps_uI H2 205 9 (ii v1)) b) 205 (0 : Int32) (9 : Int32) = _ from f2, b2_mk, pI_mk zk_205, ck_mk zk_205, show f_X10_takeNumber (mk (ps_uI H3 205 10 (ii v2)) b) 205 (0 : Int32) (9 : Int32) = _ from f3, b2_mk, pI_mk zk_205]
    rfl
  · refine PC_fin (Rm_u r3 (by omega)) k3 (fun a => ?_)
    have z2 := num_0 a
    have z1 := num_0 z2.1
    have w1 := e1 z1.1
    have w2 := e2 z2.1
    have w3 := e3 a
    subst w1 w2 w3
    have d3 := Da_t (k := 6) (v := 1) (Da_n (k := 4) (v := nV t n (num t n 0 9 (num t n 1 9 S)).1) (Da_mf (Da_n (k := 3) (v := nV t n (num t n 1 9 S).1) (Da_mf (Da_n (k := 2) (v := nV t n S.1) (Da_mf hD o1) (by omega)) o2) (by omega)) o3) (by omega)) (Or.inl rfl)
    refine ⟨d3, Tb_c hB ?_ ?_ ?_ ?_⟩
    · rw [uI_o (by omega), o3 205 13 (by omega), uI_o (by omega), o2 205 13 (by omega), uI_o (by omega), o1 205 13 (by omega)]
    · simp [up]
    · simp [up]
    · simp [up]
theorem body_close {H1 : zM} {m : Option ps_M} (hm : m = ps_ck (mk H1 b) 205 9 (ps_b2 (f_X10_takeNumber (mk H1 b) 205 (0 : Int32) (12 : Int32)) (fun xv7 M => ps_pI M 205 9 12 xv7 (fun M => f_X10_takeClause_b196 M)))) (hT : Tm t n H1) (hR : Rm H1 S) (hf : fok n S) (hD : Da H1 y) (hB : Tb H1 (0 < y 0 0 ∨ 2 = 0) (y 0 6 = 1 ∨ 2 = 1) (y 0 7 = 1 ∨ 2 = 2)) : ∃ H', m = some (mk H' b) ∧ mg H1 H' ∧ PC t n (Dm H') H' (cC t n S y) := by
  have hn := hT.1
  obtain ⟨H2, v1, f1, r1, o1, e1⟩ := num_m (b := b) (lo := 0) (hi := 12) hT hR hf (by omega) (by omega)
  have k1 := (num_f (t := t) (lo := 0) (hi := 12) hn hf).1
  have m1 := mg_tr (mf_mg o1) (mg_u (c := 205) (k := 12) (v := ii v1) (by omega))
  refine ⟨ps_uI H2 205 12 (ii v1), ?_, m1, ?_⟩
  · rw [hm, ck_mk zk_205, show f_X10_takeNumber (mk H1 b) 205 (0 : Int32) (12 : Int32) = _ from f1, b2_mk, pI_mk zk_205]
    rfl
  · refine PC_fin (Rm_u r1 (by omega)) k1 (fun a => ?_)
    have w1 := e1 a
    subst w1
    have d3 := Da_t (k := 7) (v := 1) (Da_n (k := 5) (v := nV t n S.1) (Da_mf hD o1) (by omega)) (Or.inr rfl)
    refine ⟨d3, Tb_c hB ?_ ?_ ?_ ?_⟩
    · rw [uI_o (by omega), o1 205 13 (by omega)]
    · simp [up]
    · simp [up]
    · simp [up]
theorem body_person {H1 : zM} {m : Option ps_M} (hm : m = ps_ck (mk H1 b) 205 9 (ps_b1 (f_X10_takePerson (mk H1 b) 205) (fun M => f_X10_takeClause_b196 M))) (hT : Tm t n H1) (hR : Rm H1 S) (hf : fok n S) (hD : Da H1 y) (hp : 0 ≤ y 0 1 ∧ y 0 1 < 4) (hB : Tb H1 (0 < y 0 0 ∨ 3 = 0) (y 0 6 = 1 ∨ 3 = 1) (y 0 7 = 1 ∨ 3 = 2)) : ∃ H', m = some (mk H' b) ∧ mg H1 H' ∧ PC t n (Dm H') H' (cP t n S y) := by
  have hn := hT.1
  obtain ⟨p, hpp⟩ : ∃ p : Nat, y 0 1 = p := ⟨(y 0 1).toNat, by omega⟩
  have e8 : H1 205 8 = ii (p : Int) := by rw [hD.1.2.1, hpp]
  have ep : ((4 : Int) + (p : Int)).toNat = 4 + p := by omega
  obtain ⟨H2, v1, f1, r1, o1, e1⟩ := num_m (b := b) (lo := 1) (hi := 20) hT hR hf (by omega) (by omega)
  have k1 := (num_f (t := t) (lo := 1) (hi := 20) hn hf).1
  have m1 := mg_tr (mf_mg o1) (mg_u (c := 209) (k := 4 + p) (v := ii v1) (by omega))
  obtain ⟨H3, v2, f2, r2, o2, e2⟩ := num_m (b := b) (lo := 0) (hi := 9) (Tm_mg hT m1) (Rm_u r1 (by omega)) k1 (by omega) (by omega)
  have k2 := (num_f (t := t) (lo := 0) (hi := 9) hn k1).1
  have m2 := mg_tr (mg_tr m1 (mf_mg o2)) (mg_u (c := 210) (k := 4 + p) (v := ii v2) (by omega))
  obtain ⟨H4, v3, f3, r3, o3, e3⟩ := num_m (b := b) (lo := 0) (hi := 5) (Tm_mg hT m2) (Rm_u r2 (by omega)) k2 (by omega) (by omega)
  have k3 := (num_f (t := t) (lo := 0) (hi := 5) hn k2).1
  have m3 := mg_tr (mg_tr m2 (mf_mg o3)) (mg_u (c := 211) (k := 4 + p) (v := ii v3) (by omega))
  obtain ⟨H5, v4, f4, r4, o4, e4⟩ := num_m (b := b) (lo := 0) (hi := 9) (Tm_mg hT m3) (Rm_u r3 (by omega)) k3 (by omega) (by omega)
  have k4 := (num_f (t := t) (lo := 0) (hi := 9) hn k3).1
  have m4 := mg_tr (mg_tr m3 (mf_mg o4)) (mg_u (c := 212) (k := 4 + p) (v := ii v4) (by omega))
  obtain ⟨H6, v5, f5, r5, o5, e5⟩ := num_m (b := b) (lo := 0) (hi := 2) (Tm_mg hT m4) (Rm_u r4 (by omega)) k4 (by omega) (by omega)
  have k5 := (num_f (t := t) (lo := 0) (hi := 2) hn k4).1
  have m5 := mg_tr (mg_tr (mg_tr m4 (mf_mg o5)) (mg_u (c := 213) (k := 4 + p) (v := ii v5) (by omega))) (mg_u (c := 205) (k := 8) (v := ii ((p + 1 : Nat) : Int)) (by omega))
  refine ⟨ps_uI (ps_uI H6 213 (4 + p) (ii v5)) 205 8 (ii ((p + 1 : Nat) : Int)), ?_, m5, ?_⟩
  · have h8 : ps_uI H6 213 (4 + p) (ii v5) 205 8 = ii (p : Int) := by
      rw [uI_o (by omega), o5 205 8 (by omega), uI_o (by omega), o4 205 8 (by omega), uI_o (by omega), o3 205 8 (by omega), uI_o (by omega), o2 205 8 (by omega), uI_o (by omega), o1 205 8 (by omega), e8]
    unfold f_X10_takePerson at hm
    rw [hm, ck_mk zk_205, gI_mk zk_205, e8, show (4 : Int32) = ii 4 by decide, ii_add, v_mk, gR_mk zk_205 (zr_205_15 b), ck_mk zk_205, show (1 : Int32) = ii 1 by decide, show (20 : Int32) = ii 20 by decide, show (0 : Int32) = ii 0 by decide, show (9 : Int32) = ii 9 by decide, show (5 : Int32) = ii 5 by decide, show (2 : Int32) = ii 2 by decide, f1, b2_mk, xI_mk zk_209 (by omega) (by rw [zl_209]; omega) (by rw [zl_209]; omega), ep, gR_mk zk_205 (zr_205_16 b), ck_mk zk_205, f2, b2_mk, xI_mk zk_210 (by omega) (by rw [zl_210]; omega) (by rw [zl_210]; omega), ep, gR_mk zk_205 (zr_205_17 b), ck_mk zk_205, f3, b2_mk, xI_mk zk_211 (by omega) (by rw [zl_211]; omega) (by rw [zl_211]; omega), ep, gR_mk zk_205 (zr_205_18 b), ck_mk zk_205, f4, b2_mk, xI_mk zk_212 (by omega) (by rw [zl_212]; omega) (by rw [zl_212]; omega), ep, gR_mk zk_205 (zr_205_19 b), ck_mk zk_205, f5, b2_mk, xI_mk zk_213 (by omega) (by rw [zl_213]; omega) (by rw [zl_213]; omega), ep, gI_mk zk_205, h8, pI_mk zk_205, show ii (p : Int) + ii 1 = ii ((p + 1 : Nat) : Int) by rw [ii_add]; rfl, b1_mk]
    rfl
  · refine PC_fin (Rm_u (Rm_u r5 (by omega)) (by omega)) k5 (fun a => ?_)
    have z5 := num_0 a
    have z4 := num_0 z5.1
    have z3 := num_0 z4.1
    have z2 := num_0 z3.1
    have w1 := e1 z2.1
    have w2 := e2 z3.1
    have w3 := e3 z4.1
    have w4 := e4 z5.1
    have w5 := e5 a
    subst w1 w2 w3 w4 w5
    have key : ∀ c k, ¬ (c = 205 ∧ 22 ≤ k ∧ k ≤ 25) → ¬ (c = 205 ∧ k = 8) → ¬ (209 ≤ c ∧ c ≤ 213 ∧ k = 4 + p) → ps_uI (ps_uI H6 213 (4 + p) (ii (nV t n (num t n 0 9 (num t n 0 5 (num t n 0 9 (num t n 1 20 S)))).1))) 205 8 (ii ((p + 1 : Nat) : Int)) c k = H1 c k := fun c k q1 q2 q3 => by
      rw [uI_o (by omega), uI_o (by omega), o5 c k q1, uI_o (by omega), o4 c k q1, uI_o (by omega), o3 c k q1, uI_o (by omega), o2 c k q1, uI_o (by omega), o1 c k q1]
    obtain ⟨⟨a0, a1, a2, a3, a4, a5⟩, h1, h2⟩ := hD
    rw [hpp, Int.toNat_natCast]
    refine ⟨⟨⟨?_, ?_, ?_, ?_, ?_, ?_⟩, fun j hj => ?_, fun q hq => ?_⟩, Tb_c hB (key 205 13 (by omega) (by omega) (by omega)) ?_ ?_ ?_⟩
    · rw [key 205 7 (by omega) (by omega) (by omega)]; simp [up, a0]
    · rw [uI_s]; simp [up]
    · rw [key 205 9 (by omega) (by omega) (by omega)]; simp [up, a2]
    · rw [key 205 10 (by omega) (by omega) (by omega)]; simp [up, a3]
    · rw [key 205 11 (by omega) (by omega) (by omega)]; simp [up, a4]
    · rw [key 205 12 (by omega) (by omega) (by omega)]; simp [up, a5]
    · rw [key 208 _ (by omega) (by omega) (by omega)]
      simp [up] at hj ⊢
      rw [h1 j hj]
    · by_cases w : q = p
      · subst w
        refine ⟨?_, ?_, ?_, ?_, ?_⟩
        · rw [uI_o (by omega), uI_o (by omega), o5 _ _ (by omega), uI_o (by omega), o4 _ _ (by omega), uI_o (by omega), o3 _ _ (by omega), uI_o (by omega), o2 _ _ (by omega), uI_s]; simp [up]
        · rw [uI_o (by omega), uI_o (by omega), o5 _ _ (by omega), uI_o (by omega), o4 _ _ (by omega), uI_o (by omega), o3 _ _ (by omega), uI_s]; simp [up]
        · rw [uI_o (by omega), uI_o (by omega), o5 _ _ (by omega), uI_o (by omega), o4 _ _ (by omega), uI_s]; simp [up]
        · rw [uI_o (by omega), uI_o (by omega), o5 _ _ (by omega), uI_s]; simp [up]
        · rw [uI_o (by omega), uI_s]; simp [up]
      · have hq' : (q : Int) < y 0 1 := by
          simp [up] at hq
          omega
        obtain ⟨b1, b2, b3, b4, b5⟩ := h2 q hq'
        rw [key 209 _ (by omega) (by omega) (by omega), key 210 _ (by omega) (by omega) (by omega), key 211 _ (by omega) (by omega) (by omega), key 212 _ (by omega) (by omega) (by omega), key 213 _ (by omega) (by omega) (by omega)]
        simp [up, w, b1, b2, b3, b4, b5]
    · simp [up]
    · simp [up]
    · simp [up]
end
