/-! the text's clauses, by the class -/
/-- the draft -/
def Dc (H : zM) (y : yS) : Prop := (H 11 0 = ii (y 0 0) ∧ H 11 1 = ii (y 0 1) ∧ H 11 2 = ii (y 0 2) ∧ H 11 3 = ii (y 0 3) ∧ H 11 4 = ii (y 0 4) ∧ H 11 5 = ii (y 0 5)) ∧ (H 8 5 = ii (y 0 6) ∧ H 8 6 = ii (y 0 7)) ∧ (∀ j : Nat, (j : Int) < y 0 0 → H 12 j = ii (y 1 j)) ∧ ∀ p : Nat, (p : Int) < y 0 1 → H 13 p = ii (y 2 p) ∧ H 14 p = ii (y 3 p) ∧ H 15 p = ii (y 4 p) ∧ H 16 p = ii (y 5 p) ∧ H 17 p = ii (y 6 p)
def rg (H H' : zM) : Prop := ∀ c k, ¬ ((c = 8 ∧ 2 ≤ k) ∨ (11 ≤ c ∧ c ≤ 17)) → H' c k = H c k
theorem rg_tr {H H1 H2 : zM} (a : rg H H1) (c : rg H1 H2) : rg H H2 := fun i k q => (c i k q).trans (a i k q)
theorem rf_rg {H H1 : zM} (a : rf H H1) : rg H H1 := fun i k q => a i k (by omega)
theorem Tx_rg {t : Nat → Int} {n : Nat} {H H' : zM} (h : Tx t n H) (hc : rg H H') : Tx t n H' := Tx_c h (fun c k q => hc c k (by omega))
theorem Rd_u {H : zM} {S : rS} {c k : Nat} {v : Int32} (h : Rd H S) (hc : ¬ (c = 8 ∧ 2 ≤ k ∧ k ≤ 4)) : Rd (ps_uI H c k v) S := ⟨by rw [uI_o (by omega)]; exact h.1, by rw [uI_o (by omega)]; exact h.2.1, by rw [uI_o (by omega)]; exact h.2.2⟩
theorem rg_u {H : zM} {c k : Nat} {v : Int32} (hc : (c = 8 ∧ 2 ≤ k) ∨ (11 ≤ c ∧ c ≤ 17)) : rg H (ps_uI H c k v) := fun i j q => uI_o (by omega)
theorem Dc_rf {H H' : zM} {y : yS} (h : Dc H y) (hc : rf H H') : Dc H' y := by
  unfold Dc at h ⊢
  rw [hc 11 0 (by omega), hc 11 1 (by omega), hc 11 2 (by omega), hc 11 3 (by omega), hc 11 4 (by omega), hc 11 5 (by omega), hc 8 5 (by omega), hc 8 6 (by omega)]
  refine ⟨h.1, h.2.1, fun j hj => by rw [hc 12 j (by omega)]; exact h.2.2.1 j hj, fun p hp => ?_⟩
  rw [hc 13 p (by omega), hc 14 p (by omega), hc 15 p (by omega), hc 16 p (by omega), hc 17 p (by omega)]
  exact h.2.2.2 p hp
/-- a number of the draft -/
theorem Dc_n {H : zM} {y : yS} {k : Nat} {v : Int} (h : Dc H y) (hk : 2 ≤ k ∧ k ≤ 5) : Dc (ps_uI H 11 k (ii v)) (up y 0 k v) := by
  obtain ⟨⟨a0, a1, a2, a3, a4, a5⟩, ⟨a6, a7⟩, h1, h2⟩ := h
  have key : ∀ i, H 11 i = ii (y 0 i) → ps_uI H 11 k (ii v) 11 i = ii (up y 0 k v 0 i) := fun i hi => by
    by_cases q : i = k
    · subst q
      rw [uI_s, up_s]
    · rw [uI_o (by omega), up_o (by omega), hi]
  refine ⟨⟨key 0 a0, key 1 a1, key 2 a2, key 3 a3, key 4 a4, key 5 a5⟩, ⟨?_, ?_⟩, fun j hj => ?_, fun p hp => ?_⟩
  · rw [uI_o (by omega), up_o (by omega)]; exact a6
  · rw [uI_o (by omega), up_o (by omega)]; exact a7
  · rw [up_o (by omega)] at hj
    rw [uI_o (by omega), up_o (by omega)]; exact h1 j hj
  · rw [up_o (by omega)] at hp
    rw [uI_o (by omega), uI_o (by omega), uI_o (by omega), uI_o (by omega), uI_o (by omega), up_o (by omega), up_o (by omega), up_o (by omega), up_o (by omega), up_o (by omega)]
    exact h2 p hp
/-- told -/
theorem Dc_t {H : zM} {y : yS} {k : Nat} (h : Dc H y) (hk : k = 6 ∨ k = 7) : Dc (ps_uI H 8 (k - 1) (1 : Int32)) (up y 0 k 1) := by
  obtain ⟨⟨a0, a1, a2, a3, a4, a5⟩, ⟨a6, a7⟩, h1, h2⟩ := h
  have key : ∀ i, i < 6 → H 11 i = ii (y 0 i) → ps_uI H 8 (k - 1) (1 : Int32) 11 i = ii (up y 0 k 1 0 i) := fun i q hi => by
    rw [uI_o (by omega), up_o (by omega), hi]
  refine ⟨⟨key 0 (by omega) a0, key 1 (by omega) a1, key 2 (by omega) a2, key 3 (by omega) a3, key 4 (by omega) a4, key 5 (by omega) a5⟩, ?_, fun j hj => ?_, fun p hp => ?_⟩
  · rcases hk with rfl | rfl
    · exact ⟨by rw [uI_s, up_s]; rfl, by rw [uI_o (by omega), up_o (by omega)]; exact a7⟩
    · exact ⟨by rw [uI_o (by omega), up_o (by omega)]; exact a6, by rw [uI_s, up_s]; rfl⟩
  · rw [up_o (by omega)] at hj
    rw [uI_o (by omega), up_o (by omega)]; exact h1 j hj
  · rw [up_o (by omega)] at hp
    rw [uI_o (by omega), uI_o (by omega), uI_o (by omega), uI_o (by omega), uI_o (by omega), up_o (by omega), up_o (by omega), up_o (by omega), up_o (by omega), up_o (by omega)]
    exact h2 p hp
section
variable {H : zM} {b : Bool} {t : Nat → Int} {n : Nat} {S : rS} {y : yS}
theorem saw_c (hT : Tx t n H) (hR : Rd H S) (hf : fok n S) (hD : Dc H y) : ∃ H', f_X3_readSaw (mk H b) 8 = some (mk H' b) ∧ Rd H' (cS t n S y).1 ∧ Dc H' (cS t n S y).2 ∧ rg H H' := by
  have hn := hT.1
  obtain ⟨H1, f1, r1, o1⟩ := num_c (b := b) (lo := 1) (hi := 9) hT hR hf (by omega) (by omega)
  have k1 := (num_f (t := t) (lo := 1) (hi := 9) hn hf).1
  have g1 : rg H (ps_uI H1 11 2 (ii (nV t n S.1))) := rg_tr (rf_rg o1) (rg_u (by omega))
  have d1 := Dc_n (k := 2) (v := nV t n S.1) (Dc_rf hD o1) (by omega)
  obtain ⟨H2, f2, r2, o2⟩ := num_c (b := b) (lo := 0) (hi := 9) (Tx_rg hT g1) (Rd_u r1 (by omega)) k1 (by omega) (by omega)
  have k2 := (num_f (t := t) (lo := 0) (hi := 9) hn k1).1
  have g2 := rg_tr (rg_tr g1 (rf_rg o2)) (rg_u (c := 11) (k := 3) (v := ii (nV t n (num t n 1 9 S).1)) (by omega))
  have d2 := Dc_n (k := 3) (v := nV t n (num t n 1 9 S).1) (Dc_rf d1 o2) (by omega)
  obtain ⟨H3, f3, r3, o3⟩ := num_c (b := b) (lo := 0) (hi := 9) (Tx_rg hT g2) (Rd_u r2 (by omega)) k2 (by omega) (by omega)
  have k3 := (num_f (t := t) (lo := 0) (hi := 9) hn k2).1
  have g3 := rg_tr (rg_tr (rg_tr g2 (rf_rg o3)) (rg_u (c := 11) (k := 4) (v := ii (nV t n (num t n 0 9 (num t n 1 9 S)).1)) (by omega))) (rg_u (c := 8) (k := 5) (v := (1 : Int32)) (by omega))
  have d3 := Dc_t (k := 6) (Dc_n (k := 4) (v := nV t n (num t n 0 9 (num t n 1 9 S)).1) (Dc_rf d2 o3) (by omega)) (Or.inl rfl)
  obtain ⟨H4, f4, r4, o4⟩ := end_c (b := b) (Tx_rg hT g3) (Rd_u (Rd_u r3 (by omega)) (by omega)) k3
  refine ⟨H4, ?_, r4, Dc_rf d3 o4, rg_tr g3 (rf_rg o4)⟩
  unfold f_X3_readSaw
  rw [gR_mk zk_8 (zr_8_1 b), ck_mk zk_8, show (1 : Int32) = ii 1 by decide, show (9 : Int32) = ii 9 by decide, show (0 : Int32) = ii 0 by decide, f1, b2_mk, pI_mk zk_11, gR_mk zk_8 (zr_8_1 b), ck_mk zk_8, f2, b2_mk, pI_mk zk_11, gR_mk zk_8 (zr_8_1 b), ck_mk zk_8, f3, b2_mk, pI_mk zk_11, show ii 1 = (1 : Int32) by decide, pZ_mk zk_8 (Or.inr rfl), ck_mk zk_8, f4, b1_mk]
theorem closes_c {f : ps_M → Option ps_M} (hT : Tx t n H) (hR : Rd H S) (hf : fok n S) (hD : Dc H y) : ∃ H', ps_gR (mk H b) 8 3 1 (fun av10 => ps_ck (mk H b) 8 3 (ps_b2 (f_X3_readNumber (mk H b) 8 (0 : Int32) (12 : Int32)) (fun xv11 M => ps_pI M av10 7 5 xv11 (fun M => ps_pZ M 8 3 6 (1 : Int32) (fun M => ps_ck M 8 3 (ps_b1 (f_X3_readEnd M 8) f)))))) = f (mk H' b) ∧ Rd H' (cC t n S y).1 ∧ Dc H' (cC t n S y).2 ∧ rg H H' := by
  have hn := hT.1
  obtain ⟨H1, f1, r1, o1⟩ := num_c (b := b) (lo := 0) (hi := 12) hT hR hf (by omega) (by omega)
  have k1 := (num_f (t := t) (lo := 0) (hi := 12) hn hf).1
  have g1 := rg_tr (rg_tr (rf_rg o1) (rg_u (c := 11) (k := 5) (v := ii (nV t n S.1)) (by omega))) (rg_u (c := 8) (k := 6) (v := (1 : Int32)) (by omega))
  have d1 := Dc_t (k := 7) (Dc_n (k := 5) (v := nV t n S.1) (Dc_rf hD o1) (by omega)) (Or.inr rfl)
  obtain ⟨H4, f4, r4, o4⟩ := end_c (b := b) (Tx_rg hT g1) (Rd_u (Rd_u r1 (by omega)) (by omega)) k1
  refine ⟨H4, ?_, r4, Dc_rf d1 o4, rg_tr g1 (rf_rg o4)⟩
  rw [gR_mk zk_8 (zr_8_1 b), ck_mk zk_8, show (12 : Int32) = ii 12 by decide, show (0 : Int32) = ii 0 by decide, f1, b2_mk, pI_mk zk_11, pZ_mk zk_8 (Or.inr rfl), ck_mk zk_8, f4, b1_mk]
theorem person_c (hT : Tx t n H) (hR : Rd H S) (hf : fok n S) (hD : Dc H y) (hp : 0 ≤ y 0 1 ∧ y 0 1 < 4) : ∃ H', f_X3_readPerson (mk H b) 8 = some (mk H' b) ∧ Rd H' (cP t n S y).1 ∧ Dc H' (cP t n S y).2 ∧ rg H H' := by
  have hn := hT.1
  obtain ⟨p, hpp⟩ : ∃ p : Nat, y 0 1 = p := ⟨(y 0 1).toNat, by omega⟩
  have e1 : H 11 1 = ii (p : Int) := by rw [hD.1.2.1, hpp]
  obtain ⟨H1, f1, r1, o1⟩ := num_c (b := b) (lo := 1) (hi := 20) hT hR hf (by omega) (by omega)
  have k1 := (num_f (t := t) (lo := 1) (hi := 20) hn hf).1
  have g1 := rg_tr (rf_rg o1) (rg_u (c := 13) (k := p) (v := ii (nV t n S.1)) (by omega))
  obtain ⟨H2, f2, r2, o2⟩ := num_c (b := b) (lo := 0) (hi := 9) (Tx_rg hT g1) (Rd_u r1 (by omega)) k1 (by omega) (by omega)
  have k2 := (num_f (t := t) (lo := 0) (hi := 9) hn k1).1
  have g2 := rg_tr (rg_tr g1 (rf_rg o2)) (rg_u (c := 14) (k := p) (v := ii (nV t n (num t n 1 20 S).1)) (by omega))
  obtain ⟨H3, f3, r3, o3⟩ := num_c (b := b) (lo := 0) (hi := 5) (Tx_rg hT g2) (Rd_u r2 (by omega)) k2 (by omega) (by omega)
  have k3 := (num_f (t := t) (lo := 0) (hi := 5) hn k2).1
  have g3 := rg_tr (rg_tr g2 (rf_rg o3)) (rg_u (c := 15) (k := p) (v := ii (nV t n (num t n 0 9 (num t n 1 20 S)).1)) (by omega))
  obtain ⟨H4, f4, r4, o4⟩ := num_c (b := b) (lo := 0) (hi := 9) (Tx_rg hT g3) (Rd_u r3 (by omega)) k3 (by omega) (by omega)
  have k4 := (num_f (t := t) (lo := 0) (hi := 9) hn k3).1
  have g4 := rg_tr (rg_tr g3 (rf_rg o4)) (rg_u (c := 16) (k := p) (v := ii (nV t n (num t n 0 5 (num t n 0 9 (num t n 1 20 S))).1)) (by omega))
  obtain ⟨H5, f5, r5, o5⟩ := num_c (b := b) (lo := 0) (hi := 2) (Tx_rg hT g4) (Rd_u r4 (by omega)) k4 (by omega) (by omega)
  have k5 := (num_f (t := t) (lo := 0) (hi := 2) hn k4).1
  have g5 := rg_tr (rg_tr (rg_tr g4 (rf_rg o5)) (rg_u (c := 17) (k := p) (v := ii (nV t n (num t n 0 9 (num t n 0 5 (num t n 0 9 (num t n 1 20 S)))).1)) (by omega))) (rg_u (c := 11) (k := 1) (v := ii ((p + 1 : Nat) : Int)) (by omega))
  obtain ⟨H6, f6, r6, o6⟩ := end_c (b := b) (Tx_rg hT g5) (Rd_u (Rd_u r5 (by omega)) (by omega)) k5
  refine ⟨H6, ?_, r6, Dc_rf ?_ o6, rg_tr g5 (rf_rg o6)⟩
  · unfold f_X3_readPerson
    rw [gR_mk zk_8 (zr_8_1 b), gI_mk zk_11, e1, gR_mk zk_8 (zr_8_1 b), gR_mk zk_11 (zr_11_7 b), ck_mk zk_8, show (1 : Int32) = ii 1 by decide, show (20 : Int32) = ii 20 by decide, f1, b2_mk, put_mk zk_13 (by omega) (by rw [zl_13]; omega) (by rw [zl_13]; omega), b1_mk, Int.toNat_natCast, gR_mk zk_8 (zr_8_1 b), gR_mk zk_11 (zr_11_8 b), ck_mk zk_8, show (0 : Int32) = ii 0 by decide, show (9 : Int32) = ii 9 by decide, f2, b2_mk, put_mk zk_14 (by omega) (by rw [zl_14]; omega) (by rw [zl_14]; omega), b1_mk, Int.toNat_natCast, gR_mk zk_8 (zr_8_1 b), gR_mk zk_11 (zr_11_9 b), ck_mk zk_8, show (5 : Int32) = ii 5 by decide, f3, b2_mk, put_mk zk_15 (by omega) (by rw [zl_15]; omega) (by rw [zl_15]; omega), b1_mk, Int.toNat_natCast, gR_mk zk_8 (zr_8_1 b), gR_mk zk_11 (zr_11_10 b), ck_mk zk_8, f4, b2_mk, put_mk zk_16 (by omega) (by rw [zl_16]; omega) (by rw [zl_16]; omega), b1_mk, Int.toNat_natCast, gR_mk zk_8 (zr_8_1 b), gR_mk zk_11 (zr_11_11 b), ck_mk zk_8, show (2 : Int32) = ii 2 by decide, f5, b2_mk, put_mk zk_17 (by omega) (by rw [zl_17]; omega) (by rw [zl_17]; omega), b1_mk, Int.toNat_natCast, gR_mk zk_8 (zr_8_1 b), pI_mk zk_11, ck_mk zk_8, show ii (p : Int) + ii 1 = ii ((p + 1 : Nat) : Int) by rw [ii_add]; rfl, f6, b1_mk]
  · have key : ∀ c k, ¬ (c = 8 ∧ 2 ≤ k ∧ k ≤ 4) → ¬ (c = 11 ∧ k = 1) → ¬ (13 ≤ c ∧ c ≤ 17 ∧ k = p) → ps_uI (ps_uI H5 17 p (ii (nV t n (num t n 0 9 (num t n 0 5 (num t n 0 9 (num t n 1 20 S)))).1))) 11 1 (ii ((p + 1 : Nat) : Int)) c k = H c k := fun c k q1 q2 q3 => by
      rw [uI_o (by omega), uI_o (by omega), o5 c k q1, uI_o (by omega), o4 c k q1, uI_o (by omega), o3 c k q1, uI_o (by omega), o2 c k q1, uI_o (by omega), o1 c k q1]
    obtain ⟨⟨a0, a1, a2, a3, a4, a5⟩, ⟨a6, a7⟩, h1, h2⟩ := hD
    unfold cP
    rw [hpp, Int.toNat_natCast]
    refine ⟨⟨?_, ?_, ?_, ?_, ?_, ?_⟩, ⟨?_, ?_⟩, fun j hj => ?_, fun q hq => ?_⟩
    · rw [key 11 0 (by omega) (by omega) (by omega)]; simp [up, a0]
    · rw [uI_s]; simp [up]
    · rw [key 11 2 (by omega) (by omega) (by omega)]; simp [up, a2]
    · rw [key 11 3 (by omega) (by omega) (by omega)]; simp [up, a3]
    · rw [key 11 4 (by omega) (by omega) (by omega)]; simp [up, a4]
    · rw [key 11 5 (by omega) (by omega) (by omega)]; simp [up, a5]
    · rw [key 8 5 (by omega) (by omega) (by omega)]; simp [up, a6]
    · rw [key 8 6 (by omega) (by omega) (by omega)]; simp [up, a7]
    · rw [key 12 j (by omega) (by omega) (by omega)]
      simp [up] at hj ⊢
      rw [h1 j hj]
    · by_cases w : q = p
      · subst w
        refine ⟨?_, ?_, ?_, ?_, ?_⟩
        · rw [uI_o (by omega), uI_o (by omega), o5 _ _ (by omega), uI_o (by omega), o4 _ _ (by omega), uI_o (by omega), o3 _ _ (by omega), uI_o (by omega), o2 _ _ (by omega), uI_s]; simp [up]
        · rw [uI_o (by omega), uI_o (by omega), o5 _ _ (by omega), uI_o (by omega), o4 _ _ (by omega), uI_o (by omega), o3 _ _ (by omega), uI_s]; simp [up]
        · rw [uI_o (by omega), uI_o (by omega), o5 _ _ (by omega), uI_o (by omega), o4 _ _ (by omega), uI_s]; simp [up]
        · rw [uI_o (by omega), uI_o (by omega), o5 _ _ (by omega), uI_s]; simp [up]
        · rw [uI_o (by omega), uI_s]; simp [up]
      · have hq' : (q : Int) < y 0 1 := by
          simp [up] at hq
          omega
        obtain ⟨b1, b2, b3, b4, b5⟩ := h2 q hq'
        rw [key 13 q (by omega) (by omega) (by omega), key 14 q (by omega) (by omega) (by omega), key 15 q (by omega) (by omega) (by omega), key 16 q (by omega) (by omega) (by omega), key 17 q (by omega) (by omega) (by omega)]
        simp [up, w, b1, b2, b3, b4, b5]
theorem layers_c : ∀ (d i mm : Nat) (H : zM) (S : rS) (y : yS), i + d = 12 → d < mm → Tx t n H → Rd H S → fok n S → Dc H y → y 0 0 = i → ∃ H', f_X3_readLayers_l2 mm (mk H b) 8 (ii (i : Int)) = some (mk H' b) ∧ Rd H' (cL t n d i S y).1 ∧ Dc H' (cL t n d i S y).2 ∧ rg H H' := by
  have e83 : ∀ (H : zM) (S : rS) (y : yS), Tx t n H → Rd H S → fok n S → Dc H y → ∃ H', f_X3_readLayers_b83 (mk H b) 8 = some (mk H' b) ∧ Rd H' (fin t n S) ∧ Dc H' y ∧ rg H H' := fun H S y hT hR hf hD => by
    obtain ⟨H', f4, r4, o4⟩ := end_c (b := b) hT hR hf
    refine ⟨H', ?_, r4, Dc_rf hD o4, rf_rg o4⟩
    unfold f_X3_readLayers_b83
    rw [ck_mk zk_8, f4, b1_mk]
  intro d
  induction d with
  | zero =>
    intro i mm H S y he hmm hT hR hf hD h0
    obtain ⟨m', rfl⟩ : ∃ m', mm = m' + 1 := ⟨mm - 1, by omega⟩
    show ∃ H', f_X3_readLayers_w2 (f_X3_readLayers_l2 m') (mk H b) 8 (ii (i : Int)) = _ ∧ _
    unfold f_X3_readLayers_w2 cL
    rw [if_pos (by rw [show (12 : Int32) = ii 12 by decide, ii_le (by omega) (by omega) (by omega) (by omega)]; omega)]
    exact e83 H S y hT hR hf hD
  | succ d ih =>
    intro i mm H S y he hmm hT hR hf hD h0
    obtain ⟨m', rfl⟩ : ∃ m', mm = m' + 1 := ⟨mm - 1, by omega⟩
    have hn := hT.1
    show ∃ H', f_X3_readLayers_w2 (f_X3_readLayers_l2 m') (mk H b) 8 (ii (i : Int)) = _ ∧ _
    obtain ⟨H1, f1, r1, o1⟩ := num_c (b := b) (lo := 1) (hi := 9) hT hR hf (by omega) (by omega)
    have k1 := (num_f (t := t) (lo := 1) (hi := 9) hn hf).1
    have g1 := rg_tr (rg_tr (rf_rg o1) (rg_u (c := 12) (k := i) (v := ii (nV t n S.1)) (by omega))) (rg_u (c := 11) (k := 0) (v := ii ((i + 1 : Nat) : Int)) (by omega))
    have d1 : Dc (ps_uI (ps_uI H1 12 i (ii (nV t n S.1))) 11 0 (ii ((i + 1 : Nat) : Int))) (up (up y 1 i (nV t n S.1)) 0 0 ((i + 1 : Nat) : Int)) := by
      have key : ∀ c k, ¬ (c = 8 ∧ 2 ≤ k ∧ k ≤ 4) → ¬ (c = 11 ∧ k = 0) → ¬ (c = 12 ∧ k = i) → ps_uI (ps_uI H1 12 i (ii (nV t n S.1))) 11 0 (ii ((i + 1 : Nat) : Int)) c k = H c k := fun c k q1 q2 q3 => by
        rw [uI_o (by omega), uI_o (by omega), o1 c k q1]
      obtain ⟨⟨a0, a1, a2, a3, a4, a5⟩, ⟨a6, a7⟩, h1, h2⟩ := hD
      refine ⟨⟨?_, ?_, ?_, ?_, ?_, ?_⟩, ⟨?_, ?_⟩, fun j hj => ?_, fun q hq => ?_⟩
      · rw [uI_s, up_s]
      · rw [key 11 1 (by omega) (by omega) (by omega)]; simp [up, a1]
      · rw [key 11 2 (by omega) (by omega) (by omega)]; simp [up, a2]
      · rw [key 11 3 (by omega) (by omega) (by omega)]; simp [up, a3]
      · rw [key 11 4 (by omega) (by omega) (by omega)]; simp [up, a4]
      · rw [key 11 5 (by omega) (by omega) (by omega)]; simp [up, a5]
      · rw [key 8 5 (by omega) (by omega) (by omega)]; simp [up, a6]
      · rw [key 8 6 (by omega) (by omega) (by omega)]; simp [up, a7]
      · rw [up_s] at hj
        by_cases w : j = i
        · subst w
          rw [uI_o (by omega), uI_s]; simp [up]
        · rw [key 12 j (by omega) (by omega) (by omega)]
          simp [up, w, h1 j (by omega)]
      · rw [up_o (by omega), up_o (by omega)] at hq
        rw [key 13 q (by omega) (by omega) (by omega), key 14 q (by omega) (by omega) (by omega), key 15 q (by omega) (by omega) (by omega), key 16 q (by omega) (by omega) (by omega), key 17 q (by omega) (by omega) (by omega)]
        have := h2 q hq
        simp [up, this]
    obtain ⟨H2, f2, r2, o2⟩ := skipb_c (b := b) (Tx_rg hT g1) (Rd_u (Rd_u r1 (by omega)) (by omega)) k1.1
    have hs := sk_b (t := t) k1.1
    have k2 : fok n (sk t n (num t n 1 9 S).1, (num t n 1 9 S).2) := ⟨hs.2, k1.2⟩
    have g2 := rg_tr g1 (rf_rg o2)
    have d2 := Dc_rf d1 o2
    have hb := mkk_b hT (sk t n (num t n 1 9 S).1)
    unfold f_X3_readLayers_w2 cL
    rw [if_neg (by rw [show (12 : Int32) = ii 12 by decide, ii_le (by omega) (by omega) (by omega) (by omega)]; omega), gR_mk zk_8 (zr_8_1 b), gR_mk zk_11 (zr_11_6 b), ck_mk zk_8, show f_X3_readNumber (mk H b) 8 (1 : Int32) (9 : Int32) = _ from f1, b2_mk, put_mk zk_12 (by omega) (by rw [zl_12]; omega) (by rw [zl_12]; omega), b1_mk, Int.toNat_natCast, gR_mk zk_8 (zr_8_1 b), pI_mk zk_11, ck_mk zk_8, suc_ii, f2, b1_mk]
    by_cases q1 : i + 1 = 12
    · rw [if_pos (by rw [q1]; decide), if_pos (Or.inl q1)]
      obtain ⟨H', f3, r3, d3, o3⟩ := e83 H2 _ _ (Tx_rg hT g2) r2 k2 d2
      exact ⟨H', f3, r3, d3, rg_tr g2 o3⟩
    · rw [if_neg (by rw [show (12 : Int32) = ii 12 by decide, ii_eq (by omega) (by omega) (by omega) (by omega)]; omega), gR_mk zk_8 (zr_8_0 b), gI_mk zk_8, r2.1, ck_mk zk_9, tmark_c (Tx_rg hT g2) hs.2, b2_mk]
      by_cases q2 : mkk t n (sk t n (num t n 1 9 S).1) = 44
      · have hlt := mkk_i (t := t) (n := n) (p := sk t n (num t n 1 9 S).1) (by rw [q2]; decide)
        rw [if_pos (by rw [q2]; decide), if_neg (by omega), gI_mk zk_8, pI_mk zk_8, r2.1, v_mk, show (ii (sk t n (num t n 1 9 S).1 : Int) + (1 : Int32)) = ii ((sk t n (num t n 1 9 S).1 + 1 : Nat) : Int) from suc_ii _]
        have g3 := rg_tr g2 (rg_u (c := 8) (k := 4) (v := ii ((sk t n (num t n 1 9 S).1 + 1 : Nat) : Int)) (by omega))
        obtain ⟨H', f3, r3, d3, o3⟩ := ih (i + 1) m' (ps_uI H2 8 4 (ii ((sk t n (num t n 1 9 S).1 + 1 : Nat) : Int))) (sk t n (num t n 1 9 S).1 + 1, (num t n 1 9 S).2) (up (up y 1 i (nV t n S.1)) 0 0 ((i + 1 : Nat) : Int)) (by omega) (by omega) (Tx_rg hT g3) ⟨uI_s, by rw [uI_o (by omega)]; exact r2.2.1, by rw [uI_o (by omega)]; exact r2.2.2⟩ ⟨hlt, k1.2⟩ (Dc_rf d2 (fun c k q => uI_o (by omega))) up_s
        exact ⟨H', f3, r3, d3, rg_tr g3 o3⟩
      · rw [if_neg (by rw [show (44 : Int32) = ii 44 by decide, ii_eq (by omega) (by omega) (by omega) (by omega)]; exact q2), if_pos (Or.inr q2)]
        obtain ⟨H', f3, r3, d3, o3⟩ := e83 H2 _ _ (Tx_rg hT g2) r2 k2 d2
        exact ⟨H', f3, r3, d3, rg_tr g2 o3⟩
end
