/-! the text, read by the class -/
/-- the text's sheet -/
def Tx (t : Nat → Int) (n : Nat) (H : zM) : Prop := n ≤ 250 ∧ H 9 1 = ii n ∧ ∀ j, j < n → H 10 j = ii (t j) ∧ 0 ≤ t j ∧ t j ≤ 255
/-- the reader stands so -/
def Rd (H : zM) (S : rS) : Prop := H 8 4 = ii (S.1 : Int) ∧ H 8 2 = ii S.2.1 ∧ H 8 3 = ii S.2.2
/-- only the reader's place and fault -/
def rf (H H' : zM) : Prop := ∀ c k, ¬ (c = 8 ∧ 2 ≤ k ∧ k ≤ 4) → H' c k = H c k
theorem rf_tr {H H1 H2 : zM} (a : rf H H1) (c : rf H1 H2) : rf H H2 := fun i k q => (c i k q).trans (a i k q)
theorem Tx_c {t : Nat → Int} {n : Nat} {H H' : zM} (h : Tx t n H) (hc : ∀ c k, c = 9 ∨ c = 10 → H' c k = H c k) : Tx t n H' := ⟨h.1, by rw [hc 9 1 (by omega)]; exact h.2.1, fun j hj => by rw [hc 10 j (by omega)]; exact h.2.2 j hj⟩
theorem Tx_rf {t : Nat → Int} {n : Nat} {H H' : zM} (h : Tx t n H) (hc : rf H H') : Tx t n H' := Tx_c h (fun c k q => hc c k (by omega))
section
variable {H : zM} {b : Bool} {t : Nat → Int} {n : Nat}
theorem mkk_b (hT : Tx t n H) (p : Nat) : -1 ≤ mkk t n p ∧ mkk t n p ≤ 255 := by
  unfold mkk
  split
  · rename_i q
    have := hT.2.2 p q
    omega
  · omega
theorem tmark_c (hT : Tx t n H) {p : Nat} (hp : p ≤ n) : f_X5_mark (mk H b) 9 (ii (p : Int)) = some (ii (mkk t n p), mk H b) := by
  obtain ⟨h1, h2, h3⟩ := hT
  unfold f_X5_mark mkk
  rw [if_neg (by rw [ii_lits.1, ii_lt (by omega) (by omega) (by omega) (by omega)]; omega), gI_mk zk_9, h2]
  by_cases q : p < n
  · rw [if_neg (by rw [ii_le (by omega) (by omega) (by omega) (by omega)]; omega), gR_mk zk_9 (zr_9_0 b), aL_mk zk_10, zl_10, if_neg (by rw [ii_le (by omega) (by omega) (by omega) (by omega)]; omega), gR_mk zk_9 (zr_9_0 b), aI_mk zk_10 (by omega) (by rw [zl_10]; omega) (by rw [zl_10]; omega), Int.toNat_natCast, (h3 p q).1, if_pos q]
    rfl
  · rw [if_pos (by rw [ii_le (by omega) (by omega) (by omega) (by omega)]; omega), if_neg q]
    rfl
theorem skip_c : ∀ (d i mm p : Nat) (H : zM), i + d = 250 → d < mm → Tx t n H → H 8 4 = ii (p : Int) → p ≤ n → f_X3_skipBlanks_l2 mm (mk H b) 8 (ii (i : Int)) = some (mk (ps_uI H 8 4 (ii (ske t n d p : Int))) b) := by
  intro d
  induction d with
  | zero =>
    intro i mm p H he hmm hT h4 hp
    obtain ⟨m', rfl⟩ : ∃ m', mm = m' + 1 := ⟨mm - 1, by omega⟩
    show f_X3_skipBlanks_w2 (f_X3_skipBlanks_l2 m') (mk H b) 8 (ii (i : Int)) = _
    unfold f_X3_skipBlanks_w2 f_X3_skipBlanks_b41
    rw [if_pos (by rw [show (250 : Int32) = ii 250 by decide, ii_le (by omega) (by omega) (by omega) (by omega)]; omega), show ske t n 0 p = p from rfl, uI_id h4]
  | succ d ih =>
    intro i mm p H he hmm hT h4 hp
    obtain ⟨m', rfl⟩ : ∃ m', mm = m' + 1 := ⟨mm - 1, by omega⟩
    have hb := mkk_b hT p
    have hn := hT.1
    show f_X3_skipBlanks_w2 (f_X3_skipBlanks_l2 m') (mk H b) 8 (ii (i : Int)) = _
    unfold f_X3_skipBlanks_w2 f_X3_skipBlanks_b41
    rw [if_neg (by rw [show (250 : Int32) = ii 250 by decide, ii_le (by omega) (by omega) (by omega) (by omega)]; omega), gR_mk zk_8 (zr_8_0 b), gI_mk zk_8, h4, ck_mk zk_9, tmark_c hT hp, b2_mk, show (32 : Int32) = ii 32 by decide]
    unfold ske
    by_cases q : mkk t n p = 32
    · have hpn := mkk_i (t := t) (n := n) (p := p) (by rw [q]; decide)
      rw [if_pos (by rw [q]), if_pos q, gI_mk zk_8, pI_mk zk_8, h4, show (ii (p : Int) + (1 : Int32)) = ii ((p + 1 : Nat) : Int) from suc_ii p, suc_ii, v_mk, ih (i + 1) m' (p + 1) (ps_uI H 8 4 (ii ((p + 1 : Nat) : Int))) (by omega) (by omega) (Tx_c hT (fun c k q => uI_o (by omega))) uI_s (by omega), uI_uI]
    · rw [if_neg (by rw [ii_eq (by omega) (by omega) (by omega) (by omega)]; exact q), if_neg q, uI_id h4]
theorem skipb_c {S : rS} (hT : Tx t n H) (hR : Rd H S) (hp : S.1 ≤ n) : ∃ H', f_X3_skipBlanks (mk H b) 8 = some (mk H' b) ∧ Rd H' (sk t n S.1, S.2) ∧ rf H H' := by
  refine ⟨_, skip_c 250 0 ps_fu S.1 H (by omega) (by unfold ps_fu; omega) hT hR.1 hp, ⟨uI_s, ?_, ?_⟩, fun c k q => uI_o (by omega)⟩
  · rw [uI_o (by omega)]; exact hR.2.1
  · rw [uI_o (by omega)]; exact hR.2.2
theorem mark_c {S : rS} {k w : Int} (hR : Rd H S) (hf : fok n S) (hk : k ≠ 0) : ∃ H', f_X3_markFault (mk H b) 8 (ii k) (ii w) = some (mk H' b) ∧ Rd H' (S.1, mk2 S.2 k w) ∧ rf H H' := by
  obtain ⟨h4, h2, h3⟩ := hR
  obtain ⟨f1, f2, f3, f4, f5⟩ := hf
  unfold f_X3_markFault f_X3_markFault_b17
  rw [gI_mk zk_8, h2, show (0 : Int32) = ii 0 by decide]
  by_cases q : S.2.1 = 0
  · rw [if_pos (by rw [q]), pI_mk zk_8, pI_mk zk_8, mk2_k.2.2.2 q hk]
    exact ⟨_, rfl, ⟨by rw [uI_o (by omega), uI_o (by omega)]; exact h4, by rw [uI_o (by omega), uI_s], uI_s⟩, fun c k q => by rw [uI_o (by omega), uI_o (by omega)]⟩
  · rw [if_neg (by rw [ii_eq (by omega) (by omega) (by omega) (by omega)]; exact q), mk2_k.2.1 q]
    exact ⟨H, rfl, ⟨h4, h2, h3⟩, fun _ _ _ => rfl⟩
theorem fig_mk {M : ps_M} {x : Int} (hx : -1 ≤ x ∧ x ≤ 255) : f_X3_isFigure M (ii x) = some (ii (if 48 ≤ x ∧ x ≤ 57 then 1 else 0), M) := by
  unfold f_X3_isFigure f_X3_isFigure_b16 f_X3_isFigure_b17
  rw [show (48 : Int32) = ii 48 by decide, show (57 : Int32) = ii 57 by decide]
  by_cases q1 : x < 48
  · rw [if_pos (by rw [ii_lt (by omega) (by omega) (by omega) (by omega)]; exact q1), if_neg (by omega)]
    rfl
  · rw [if_neg (by rw [ii_lt (by omega) (by omega) (by omega) (by omega)]; exact q1)]
    by_cases q2 : 57 < x
    · rw [if_pos (by rw [ii_lt (by omega) (by omega) (by omega) (by omega)]; exact q2), if_neg (by omega)]
      rfl
    · rw [if_neg (by rw [ii_lt (by omega) (by omega) (by omega) (by omega)]; exact q2), if_pos (by omega)]
      rfl
theorem digs_c {lo hi : Int} {s : Nat} : ∀ (d i mm p : Nat) (v : Int) (H : zM), i + d = 250 → d < mm → Tx t n H → H 8 4 = ii (p : Int) → p ≤ n → wth i v → f_X3_readNumber_l15 mm (mk H b) 8 (ii lo) (ii hi) (ii (s : Int)) (ii v) (ii (i : Int)) = f_X3_readNumber_b89 (mk (ps_uI H 8 4 (ii (dge t n d p : Int))) b) 8 (ii lo) (ii hi) (ii (s : Int)) (ii (dgv t n d i p v)) := by
  intro d
  induction d with
  | zero =>
    intro i mm p v H he hmm hT h4 hp hw
    obtain ⟨m', rfl⟩ : ∃ m', mm = m' + 1 := ⟨mm - 1, by omega⟩
    show f_X3_readNumber_w15 (f_X3_readNumber_l15 m') (mk H b) 8 (ii lo) (ii hi) (ii (s : Int)) (ii v) (ii (i : Int)) = _
    unfold f_X3_readNumber_w15
    rw [if_pos (by rw [show (250 : Int32) = ii 250 by decide, ii_le (by omega) (by omega) (by omega) (by omega)]; omega), show dge t n 0 p = p from rfl, uI_id h4]
    rfl
  | succ d ih =>
    intro i mm p v H he hmm hT h4 hp hw
    obtain ⟨m', rfl⟩ : ∃ m', mm = m' + 1 := ⟨mm - 1, by omega⟩
    have hb := mkk_b hT p
    have hn := hT.1
    show f_X3_readNumber_w15 (f_X3_readNumber_l15 m') (mk H b) 8 (ii lo) (ii hi) (ii (s : Int)) (ii v) (ii (i : Int)) = _
    unfold f_X3_readNumber_w15
    rw [if_neg (by rw [show (250 : Int32) = ii 250 by decide, ii_le (by omega) (by omega) (by omega) (by omega)]; omega), gR_mk zk_8 (zr_8_0 b), gI_mk zk_8, h4, ck_mk zk_9, tmark_c hT hp, b2_mk, fig_mk hb, b2_mk]
    unfold dge dgv
    by_cases q : dig t n p
    · have hpn := dig_i q
      have e71 : ∀ z : Int, f_X3_readNumber_b71 (f_X3_readNumber_l15 m') (mk H b) 8 (ii lo) (ii hi) (ii (s : Int)) (ii (i : Int)) (ii z) = f_X3_readNumber_l15 m' (mk (ps_uI H 8 4 (ii ((p + 1 : Nat) : Int))) b) 8 (ii lo) (ii hi) (ii (s : Int)) (ii z) (ii ((i + 1 : Nat) : Int)) := fun z => by
        unfold f_X3_readNumber_b71
        rw [gI_mk zk_8, pI_mk zk_8, h4, show (ii (p : Int) + (1 : Int32)) = ii ((p + 1 : Nat) : Int) from suc_ii p, suc_ii, v_mk]
      have hgo := ih (i + 1) m' (p + 1) (if 3 ≤ i then v else v * 10 + mkk t n p - 48) (ps_uI H 8 4 (ii ((p + 1 : Nat) : Int))) (by omega) (by omega) (Tx_c hT (fun c k q => uI_o (by omega))) uI_s (by omega) (wth_s hw q)
      rw [uI_uI] at hgo
      rw [if_pos (show 48 ≤ mkk t n p ∧ mkk t n p ≤ 57 from q), if_neg (by decide), if_pos q, if_pos q, ← hgo]
      by_cases q3 : 3 ≤ i
      · rw [if_pos (by rw [ii_lits.2.2.2.1, ii_le (by omega) (by omega) (by omega) (by omega)]; omega), e71, if_pos q3]
      · rw [if_neg (by rw [ii_lits.2.2.2.1, ii_le (by omega) (by omega) (by omega) (by omega)]; omega), gR_mk zk_8 (zr_8_0 b), gI_mk zk_8, h4, ck_mk zk_9, tmark_c hT hp, b2_mk, show (10 : Int32) = ii 10 by decide, show (48 : Int32) = ii 48 by decide, ii_mul, ii_add, ii_sub, e71, if_neg q3]
    · rw [if_neg (show ¬ (48 ≤ mkk t n p ∧ mkk t n p ≤ 57) from q), if_pos (by decide), if_neg q, if_neg q, uI_id h4]
theorem num_c {lo hi : Int} {S : rS} (hT : Tx t n H) (hR : Rd H S) (hf : fok n S) (hlo : 0 ≤ lo ∧ lo ≤ 20) (hhi : 0 ≤ hi ∧ hi ≤ 20) : ∃ H', f_X3_readNumber (mk H b) 8 (ii lo) (ii hi) = some (ii (nV t n S.1), mk H' b) ∧ Rd H' (num t n lo hi S) ∧ rf H H' := by
  have hn := hT.1
  obtain ⟨H1, f1, r1, o1⟩ := skipb_c (b := b) hT hR hf.1
  have hT1 := Tx_rf hT o1
  have hs := sk_b (t := t) hf.1
  have he := nE_b (t := t) hf.1
  have hv := nV_b (t := t) (n := n) S.1
  have f2 := digs_c (b := b) (lo := lo) (hi := hi) (s := sk t n S.1) 250 0 ps_fu (sk t n S.1) 0 H1 (by omega) (by unfold ps_fu; omega) hT1 r1.1 hs.2 wth_0
  have hR2 : Rd (ps_uI H1 8 4 (ii (nE t n S.1 : Int))) (nE t n S.1, S.2) := ⟨uI_s, by rw [uI_o (by omega)]; exact r1.2.1, by rw [uI_o (by omega)]; exact r1.2.2⟩
  have o2 : rf H (ps_uI H1 8 4 (ii (nE t n S.1 : Int))) := fun c k q => by rw [uI_o (by omega), o1 c k q]
  have f3 : f_X3_readNumber (mk H b) 8 (ii lo) (ii hi) = f_X3_readNumber_b89 (mk (ps_uI H1 8 4 (ii (nE t n S.1 : Int))) b) 8 (ii lo) (ii hi) (ii (sk t n S.1 : Int)) (ii (nV t n S.1)) := by
    unfold f_X3_readNumber
    rw [ck_mk zk_8, f1, b1_mk, gI_mk zk_8, r1.1]
    exact f2
  rw [f3]
  generalize ps_uI H1 8 4 (ii (nE t n S.1 : Int)) = H2 at hR2 o2
  have hf2 : fok n (nE t n S.1, S.2) := ⟨he.2.1, hf.2⟩
  have e128 : nK t n lo hi S.1 = 2 → ∃ H', f_X3_readNumber_b128 (mk H2 b) 8 (ii (sk t n S.1 : Int)) (ii (nV t n S.1)) = some (ii (nV t n S.1), mk H' b) ∧ Rd H' (num t n lo hi S) ∧ rf H H' := fun hk => by
    obtain ⟨H', f4, r4, o4⟩ := mark_c (b := b) (k := 2) (w := (sk t n S.1 : Int)) hR2 hf2 (by decide)
    refine ⟨H', ?_, ?_, rf_tr o2 o4⟩
    · unfold f_X3_readNumber_b128 f_X3_readNumber_b134
      rw [ck_mk zk_8, show (2 : Int32) = ii 2 by decide, f4, b1_mk]
    · unfold num
      rw [hk]
      exact r4
  have h4 := hR2.1
  unfold f_X3_readNumber_b89
  rw [gI_mk zk_8, h4]
  show ∃ H', (if ii (nE t n S.1 : Int) = ii (sk t n S.1 : Int) then _ else _) = _ ∧ _
  by_cases q : nE t n S.1 = sk t n S.1
  · rw [if_pos (by rw [q])]
    obtain ⟨H', f4, r4, o4⟩ := mark_c (b := b) (k := 1) (w := (sk t n S.1 : Int)) hR2 hf2 (by decide)
    refine ⟨H', ?_, ?_, rf_tr o2 o4⟩
    · unfold f_X3_readNumber_b134
      rw [ck_mk zk_8, show (1 : Int32) = ii 1 by decide, f4, b1_mk]
    · have hk : nK t n lo hi S.1 = 1 := by unfold nK; rw [if_pos q]
      unfold num
      rw [hk]
      exact r4
  · rw [if_neg (by rw [ii_eq (by omega) (by omega) (by omega) (by omega)]; omega), gI_mk zk_8, h4, ii_sub, show (3 : Int32) = ii 3 by decide]
    by_cases q1 : 3 < nE t n S.1 - sk t n S.1
    · rw [if_pos (by rw [ii_lt (by omega) (by omega) (by omega) (by omega)]; omega)]
      exact e128 (by unfold nK; rw [if_neg q, if_pos (Or.inl q1)])
    · rw [if_neg (by rw [ii_lt (by omega) (by omega) (by omega) (by omega)]; omega)]
      by_cases q2 : nV t n S.1 < lo
      · rw [if_pos (by rw [ii_lt (by omega) (by omega) (by omega) (by omega)]; omega)]
        exact e128 (by unfold nK; rw [if_neg q, if_pos (Or.inr (Or.inl q2))])
      · rw [if_neg (by rw [ii_lt (by omega) (by omega) (by omega) (by omega)]; omega)]
        by_cases q3 : nV t n S.1 ≤ hi
        · rw [if_pos (by rw [ii_le (by omega) (by omega) (by omega) (by omega)]; omega)]
          refine ⟨H2, rfl, ?_, o2⟩
          have hk : nK t n lo hi S.1 = 0 := by unfold nK; rw [if_neg q, if_neg (by omega)]
          unfold num
          rw [hk, mk2_k.2.2.1 rfl]
          exact hR2
        · rw [if_neg (by rw [ii_le (by omega) (by omega) (by omega) (by omega)]; omega)]
          exact e128 (by unfold nK; rw [if_neg q, if_pos (Or.inr (Or.inr (by omega)))])
theorem end_c {S : rS} (hT : Tx t n H) (hR : Rd H S) (hf : fok n S) : ∃ H', f_X3_readEnd (mk H b) 8 = some (mk H' b) ∧ Rd H' (fin t n S) ∧ rf H H' := by
  obtain ⟨H1, f1, r1, o1⟩ := skipb_c (b := b) hT hR hf.1
  have hT1 := Tx_rf hT o1
  have hs := sk_b (t := t) hf.1
  have hb := mkk_b hT (sk t n S.1)
  unfold f_X3_readEnd f_X3_readEnd_b42 fin
  rw [ck_mk zk_8, f1, b1_mk, gR_mk zk_8 (zr_8_0 b), gI_mk zk_8, r1.1, ck_mk zk_9, tmark_c hT1 hs.2, b2_mk, show (59 : Int32) = ii 59 by decide]
  by_cases q : mkk t n (sk t n S.1) = 59
  · rw [if_pos (by rw [q]), if_pos q, gI_mk zk_8, pI_mk zk_8, r1.1]
    exact ⟨_, rfl, ⟨by rw [uI_s]; exact suc_ii _, by rw [uI_o (by omega)]; exact r1.2.1, by rw [uI_o (by omega)]; exact r1.2.2⟩, fun c k q => by rw [uI_o (by omega), o1 c k q]⟩
  · rw [if_neg (by rw [ii_eq (by omega) (by omega) (by omega) (by omega)]; exact q), if_neg q, gI_mk zk_8, r1.1, ck_mk zk_8]
    obtain ⟨H', f4, r4, o4⟩ := mark_c (b := b) (k := 1) (w := (sk t n S.1 : Int)) r1 (⟨hs.2, hf.2⟩ : fok n (sk t n S.1, S.2)) (by decide)
    refine ⟨H', ?_, r4, rf_tr o1 o4⟩
    show ps_b1 (f_X3_markFault (mk H1 b) 8 (1 : Int32) (ii (sk t n S.1 : Int))) _ = _
    rw [show (1 : Int32) = ii 1 by decide, f4, b1_mk]
end
