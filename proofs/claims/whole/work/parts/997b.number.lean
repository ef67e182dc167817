/-! the text, read by the other side: a number -/
section
variable {H : zM} {b : Bool} {t : Nat → Int} {n : Nat}
theorem dge_s (d p : Nat) : dge t n (d + 1) p = if dig t n p then dge t n d (p + 1) else p := rfl
theorem digs_m {lo hi : Int} {s : Nat} : ∀ (d i mm p : Nat) (v vc : Int) (H : zM), d < mm → n ≤ p + d → s + i = p → Tm t n H → H 205 22 = ii (p : Int) → p ≤ n → 0 ≤ v → v ≤ 999999 → (i ≤ 3 → v = vc ∧ wth i vc) → ∃ u : Int, f_X10_takeNumber_l50 mm (mk H b) 205 (ii lo) (ii hi) (ii v) = f_X10_takeNumber_b128 (mk (ps_uI H 205 22 (ii (dge t n d p : Int))) b) 205 (ii lo) (ii hi) (ii u) ∧ 0 ≤ u ∧ u ≤ 999999 ∧ (dge t n d p - s ≤ 3 → u = dgv t n d i p vc) := by
  intro d
  induction d with
  | zero =>
    intro i mm p v vc H hmm hnd hs hT h4 hp v0 v9 hv
    obtain ⟨m', rfl⟩ : ∃ m', mm = m' + 1 := ⟨mm - 1, by omega⟩
    have hn := hT.1
    refine ⟨v, ?_, v0, v9, fun q => (hv (by have : dge t n 0 p = p := rfl; omega)).1⟩
    show f_X10_takeNumber_w50 (f_X10_takeNumber_l50 m') (mk H b) 205 (ii lo) (ii hi) (ii v) = _
    unfold f_X10_takeNumber_w50
    rw [gI_mk zk_205, h4, gI_mk zk_205, hT.2.1, if_pos (by rw [ii_le (by omega) (by omega) (by omega) (by omega)]; omega), show dge t n 0 p = p from rfl, uI_id h4]
  | succ d ih =>
    intro i mm p v vc H hmm hnd hs hT h4 hp v0 v9 hv
    obtain ⟨m', rfl⟩ : ∃ m', mm = m' + 1 := ⟨mm - 1, by omega⟩
    have hn := hT.1
    show ∃ u : Int, f_X10_takeNumber_w50 (f_X10_takeNumber_l50 m') (mk H b) 205 (ii lo) (ii hi) (ii v) = _ ∧ _
    unfold f_X10_takeNumber_w50 dge dgv
    rw [gI_mk zk_205, h4, gI_mk zk_205, hT.2.1]
    by_cases q : p < n
    · have e : mkk t n p = t p := by unfold mkk; rw [if_pos q]
      have hb := mkk_m hT p
      rw [if_neg (by rw [ii_le (by omega) (by omega) (by omega) (by omega)]; omega), gR_mk zk_205 (zr_205_20 b), gI_mk zk_205, h4, aI_mk zk_214 (by omega) (by rw [zl_214]; omega) (by rw [zl_214]; omega), Int.toNat_natCast, (hT.2.2 p q).1, ← e, ii_l64 (by omega) (by omega), show (48 : Int64) = l64 48 by decide, show (57 : Int64) = l64 57 by decide, in_mk (by omega) (by omega) (by omega) (by omega) (by omega) (by omega), b2_mk]
      by_cases qd : dig t n p
      · obtain ⟨d1, d2⟩ := id qd
        have e113 : ∀ z : Int, f_X10_takeNumber_b113 (f_X10_takeNumber_l50 m') (mk H b) 205 (ii lo) (ii hi) (ii z) = f_X10_takeNumber_l50 m' (mk (ps_uI H 205 22 (ii ((p + 1 : Nat) : Int))) b) 205 (ii lo) (ii hi) (ii z) := fun z => by
          unfold f_X10_takeNumber_b113
          rw [gI_mk zk_205, pI_mk zk_205, h4, show (ii (p : Int) + (1 : Int32)) = ii ((p + 1 : Nat) : Int) from suc_ii p]
        have hw : i ≤ 3 → wth (i + 1) (if 3 ≤ i then vc else vc * 10 + mkk t n p - 48) := fun a => wth_s (hv a).2 qd
        obtain ⟨u, f1, u0, u9, uu⟩ := ih (i + 1) m' (p + 1) (if v ≤ 99999 then 10 * v + mkk t n p - 48 else v) (if 3 ≤ i then vc else vc * 10 + mkk t n p - 48) (ps_uI H 205 22 (ii ((p + 1 : Nat) : Int))) (by omega) (by omega) (by omega) (Tm_c hT (fun c k q => uI_o (by omega))) uI_s (by omega) (by split <;> omega) (by split <;> omega) (fun a => by
          obtain ⟨e1, e2⟩ := hv (by omega)
          have e3 := hw (by omega)
          refine ⟨?_, e3⟩
          obtain ⟨_, w2, _⟩ := e2
          rw [if_neg (by omega : ¬ 3 ≤ i), e1, if_pos (by omega)]
          omega)
        rw [uI_uI] at f1
        refine ⟨u, ?_, u0, u9, ?_⟩
        · rw [if_pos (show 48 ≤ mkk t n p ∧ mkk t n p ≤ 57 from qd), if_neg (by decide), if_pos qd, ← f1]
          by_cases qv : v ≤ 99999
          · rw [if_pos (by rw [show (99999 : Int32) = ii 99999 by decide, ii_le (by omega) (by omega) (by omega) (by omega)]; exact qv), gR_mk zk_205 (zr_205_20 b), gI_mk zk_205, h4, aI_mk zk_214 (by omega) (by rw [zl_214]; omega) (by rw [zl_214]; omega), Int.toNat_natCast, (hT.2.2 p q).1, ← e, show (10 : Int32) = ii 10 by decide, show (48 : Int32) = ii 48 by decide, ii_mul, ii_add, ii_sub, e113, if_pos qv]
          · rw [if_neg (by rw [show (99999 : Int32) = ii 99999 by decide, ii_le (by omega) (by omega) (by omega) (by omega)]; exact qv), e113, if_neg qv]
        · rw [if_pos qd, if_pos qd]
          exact uu
      · refine ⟨v, ?_, v0, v9, fun a => ?_⟩
        · rw [if_neg (show ¬ (48 ≤ mkk t n p ∧ mkk t n p ≤ 57) from qd), if_pos (by decide), if_neg qd, uI_id h4]
        · rw [if_neg qd] at a
          rw [if_neg qd]
          exact (hv (by omega)).1
    · have qd : ¬ dig t n p := fun a => q (dig_i a)
      refine ⟨v, ?_, v0, v9, fun a => ?_⟩
      · rw [if_pos (by rw [ii_le (by omega) (by omega) (by omega) (by omega)]; omega), if_neg qd, uI_id h4]
      · rw [if_neg qd] at a
        rw [if_neg qd]
        exact (hv (by omega)).1
theorem num_m {lo hi : Int} {S : rS} (hT : Tm t n H) (hR : Rm H S) (hf : fok n S) (hlo : 0 ≤ lo ∧ lo ≤ 20) (hhi : 0 ≤ hi ∧ hi ≤ 20) : ∃ (H' : zM) (v : Int), f_X10_takeNumber (mk H b) 205 (ii lo) (ii hi) = some (ii v, mk H' b) ∧ Rm H' (num t n lo hi S) ∧ mf H H' ∧ ((num t n lo hi S).2.1 = 0 → v = nV t n S.1) := by
  have hn := hT.1
  have hs := sk_b (t := t) hf.1
  have he := nE_b (t := t) hf.1
  have hv := nV_b (t := t) (n := n) S.1
  obtain ⟨hf1, hf2, hf3, hf4, hf5⟩ := id hf
  unfold f_X10_takeNumber
  rw [gI_mk zk_205, hR.2.1, show (0 : Int32) = ii 0 by decide]
  by_cases q : S.2.1 = 0
  · have h4 := hR.1 q
    rw [if_pos (by rw [ii_le (by omega) (by omega) (by omega) (by omega)]; omega), ck_mk zk_205, here_m hT h4 hf1, b2_mk, gI_mk zk_205, uI_s, pI_mk zk_205]
    generalize hH1 : ps_uI (ps_uI H 205 22 (ii (sk t n S.1 : Int))) 205 23 (ii (sk t n S.1 : Int)) = H1
    have m1 : mf H H1 := fun c k a => by rw [← hH1, uI_o (by omega), uI_o (by omega)]
    have h22 : H1 205 22 = ii (sk t n S.1 : Int) := by rw [← hH1, uI_o (by omega), uI_s]
    have h23 : H1 205 23 = ii (sk t n S.1 : Int) := by rw [← hH1, uI_s]
    have h24 : H1 205 24 = ii S.2.1 := by rw [← hH1, uI_o (by omega), uI_o (by omega)]; exact hR.2.1
    have h25 : H1 205 25 = ii S.2.2 := by rw [← hH1, uI_o (by omega), uI_o (by omega)]; exact hR.2.2
    have hT1 := Tm_mf hT m1
    have hb := mkk_m hT (sk t n S.1)
    rw [ii_l64 (by omega) (by omega), show (48 : Int64) = l64 48 by decide, show (57 : Int64) = l64 57 by decide, in_mk (by omega) (by omega) (by omega) (by omega) (by omega) (by omega), b2_mk, gI_mk zk_205, h22, ck_mk zk_205]
    by_cases qd : dig t n (sk t n S.1)
    · obtain ⟨H2, f2, ⟨w24, w25⟩, o2⟩ := want_m (b := b) (g := 1) (k := 1) (w := (sk t n S.1 : Int)) (S := S) (Or.inr rfl) (by omega) h24 h25 ⟨hf2, hf3⟩
      rw [if_pos rfl] at w24 w25
      have m2 : mf H H2 := fun c k a => by rw [o2 c k (by omega), m1 c k a]
      have hT2 := Tm_mf hT m2
      obtain ⟨u, f3, u0, u9, uu⟩ := digs_m (b := b) (lo := lo) (hi := hi) (s := sk t n S.1) 250 0 ps_fu (sk t n S.1) 0 0 H2 (by unfold ps_fu; omega) (by omega) (by omega) hT2 (by rw [o2 205 22 (by omega)]; exact h22) hs.2 (by omega) (by omega) (fun _ => ⟨rfl, wth_0⟩)
      have hgt : nE t n S.1 ≠ sk t n S.1 := by
        have : nE t n S.1 = dge t n 249 (sk t n S.1 + 1) := by
          show dge t n (249 + 1) (sk t n S.1) = _
          rw [dge_s, if_pos qd]
        have := (dge_b (t := t) (n := n) 249 (sk t n S.1 + 1) (dig_i qd)).1
        omega
      rw [if_pos (show 48 ≤ mkk t n (sk t n S.1) ∧ mkk t n (sk t n S.1) ≤ 57 from qd), show (1 : Int32) = ii 1 by decide, f2, b2_mk, if_neg (by rw [if_pos ⟨q, rfl⟩]; decide), f3]
      show ∃ (H' : zM) (v : Int), f_X10_takeNumber_b128 (mk (ps_uI H2 205 22 (ii (nE t n S.1 : Int))) b) 205 (ii lo) (ii hi) (ii u) = _ ∧ _
      generalize hH3 : ps_uI H2 205 22 (ii (nE t n S.1 : Int)) = H3
      have m3 : mf H H3 := fun c k a => by rw [← hH3, uI_o (by omega), m2 c k a]
      have v22 : H3 205 22 = ii (nE t n S.1 : Int) := by rw [← hH3, uI_s]
      have v23 : H3 205 23 = ii (sk t n S.1 : Int) := by rw [← hH3, uI_o (by omega), o2 205 23 (by omega)]; exact h23
      have v24 : H3 205 24 = ii S.2.1 := by rw [← hH3, uI_o (by omega)]; exact w24
      have v25 : H3 205 25 = ii S.2.2 := by rw [← hH3, uI_o (by omega)]; exact w25
      have e160 : ∀ g : Int, (g = 0 ∨ g = 1) → ((g = 1 ∧ nK t n lo hi S.1 = 0 ∧ u = nV t n S.1) ∨ (g = 0 ∧ nK t n lo hi S.1 = 2)) → ∃ (H' : zM) (v : Int), f_X10_takeNumber_b160 (mk H3 b) 205 (ii u) 205 (ii g) = some (ii v, mk H' b) ∧ Rm H' (num t n lo hi S) ∧ mf H H' ∧ ((num t n lo hi S).2.1 = 0 → v = nV t n S.1) := fun g hg hgk => by
        obtain ⟨H4, f4, ⟨x24, x25⟩, o4⟩ := want_m (b := b) (g := g) (k := 2) (w := (sk t n S.1 : Int)) (S := S) hg (by omega) v24 v25 ⟨hf2, hf3⟩
        have eX : (if g = 1 then S.2 else mk2 S.2 2 (sk t n S.1)) = (num t n lo hi S).2 := by
          unfold num
          rcases hgk with ⟨a, c, _⟩ | ⟨a, c⟩
          · rw [if_pos a, c]
            exact (mk2_k.2.2.1 rfl).symm
          · rw [if_neg (by omega), c]
        rw [eX] at x24 x25
        refine ⟨H4, u, ?_, ⟨fun _ => by rw [o4 205 22 (by omega)]; exact v22, x24, x25⟩, fun c k a => by rw [o4 c k (by omega), m3 c k a], fun a => ?_⟩
        · unfold f_X10_takeNumber_b160
          rw [gI_mk zk_205, v23, ck_mk zk_205, show (2 : Int32) = ii 2 by decide, f4, b2_mk]
        · rcases hgk with ⟨_, _, c⟩ | ⟨_, c⟩
          · exact c
          · exfalso
            have := (mk2_k.1 (show (mk2 S.2 (nK t n lo hi S.1) (sk t n S.1)).1 = 0 from a)).2.1
            omega
      have e159 : nK t n lo hi S.1 = 2 → ∃ (H' : zM) (v : Int), f_X10_takeNumber_b159 (mk H3 b) 205 (ii u) 205 = some (ii v, mk H' b) ∧ Rm H' (num t n lo hi S) ∧ mf H H' ∧ ((num t n lo hi S).2.1 = 0 → v = nV t n S.1) := fun hk => e160 0 (Or.inl rfl) (Or.inr ⟨rfl, hk⟩)
      unfold f_X10_takeNumber_b128
      rw [gI_mk zk_205, v22, gI_mk zk_205, v23, ii_sub, show (4 : Int32) = ii 4 by decide]
      by_cases q4 : 4 ≤ (nE t n S.1 : Int) - (sk t n S.1 : Int)
      · rw [if_pos (by rw [ii_le (by omega) (by omega) (by omega) (by omega)]; exact q4)]
        exact e159 (by unfold nK; rw [if_neg hgt, if_pos (Or.inl (by omega))])
      · have hu : u = nV t n S.1 := uu (by show nE t n S.1 - sk t n S.1 ≤ 3; omega)
        rw [if_neg (by rw [ii_le (by omega) (by omega) (by omega) (by omega)]; exact q4), ii_l64 (by omega) (by omega), ii_l64 (by omega) (by omega), ii_l64 (by omega) (by omega), in_mk (by omega) (by omega) (by omega) (by omega) (by omega) (by omega), b2_mk]
        by_cases q5 : lo ≤ u ∧ u ≤ hi
        · rw [if_pos q5, if_neg (by decide)]
          exact e160 1 (Or.inr rfl) (Or.inl ⟨rfl, by unfold nK; rw [if_neg hgt, if_neg (by omega)], hu⟩)
        · rw [if_neg q5, if_pos (by decide)]
          exact e159 (by unfold nK; rw [if_neg hgt, if_pos (by omega)])
    · obtain ⟨H2, f2, ⟨w24, w25⟩, o2⟩ := want_m (b := b) (g := 0) (k := 1) (w := (sk t n S.1 : Int)) (S := S) (Or.inl rfl) (by omega) h24 h25 ⟨hf2, hf3⟩
      have hEs : nE t n S.1 = sk t n S.1 := by
        show dge t n (249 + 1) (sk t n S.1) = _
        rw [dge_s, if_neg qd]
      have hk : nK t n lo hi S.1 = 1 := by unfold nK; rw [if_pos hEs]
      have eX : (num t n lo hi S).2 = mk2 S.2 1 (sk t n S.1) := by unfold num; rw [hk]
      rw [if_neg (by decide), ← eX] at w24 w25
      refine ⟨H2, 0, ?_, ⟨fun a => ?_, w24, w25⟩, fun c k a => by rw [o2 c k (by omega), m1 c k a], fun a => ?_⟩
      · rw [if_neg (show ¬ (48 ≤ mkk t n (sk t n S.1) ∧ mkk t n (sk t n S.1) ≤ 57) from qd), show (1 : Int32) = ii 1 by decide, f2, b2_mk, if_pos (by rw [if_neg (by omega)])]
      · rw [eX] at a
        exact absurd (mk2_k.1 a).2.1 (by decide)
      · rw [eX] at a
        exact absurd (mk2_k.1 a).2.1 (by decide)
  · rw [if_neg (by rw [ii_le (by omega) (by omega) (by omega) (by omega)]; omega)]
    exact ⟨H, 0, rfl, Rm_k hR q (num_k q), fun _ _ _ => rfl, fun a => absurd a (by rw [num_k q]; exact q)⟩
end
