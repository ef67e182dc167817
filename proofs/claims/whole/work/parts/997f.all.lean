/-! the text, read by the other side: clause by clause -/
section
variable {b : Bool} {t : Nat → Int} {n : Nat}
theorem text_m : ∀ (d i mm : Nat) (H : zM) (S : rS) (y : yS), i + d = 251 → d < mm → Tm t n H → Rm H S → fok n S → (S.2.1 = 0 → i ≤ S.1 ∧ Dm H y ∧ YK y) → ∃ H', f_X10_yard_l51 mm (mk H b) 205 = f_X10_yard_b115 (mk H' b) 205 ∧ mg H H' ∧ Rm H' (run t n d S y).1 ∧ ((run t n d S y).1.2.1 = 0 → Dm H' (run t n d S y).2) := by
  intro d
  induction d with
  | zero =>
    intro i mm H S y he hmm hT hR hf hY
    obtain ⟨m', rfl⟩ : ∃ m', mm = m' + 1 := ⟨mm - 1, by omega⟩
    have hn := hT.1
    obtain ⟨f1, f2, f3, -, -⟩ := id hf
    have q : S.2.1 ≠ 0 := fun a => by have := (hY a).1; omega
    refine ⟨H, ?_, fun _ _ _ => rfl, hR, fun a => absurd a q⟩
    show f_X10_yard_w51 (f_X10_yard_l51 m') (mk H b) 205 = _
    unfold f_X10_yard_w51
    rw [gI_mk zk_205, hR.2.1, if_neg (by rw [show (0 : Int32) = ii 0 by decide, ii_eq (by omega) (by omega) (by omega) (by omega)]; exact q)]
  | succ d ih =>
    intro i mm H S y he hmm hT hR hf hY
    obtain ⟨m', rfl⟩ : ∃ m', mm = m' + 1 := ⟨mm - 1, by omega⟩
    have hn := hT.1
    obtain ⟨f1, f2, f3, -, -⟩ := id hf
    show ∃ H', f_X10_yard_w51 (f_X10_yard_l51 m') (mk H b) 205 = _ ∧ _
    unfold f_X10_yard_w51 run
    rw [gI_mk zk_205, hR.2.1]
    by_cases q : S.2.1 = 0
    · obtain ⟨iS, hD, hYK⟩ := hY q
      have hs := sk_b (t := t) hf.1
      have hb := mkk_m hT (sk t n S.1)
      rw [if_pos (by rw [q]; rfl), if_pos q, ck_mk zk_205, here_m hT (hR.1 q) hf.1, b2_mk]
      generalize hH1 : ps_uI H 205 22 (ii (sk t n S.1 : Int)) = H1
      have o1 : mf H H1 := fun c k a => by rw [← hH1, uI_o (by omega)]
      have hT1 := Tm_mf hT o1
      have hR1 : Rm H1 (sk t n S.1, S.2) := ⟨fun _ => by rw [← hH1, uI_s], by rw [← hH1, uI_o (by omega)]; exact hR.2.1, by rw [← hH1, uI_o (by omega)]; exact hR.2.2⟩
      have hD1 : Dm H1 y := ⟨Da_mf hD.1 o1, Tb_c hD.2 (o1 205 13 (by omega)) Iff.rfl Iff.rfl Iff.rfl⟩
      have hf1 : fok n (sk t n S.1, S.2) := ⟨hs.2, hf.2⟩
      by_cases q2 : sk t n S.1 < n
      · obtain ⟨H2, f4, m2, p2⟩ := clause_m (b := b) hT1 hR1 q hf1 hD1 hYK (sk_n hn hf.1)
        have m02 := mg_tr (mf_mg o1) m2
        have hT2 := Tm_mg hT m02
        have hcf := cl_f (t := t) (y := y) hn hf1
        have hcY := fun a => cl_Y (t := t) (y := y) hn hf1 hYK a
        have hlast : ∀ H3 : zM, mg H2 H3 → Rm H3 (cl t n (sk t n S.1, S.2) y).1 → ((cl t n (sk t n S.1, S.2) y).1.2.1 = 0 → Dm H3 (cl t n (sk t n S.1, S.2) y).2) → ∃ H', f_X10_yard_l51 m' (mk H3 b) 205 = f_X10_yard_b115 (mk H' b) 205 ∧ mg H H' ∧ Rm H' (run t n d (cl t n (sk t n S.1, S.2) y).1 (cl t n (sk t n S.1, S.2) y).2).1 ∧ ((run t n d (cl t n (sk t n S.1, S.2) y).1 (cl t n (sk t n S.1, S.2) y).2).1.2.1 = 0 → Dm H' (run t n d (cl t n (sk t n S.1, S.2) y).1 (cl t n (sk t n S.1, S.2) y).2).2) := fun H3 m3 r3 d3 => by
          have m03 := mg_tr m02 m3
          obtain ⟨H', g1, g2, g3, g4⟩ := ih (i + 1) m' H3 _ _ (by omega) (by omega) (Tm_mg hT m03) r3 hcf.1 (fun a => ⟨by have h3 : sk t n S.1 < (cl t n (sk t n S.1, S.2) y).1.1 := hcf.2.2 a; omega, d3 a, hcY a⟩)
          exact ⟨H', g1, mg_tr m03 g2, g3, g4⟩
        rw [if_neg (by rw [ii_lits.1, ii_lt (by omega) (by omega) (by omega) (by omega)]; omega), if_pos q2, ck_mk zk_205, f4, b1_mk, gI_mk zk_205]
        rcases p2 with ⟨Z, z1, z2, z3, z4, z5⟩ | ⟨p1, p2⟩
        · obtain ⟨zf1, zf2, zf3, -, -⟩ := id z2
          have hsz := sk_b (t := t) zf1
          have hbz := mkk_m hT2 (sk t n Z.1)
          rw [z3.2.1, if_pos (by rw [z1]; rfl), ck_mk zk_205, here_m hT2 (z3.1 z1) zf1, b2_mk]
          generalize hH3 : ps_uI H2 205 22 (ii (sk t n Z.1 : Int)) = H3
          have o3 : mf H2 H3 := fun c k a => by rw [← hH3, uI_o (by omega)]
          have h22 : H3 205 22 = ii (sk t n Z.1 : Int) := by rw [← hH3, uI_s]
          have h24 : H3 205 24 = ii Z.2.1 := by rw [← hH3, uI_o (by omega)]; exact z3.2.1
          have h25 : H3 205 25 = ii Z.2.2 := by rw [← hH3, uI_o (by omega)]; exact z3.2.2
          by_cases q3 : mkk t n (sk t n Z.1) = 59
          · obtain ⟨H4, g4, ⟨x24, x25⟩, o4⟩ := want_m (b := b) (g := 1) (k := 1) (w := (sk t n Z.1 : Int)) (S := Z) (Or.inr rfl) (by omega) h24 h25 ⟨zf2, zf3⟩
            rw [if_pos rfl] at x24 x25
            have ef : fin t n Z = (sk t n Z.1 + 1, Z.2) := by unfold fin; rw [if_pos q3]
            rw [ef] at z4
            have o35 : mf H2 (ps_uI H4 205 22 (ii ((sk t n Z.1 + 1 : Nat) : Int))) := fun c k a => by rw [uI_o (by omega), o4 c k (by omega), o3 c k a]
            rw [if_pos (by rw [q3]; decide)]
            unfold f_X10_yard_b91
            rw [gI_mk zk_205, h22, ck_mk zk_205, show f_X10_want (mk H3 b) 205 (1 : Int32) (1 : Int32) (ii (sk t n Z.1 : Int)) = _ from g4, b2_mk, if_neg (by rw [if_pos ⟨z1, rfl⟩]; decide), gI_mk zk_205, o4 205 22 (by omega), h22, pI_mk zk_205, show (ii (sk t n Z.1 : Int) + (1 : Int32)) = ii ((sk t n Z.1 + 1 : Nat) : Int) from suc_ii _]
            exact hlast _ (mf_mg o35) (by rw [z4]; exact ⟨fun _ => uI_s, by rw [uI_o (by omega)]; exact x24, by rw [uI_o (by omega)]; exact x25⟩) (fun _ => ⟨Da_mf z5.1 o35, Tb_c z5.2 (o35 205 13 (by omega)) Iff.rfl Iff.rfl Iff.rfl⟩)
          · obtain ⟨H4, g4, ⟨x24, x25⟩, o4⟩ := want_m (b := b) (g := 0) (k := 1) (w := (sk t n Z.1 : Int)) (S := Z) (Or.inl rfl) (by omega) h24 h25 ⟨zf2, zf3⟩
            rw [if_neg (by decide)] at x24 x25
            have ef : fin t n Z = (sk t n Z.1, mk2 Z.2 1 (sk t n Z.1)) := by unfold fin; rw [if_neg q3]
            rw [ef] at z4
            have k1 : (mk2 Z.2 1 (sk t n Z.1)).1 ≠ 0 := by rw [mk2_k.2.2.2 z1 (by decide)]; show (1 : Int) ≠ 0; decide
            have o34 : mf H2 H4 := fun c k a => by rw [o4 c k (by omega), o3 c k a]
            rw [if_neg (by rw [show (59 : Int32) = ii 59 by decide, ii_eq (by omega) (by omega) (by omega) (by omega)]; exact q3)]
            unfold f_X10_yard_b91
            rw [gI_mk zk_205, h22, ck_mk zk_205, show f_X10_want (mk H3 b) 205 (0 : Int32) (1 : Int32) (ii (sk t n Z.1 : Int)) = _ from g4, b2_mk, if_pos (by rw [if_neg (by omega)]; rfl)]
            exact hlast _ (mf_mg o34) (by rw [z4]; exact ⟨fun a => absurd a k1, x24, x25⟩) (fun a => absurd a (by rw [z4]; exact k1))
        · have hk := (hcf.1).2
          rw [p2.2.1, if_neg (by rw [show (0 : Int32) = ii 0 by decide, ii_eq (by omega) (by omega) (by omega) (by omega)]; exact p1)]
          exact hlast H2 (fun _ _ _ => rfl) p2 (fun a => absurd a p1)
      · rw [if_pos (by rw [ii_lits.1, ii_lt (by omega) (by omega) (by omega) (by omega)]; omega), if_neg q2]
        exact ⟨H1, rfl, mf_mg o1, hR1, fun _ => hD1⟩
    · rw [if_neg (by rw [show (0 : Int32) = ii 0 by decide, ii_eq (by omega) (by omega) (by omega) (by omega)]; exact q), if_neg q]
      exact ⟨H, rfl, fun _ _ _ => rfl, hR, fun a => absurd a q⟩
theorem yard_m {H : zM} (hT : Tm t n H) : ∃ H', f_X10_yard (mk H b) 205 = f_X10_yard_b115 (mk H' b) 205 ∧ mg H H' ∧ Rm H' (run t n 251 sN yN).1 ∧ ((run t n 251 sN yN).1.2.1 = 0 → Dm H' (run t n 251 sN yN).2) := by
  have g : mg H (ps_uI (ps_uI (ps_uI (ps_uI (ps_uI (ps_uI (ps_uI (ps_uI (ps_uI (ps_uI H 205 22 0) 205 24 0) 205 25 (-1)) 205 7 0) 205 8 0) 205 9 5) 205 10 2) 205 11 0) 205 12 12) 205 13 0) := fun c k q => by
    rw [uI_o (by omega), uI_o (by omega), uI_o (by omega), uI_o (by omega), uI_o (by omega), uI_o (by omega), uI_o (by omega), uI_o (by omega), uI_o (by omega), uI_o (by omega)]
  obtain ⟨H', f1, o1, r1, d1⟩ := text_m (b := b) 251 0 ps_fu _ sN yN (by omega) (by unfold ps_fu; omega) (Tm_mg hT g) ⟨fun _ => rfl, rfl, rfl⟩ fok_N (fun _ => ⟨Nat.zero_le _, ⟨⟨⟨rfl, rfl, rfl, rfl, rfl, rfl⟩, fun j hj => absurd hj (by show ¬ (j : Int) < 0; omega), fun p hp => absurd hp (by show ¬ (p : Int) < 0; omega)⟩, ⟨0, by omega, rfl, by decide, by decide, by decide⟩⟩, YK_N⟩)
  refine ⟨H', ?_, mg_tr g o1, r1, d1⟩
  unfold f_X10_yard
  rw [pI_mk zk_205, pI_mk zk_205, pI_mk zk_205, pI_mk zk_205, pI_mk zk_205, pI_mk zk_205, pI_mk zk_205, pI_mk zk_205, pI_mk zk_205, pI_mk zk_205]
  exact f1
end
