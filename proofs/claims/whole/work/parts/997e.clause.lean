/-! the text, read by the other side: all of it -/
section
variable {H : zM} {b : Bool} {t : Nat → Int} {n : Nat} {S : rS} {y : yS}
theorem acc_m {w : Nat} {p : Int} (hw : w < 4) (hT : Tm t n H) (hR : Rm H S) (hk : S.2.1 = 0) (hf : fok n S) (hD : Dm H y) (h0 : w = 0 → y 0 0 = 0) (h3 : w = 3 → 0 ≤ y 0 1 ∧ y 0 1 < 4) : ∃ H' : zM, f_X10_takeClause_b100 (mk H b) 205 (ii (w : Int)) (ii p) 205 (1 : Int32) = some (mk H' b) ∧ mg H H' ∧ PC t n (Dm H') H' (if w = 0 then cL t n 12 0 S y else if w = 1 then cS t n S y else if w = 2 then cC t n S y else cP t n S y) := by
  obtain ⟨-, g1, g2, -, -⟩ := id hf
  obtain ⟨H1, f1, ⟨x24, x25⟩, o1⟩ := want_m (b := b) (g := 1) (k := 3) (w := p) (S := S) (Or.inr rfl) (by omega) hR.2.1 hR.2.2 ⟨g1, g2⟩
  rw [if_pos rfl] at x24 x25
  have hB : Tb H1 (0 < y 0 0) (y 0 6 = 1) (y 0 7 = 1) := Tb_c hD.2 (o1 205 13 (by omega)) Iff.rfl Iff.rfl Iff.rfl
  obtain ⟨v, e13, hB2⟩ := said_m hw hB
  generalize hH2 : ps_uI H1 205 13 v = H2
  have m2 : mg H H2 := fun c k a => by rw [← hH2, uI_o (by omega), o1 c k (by omega)]
  have r2 : Rm H2 S := ⟨fun a => by rw [← hH2, uI_o (by omega), o1 205 22 (by omega)]; exact hR.1 a, by rw [← hH2, uI_o (by omega)]; exact x24, by rw [← hH2, uI_o (by omega)]; exact x25⟩
  have d2 : Da H2 y := by
    rw [← hH2]
    exact Da_u (Da_mf hD.1 (fun c k a => o1 c k (by omega))) (by omega)
  have hT2 := Tm_mg hT m2
  have b2 := hB2 H2 (by rw [← hH2, uI_s])
  have hgo : ∃ H', (if ii (w : Int) = (0 : Int32) then (ps_ck (mk H2 b) 205 9 (ps_b1 (f_X10_takeLog (mk H2 b) 205) (fun M => f_X10_takeClause_b196 M))) else (if ii (w : Int) = (1 : Int32) then (ps_ck (mk H2 b) 205 9 (ps_b2 (f_X10_takeNumber (mk H2 b) 205 (1 : Int32) (9 : Int32)) (fun xv8 M => ps_pI M 205 9 9 xv8 (fun M => ps_ck M 205 9 (ps_b2 (f_X10_takeNumber M 205 (0 : Int32) (9 : Int32)) (fun xv9 M => ps_pI M 205 9 10 xv9 (fun M => ps_ck M 205 9 (ps_b2 (f_X10_takeNumber M 205 (0 : Int32) (9 : Int32)) (fun xv10 M => ps_pI M 205 9 11 xv10 (fun M => f_X10_takeClause_b196 M )))))))))) else (if ii (w : Int) = (2 : Int32) then (ps_ck (mk H2 b) 205 9 (ps_b2 (f_X10_takeNumber (mk H2 b) 205 (0 : Int32) (12 : Int32)) (fun xv7 M => ps_pI M 205 9 12 xv7 (fun M => f_X10_takeClause_b196 M )))) else (ps_ck (mk H2 b) 205 9 (ps_b1 (f_X10_takePerson (mk H2 b) 205) (fun M => f_X10_takeClause_b196 M )))))) = some (mk H' b) ∧ mg H2 H' ∧ PC t n (Dm H') H' (if w = 0 then cL t n 12 0 S y else if w = 1 then cS t n S y else if w = 2 then cC t n S y else cP t n S y) := by
    rcases (by omega : w = 0 ∨ w = 1 ∨ w = 2 ∨ w = 3) with rfl | rfl | rfl | rfl
    · rw [if_pos (by decide), if_pos rfl]
      exact body_log rfl hT2 r2 hk hf d2 (h0 rfl) b2
    · rw [if_neg (by decide), if_pos (by decide), if_neg (by decide), if_pos rfl]
      exact body_saw rfl hT2 r2 hf d2 b2
    · rw [if_neg (by decide), if_neg (by decide), if_pos (by decide), if_neg (by decide), if_neg (by decide), if_pos rfl]
      exact body_close rfl hT2 r2 hf d2 b2
    · rw [if_neg (by decide), if_neg (by decide), if_neg (by decide), if_neg (by decide), if_neg (by decide), if_neg (by decide)]
      exact body_person rfl hT2 r2 hf d2 (h3 rfl) b2
  obtain ⟨H', f3, m3, p3⟩ := hgo
  refine ⟨H', ?_, mg_tr m2 m3, p3⟩
  unfold f_X10_takeClause_b100
  rw [ck_mk zk_205, show f_X10_want (mk H b) 205 (1 : Int32) (3 : Int32) (ii p) = _ from f1, b2_mk, if_neg (by rw [if_pos ⟨hk, rfl⟩]; decide), gI_mk zk_205, pI_mk zk_205, e13, hH2]
  exact f3
theorem PC_rej {H' : zM} {D : yS → Prop} {k : Int} (hk : S.2.1 = 0) (h0 : k ≠ 0) (x24 : H' 205 24 = ii k) (x25 : H' 205 25 = ii (S.1 : Int)) : PC t n D H' ((S.1, mk2 S.2 k S.1), y) := by
  refine Or.inr ⟨?_, fun a => ?_, ?_, ?_⟩
  · show (mk2 S.2 k S.1).1 ≠ 0
    rw [mk2_k.2.2.2 hk h0]
    exact h0
  · have a' : (mk2 S.2 k S.1).1 = 0 := a
    rw [mk2_k.2.2.2 hk h0] at a'
    exact absurd a' h0
  · show H' 205 24 = ii (mk2 S.2 k S.1).1
    rw [mk2_k.2.2.2 hk h0]
    exact x24
  · show H' 205 25 = ii (mk2 S.2 k S.1).2
    rw [mk2_k.2.2.2 hk h0]
    exact x25
theorem b77_m {x1 : Int32} {g r k : Int} {w : Nat} (hk : S.2.1 = 0) (hf : fok n S) (hR : Rm H (S.1 + 1, S.2)) (hr : r = 0 ∨ r = 1) (hg : (g = 0 ∧ k = 1) ∨ (g = 1 ∧ r = 1 ∧ k = 3) ∨ (g = 1 ∧ r = 0 ∧ k = 0 ∧ x1 = ii (w : Int) ∧ w < 4 ∧ Tm t n H ∧ S.1 < n ∧ Dm H y ∧ (w = 0 → y 0 0 = 0) ∧ (w = 3 → 0 ≤ y 0 1 ∧ y 0 1 < 4))) : ∃ H', f_X10_takeClause_b77 (mk H b) 205 x1 (ii (S.1 : Int)) (ii g) (ii r) = some (mk H' b) ∧ mg H H' ∧ ((k ≠ 0 ∧ PC t n (Dm H') H' ((S.1, mk2 S.2 k S.1), y)) ∨ (k = 0 ∧ PC t n (Dm H') H' (if w = 0 then cL t n 12 0 (S.1 + 1, S.2) y else if w = 1 then cS t n (S.1 + 1, S.2) y else if w = 2 then cC t n (S.1 + 1, S.2) y else cP t n (S.1 + 1, S.2) y))) := by
  obtain ⟨-, g1, g2, -, -⟩ := id hf
  unfold f_X10_takeClause_b77
  rw [ck_mk zk_205]
  rcases hg with ⟨rfl, rfl⟩ | ⟨rfl, rfl, rfl⟩ | ⟨rfl, rfl, rfl, rfl, hw, hT, hlt, hD, h0, h3⟩
  · obtain ⟨H1, f1, ⟨x24, x25⟩, o1⟩ := want_m (b := b) (g := 0) (k := 1) (w := (S.1 : Int)) (S := S) (Or.inl rfl) (by omega) hR.2.1 hR.2.2 ⟨g1, g2⟩
    rw [if_neg (by decide), mk2_k.2.2.2 hk (by decide)] at x24 x25
    refine ⟨H1, ?_, fun c k a => o1 c k (by omega), Or.inl ⟨by decide, PC_rej hk (by decide) x24 x25⟩⟩
    rw [show f_X10_want (mk H b) 205 (ii 0) (1 : Int32) (ii (S.1 : Int)) = _ from f1, b2_mk, if_pos (by rw [if_neg (by omega)]; rfl)]
    rfl
  · obtain ⟨H1, f1, ⟨x24, x25⟩, o1⟩ := want_m (b := b) (g := 1) (k := 1) (w := (S.1 : Int)) (S := S) (Or.inr rfl) (by omega) hR.2.1 hR.2.2 ⟨g1, g2⟩
    rw [if_pos rfl] at x24 x25
    obtain ⟨H2, f2, ⟨y24, y25⟩, o2⟩ := want_m (b := b) (g := 0) (k := 3) (w := (S.1 : Int)) (S := S) (Or.inl rfl) (by omega) x24 x25 ⟨g1, g2⟩
    rw [if_neg (by decide), mk2_k.2.2.2 hk (by decide)] at y24 y25
    refine ⟨H2, ?_, fun c k a => by rw [o2 c k (by omega), o1 c k (by omega)], Or.inl ⟨by decide, PC_rej hk (by decide) y24 y25⟩⟩
    rw [show f_X10_want (mk H b) 205 (ii 1) (1 : Int32) (ii (S.1 : Int)) = _ from f1, b2_mk, if_neg (by rw [if_pos ⟨hk, rfl⟩]; decide), if_neg (by decide)]
    unfold f_X10_takeClause_b100
    rw [ck_mk zk_205, show f_X10_want (mk H1 b) 205 (0 : Int32) (3 : Int32) (ii (S.1 : Int)) = _ from f2, b2_mk, if_pos (by rw [if_neg (by omega)]; rfl)]
    rfl
  · obtain ⟨H1, f1, ⟨x24, x25⟩, o1⟩ := want_m (b := b) (g := 1) (k := 1) (w := (S.1 : Int)) (S := S) (Or.inr rfl) (by omega) hR.2.1 hR.2.2 ⟨g1, g2⟩
    rw [if_pos rfl] at x24 x25
    have hR1 : Rm H1 (S.1 + 1, S.2) := ⟨fun a => by rw [o1 205 22 (by omega)]; exact hR.1 a, x24, x25⟩
    have hD1 : Dm H1 y := ⟨Da_mf hD.1 (fun c k a => o1 c k (by omega)), Tb_c hD.2 (o1 205 13 (by omega)) Iff.rfl Iff.rfl Iff.rfl⟩
    have m1 : mg H H1 := fun c k a => o1 c k (by omega)
    obtain ⟨H', f2, m2, p2⟩ := acc_m (b := b) (p := (S.1 : Int)) (S := (S.1 + 1, S.2)) hw (Tm_mg hT m1) hR1 hk ⟨hlt, hf.2⟩ hD1 h0 h3
    refine ⟨H', ?_, mg_tr m1 m2, Or.inr ⟨rfl, p2⟩⟩
    rw [show f_X10_want (mk H b) 205 (ii 1) (1 : Int32) (ii (S.1 : Int)) = _ from f1, b2_mk, if_neg (by rw [if_pos ⟨hk, rfl⟩]; decide), if_pos (by decide)]
    exact f2
theorem clause_m (hT : Tm t n H) (hR : Rm H S) (hk : S.2.1 = 0) (hf : fok n S) (hD : Dm H y) (hY : YK y) (h32 : mkk t n S.1 ≠ 32) : ∃ H', f_X10_takeClause (mk H b) 205 = some (mk H' b) ∧ mg H H' ∧ PC t n (Dm H') H' (cl t n S y) := by
  have hn := hT.1
  have hb := mkk_m hT S.1
  have es : sk t n S.1 = S.1 := ske_id h32
  have a00 := hY.1.1
  have a01 := hY.1.2.1
  have h22 := hR.1 hk
  generalize hH1 : ps_uI H 205 22 (ii ((S.1 + 1 : Nat) : Int)) = H1
  have o1 : ∀ c k, ¬ (c = 205 ∧ k = 22) → H1 c k = H c k := fun c k a => by rw [← hH1, uI_o a]
  have hR1 : Rm H1 (S.1 + 1, S.2) := ⟨fun _ => by rw [← hH1, uI_s], by rw [o1 205 24 (by omega)]; exact hR.2.1, by rw [o1 205 25 (by omega)]; exact hR.2.2⟩
  have m1 : mg H H1 := fun c k a => o1 c k (by omega)
  have hD1 : Dm H1 y := ⟨Da_mf hD.1 (fun c k a => o1 c k (by omega)), Tb_c hD.2 (o1 205 13 (by omega)) Iff.rfl Iff.rfl Iff.rfl⟩
  have hT1 := Tm_mg hT m1
  obtain ⟨T, t1, t2, t3, t4, t5⟩ := id hD1.2
  have e8 : H1 205 8 = ii (y 0 1) := hD1.1.1.2.1
  have fin_ : ∀ X : rS × yS, ∀ m : Option ps_M, (∃ H', m = some (mk H' b) ∧ mg H1 H' ∧ PC t n (Dm H') H' X) → ∃ H', m = some (mk H' b) ∧ mg H H' ∧ PC t n (Dm H') H' X := fun X m ⟨H', a, c, d⟩ => ⟨H', a, mg_tr m1 c, d⟩
  have rej : ∀ (x1 : Int32) (g r k : Int), (r = 0 ∨ r = 1) → ((g = 0 ∧ k = 1) ∨ (g = 1 ∧ r = 1 ∧ k = 3)) → fow y (mkk t n S.1) = k → ∃ H', f_X10_takeClause_b77 (mk H1 b) 205 x1 (ii (S.1 : Int)) (ii g) (ii r) = some (mk H' b) ∧ mg H1 H' ∧ PC t n (Dm H') H' (cl t n S y) := fun x1 g r k hr hg hfo => by
    obtain ⟨H', f1, m2, p1⟩ := b77_m (b := b) (t := t) (y := y) (x1 := x1) (g := g) (r := r) (k := k) (w := 0) hk hf hR1 hr (by omega)
    refine ⟨H', f1, m2, ?_⟩
    rcases p1 with ⟨_, p1⟩ | ⟨p0, _⟩
    · unfold cl
      rw [hfo, if_pos (by omega)]
      exact p1
    · omega
  have acc : ∀ (w : Nat), w < 4 → fow y (mkk t n S.1) = 0 → S.1 < n → (w = 0 → y 0 0 = 0) → (w = 3 → 0 ≤ y 0 1 ∧ y 0 1 < 4) → ((w = 0 ∧ mkk t n S.1 = 108) ∨ (w = 1 ∧ mkk t n S.1 = 115) ∨ (w = 2 ∧ mkk t n S.1 = 99) ∨ (w = 3 ∧ mkk t n S.1 = 112)) → ∃ H', f_X10_takeClause_b77 (mk H1 b) 205 (ii (w : Int)) (ii (S.1 : Int)) (ii 1) (ii 0) = some (mk H' b) ∧ mg H1 H' ∧ PC t n (Dm H') H' (cl t n S y) := fun w hw hfo hlt h0 h3 hc => by
    obtain ⟨H', f1, m2, p1⟩ := b77_m (b := b) (t := t) (y := y) (x1 := ii (w : Int)) (g := 1) (r := 0) (k := 0) (w := w) hk hf hR1 (Or.inl rfl) (Or.inr (Or.inr ⟨rfl, rfl, rfl, rfl, hw, hT1, hlt, hD1, h0, h3⟩))
    refine ⟨H', f1, m2, ?_⟩
    rcases p1 with ⟨p0, _⟩ | ⟨_, p1⟩
    · exact absurd rfl p0
    · unfold cl
      rw [hfo, if_neg (by omega)]
      rcases hc with ⟨rfl, hc⟩ | ⟨rfl, hc⟩ | ⟨rfl, hc⟩ | ⟨rfl, hc⟩
      · rw [if_pos hc]
        exact p1
      · rw [if_neg (by omega), if_neg (by omega), if_pos hc]
        exact p1
      · rw [if_neg (by omega), if_neg (by omega), if_neg (by omega)]
        exact p1
      · rw [if_neg (by omega), if_pos hc]
        exact p1
  unfold f_X10_takeClause
  rw [ck_mk zk_205, here_m hT h22 hf.1, b2_mk, es, uI_id h22, word_m (by omega), b2_mk, gI_mk zk_205, h22, gI_mk zk_205, h22, pI_mk zk_205, show (ii (S.1 : Int) + (1 : Int32)) = ii ((S.1 + 1 : Nat) : Int) from suc_ii _, hH1]
  unfold f_X10_takeClause_b42 f_X10_takeClause_b46 f_X10_takeClause_b47
  apply fin_
  have bit : ∀ k : Nat, k < 3 → f_X10_has (mk H1 b) (ii (T : Int)) (ii (k : Int)) = some (ii (if T / 2 ^ k % 2 = 1 then 1 else 0), mk H1 b) := fun k q => has_m t1 q
  by_cases q1 : mkk t n S.1 = 108
  · have hlt := mkk_i (t := t) (n := n) (p := S.1) (by omega)
    rw [if_pos q1, if_pos (by decide), if_neg (by decide), gI_mk zk_205, t2, show f_X10_has (mk H1 b) (ii (T : Int)) (ii 0) = _ from bit 0 (by omega), b2_mk, show T / 2 ^ 0 % 2 = T % 2 by simp]
    by_cases qL : 0 < y 0 0
    · rw [if_pos (t3.mpr qL)]
      exact rej _ 1 1 3 (Or.inr rfl) (by omega) (by unfold fow; rw [if_pos (by omega), if_pos (by omega)])
    · rw [if_neg (fun a => qL (t3.mp a))]
      exact acc 0 (by omega) (by unfold fow; rw [if_pos (by omega), if_neg (by omega)]) hlt (fun _ => by omega) (fun a => by omega) (by omega)
  · rw [if_neg q1]
    by_cases q2 : mkk t n S.1 = 115
    · have hlt := mkk_i (t := t) (n := n) (p := S.1) (by omega)
      rw [if_pos q2, if_neg (by decide), if_neg (by decide), gI_mk zk_205, t2, show f_X10_has (mk H1 b) (ii (T : Int)) (0 : Int32) = _ from bit 0 (by omega), b2_mk, show T / 2 ^ 0 % 2 = T % 2 by simp]
      by_cases qL : 0 < y 0 0
      · rw [if_pos (t3.mpr qL), if_neg (by decide), if_neg (by decide), gI_mk zk_205, t2, show f_X10_has (mk H1 b) (ii (T : Int)) (ii 1) = _ from bit 1 (by omega), b2_mk, show T / 2 ^ 1 % 2 = T / 2 % 2 by simp]
        by_cases qA : y 0 6 = 1
        · rw [if_pos (t4.mpr qA)]
          exact rej _ 1 1 3 (Or.inr rfl) (by omega) (by unfold fow; rw [if_pos (by omega), if_pos (by omega)])
        · rw [if_neg (fun a => qA (t4.mp a))]
          exact acc 1 (by omega) (by unfold fow; rw [if_pos (by omega), if_neg (by omega)]) hlt (fun a => by omega) (fun a => by omega) (by omega)
      · rw [if_neg (fun a => qL (t3.mp a)), if_pos (by decide), if_neg (by decide), gI_mk zk_205, t2]
        rcases has_any (M := mk H1 b) (x := ii (T : Int)) (k := ii 1) with e | e
        · rw [e, b2_mk]
          exact rej _ 0 0 1 (Or.inl rfl) (by omega) (by unfold fow; rw [if_neg (by omega)])
        · rw [e, b2_mk]
          exact rej _ 0 1 1 (Or.inr rfl) (by omega) (by unfold fow; rw [if_neg (by omega)])
    · rw [if_neg q2]
      by_cases q3 : mkk t n S.1 = 99
      · have hlt := mkk_i (t := t) (n := n) (p := S.1) (by omega)
        rw [if_pos q3, if_neg (by decide), if_neg (by decide), gI_mk zk_205, t2, show f_X10_has (mk H1 b) (ii (T : Int)) (0 : Int32) = _ from bit 0 (by omega), b2_mk, show T / 2 ^ 0 % 2 = T % 2 by simp]
        by_cases qL : 0 < y 0 0
        · rw [if_pos (t3.mpr qL), if_neg (by decide), if_neg (by decide), gI_mk zk_205, t2, show f_X10_has (mk H1 b) (ii (T : Int)) (ii 2) = _ from bit 2 (by omega), b2_mk, show T / 2 ^ 2 % 2 = T / 4 % 2 by simp]
          by_cases qA : y 0 7 = 1
          · rw [if_pos (t5.mpr qA)]
            exact rej _ 1 1 3 (Or.inr rfl) (by omega) (by unfold fow; rw [if_pos (by omega), if_pos (by omega)])
          · rw [if_neg (fun a => qA (t5.mp a))]
            exact acc 2 (by omega) (by unfold fow; rw [if_pos (by omega), if_neg (by omega)]) hlt (fun a => by omega) (fun a => by omega) (by omega)
        · rw [if_neg (fun a => qL (t3.mp a)), if_pos (by decide), if_neg (by decide), gI_mk zk_205, t2]
          rcases has_any (M := mk H1 b) (x := ii (T : Int)) (k := ii 2) with e | e
          · rw [e, b2_mk]
            exact rej _ 0 0 1 (Or.inl rfl) (by omega) (by unfold fow; rw [if_neg (by omega)])
          · rw [e, b2_mk]
            exact rej _ 0 1 1 (Or.inr rfl) (by omega) (by unfold fow; rw [if_neg (by omega)])
      · rw [if_neg q3]
        by_cases q4 : mkk t n S.1 = 112
        · have hlt := mkk_i (t := t) (n := n) (p := S.1) (by omega)
          rw [if_pos q4, if_neg (by decide), if_neg (by decide), gI_mk zk_205, t2, show f_X10_has (mk H1 b) (ii (T : Int)) (0 : Int32) = _ from bit 0 (by omega), b2_mk, show T / 2 ^ 0 % 2 = T % 2 by simp]
          by_cases qL : 0 < y 0 0
          · rw [if_pos (t3.mpr qL), if_neg (by decide), if_pos (by decide), gI_mk zk_205, e8, show (4 : Int32) = ii 4 by decide]
            by_cases qA : y 0 1 = 4
            · rw [if_pos (by rw [qA])]
              exact rej _ 1 1 3 (Or.inr rfl) (by omega) (by unfold fow; rw [if_pos (by omega), if_pos (by omega)])
            · rw [if_neg (by rw [ii_eq (by omega) (by omega) (by omega) (by omega)]; exact qA)]
              exact acc 3 (by omega) (by unfold fow; rw [if_pos (by omega), if_neg (by omega)]) hlt (fun a => by omega) (fun a => by omega) (by omega)
          · rw [if_neg (fun a => qL (t3.mp a)), if_pos (by decide), if_pos (by decide), gI_mk zk_205, e8]
            split
            · exact rej _ 0 1 1 (Or.inr rfl) (by omega) (by unfold fow; rw [if_neg (by omega)])
            · exact rej _ 0 0 1 (Or.inl rfl) (by omega) (by unfold fow; rw [if_neg (by omega)])
        · rw [if_neg q4, if_neg (by decide), if_pos (by decide), if_neg (by decide), gI_mk zk_205, t2]
          rcases has_any (M := mk H1 b) (x := ii (T : Int)) (k := ii (-1)) with e | e
          · rw [e, b2_mk]
            exact rej _ 0 0 1 (Or.inl rfl) (by omega) (by unfold fow; rw [if_neg (by omega)])
          · rw [e, b2_mk]
            exact rej _ 0 1 1 (Or.inr rfl) (by omega) (by unfold fow; rw [if_neg (by omega)])
end
