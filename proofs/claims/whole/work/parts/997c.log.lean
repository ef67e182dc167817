/-! the text, read by the other side: clauses -/
theorem has_all : ∀ T, T < 16 → ∀ k, k < 3 → ((((ii ((T : Nat) : Int)) >>> ((ii ((k : Nat) : Int)) &&& (31 : Int32))) &&& (1 : Int32)) = (1 : Int32) ↔ T / 2 ^ k % 2 = 1) := by decide +kernel
theorem or_all : ∀ T, T < 16 → ∀ k, k < 4 → (ii ((T : Nat) : Int) ||| ((1 : Int32) <<< ((ii ((k : Nat) : Int)) &&& (31 : Int32))) = ii (((T ||| 1 <<< k : Nat)) : Int) ∧ (T ||| 1 <<< k) < 16 ∧ ((T ||| 1 <<< k) % 2 = 1 ↔ (T % 2 = 1 ∨ k = 0)) ∧ ((T ||| 1 <<< k) / 2 % 2 = 1 ↔ (T / 2 % 2 = 1 ∨ k = 1)) ∧ ((T ||| 1 <<< k) / 4 % 2 = 1 ↔ (T / 4 % 2 = 1 ∨ k = 2))) := by decide +kernel
/-- told so far -/
def Tb (H : zM) (A B C : Prop) : Prop := ∃ T : Nat, T < 16 ∧ H 205 13 = ii (T : Int) ∧ (T % 2 = 1 ↔ A) ∧ (T / 2 % 2 = 1 ↔ B) ∧ (T / 4 % 2 = 1 ↔ C)
def Da (H : zM) (y : yS) : Prop := (H 205 7 = ii (y 0 0) ∧ H 205 8 = ii (y 0 1) ∧ H 205 9 = ii (y 0 2) ∧ H 205 10 = ii (y 0 3) ∧ H 205 11 = ii (y 0 4) ∧ H 205 12 = ii (y 0 5)) ∧ (∀ j : Nat, (j : Int) < y 0 0 → H 208 (12 + j) = ii (y 1 j)) ∧ ∀ p : Nat, (p : Int) < y 0 1 → H 209 (4 + p) = ii (y 2 p) ∧ H 210 (4 + p) = ii (y 3 p) ∧ H 211 (4 + p) = ii (y 4 p) ∧ H 212 (4 + p) = ii (y 5 p) ∧ H 213 (4 + p) = ii (y 6 p)
def mg (H H' : zM) : Prop := ∀ c k, ¬ ((c = 205 ∧ 7 ≤ k ∧ k ≤ 13) ∨ (c = 205 ∧ 22 ≤ k ∧ k ≤ 25) ∨ (c = 208 ∧ 12 ≤ k) ∨ (209 ≤ c ∧ c ≤ 213 ∧ 4 ≤ k)) → H' c k = H c k
def ml (H H' : zM) : Prop := ∀ c k, ¬ ((c = 205 ∧ k = 7) ∨ (c = 205 ∧ 22 ≤ k ∧ k ≤ 25) ∨ (c = 208 ∧ 12 ≤ k)) → H' c k = H c k
theorem mg_tr {H H1 H2 : zM} (a : mg H H1) (c : mg H1 H2) : mg H H2 := fun i k q => (c i k q).trans (a i k q)
theorem ml_tr {H H1 H2 : zM} (a : ml H H1) (c : ml H1 H2) : ml H H2 := fun i k q => (c i k q).trans (a i k q)
theorem mf_mg {H H1 : zM} (a : mf H H1) : mg H H1 := fun i k q => a i k (by omega)
theorem mf_ml {H H1 : zM} (a : mf H H1) : ml H H1 := fun i k q => a i k (by omega)
theorem ml_mg {H H1 : zM} (a : ml H H1) : mg H H1 := fun i k q => a i k (by omega)
theorem mg_u {H : zM} {c k : Nat} {v : Int32} (hc : (c = 205 ∧ 7 ≤ k ∧ k ≤ 13) ∨ (c = 205 ∧ 22 ≤ k ∧ k ≤ 25) ∨ (c = 208 ∧ 12 ≤ k) ∨ (209 ≤ c ∧ c ≤ 213 ∧ 4 ≤ k)) : mg H (ps_uI H c k v) := fun i j q => uI_o (by omega)
theorem ml_u {H : zM} {c k : Nat} {v : Int32} (hc : (c = 205 ∧ k = 7) ∨ (c = 205 ∧ 22 ≤ k ∧ k ≤ 25) ∨ (c = 208 ∧ 12 ≤ k)) : ml H (ps_uI H c k v) := fun i j q => uI_o (by omega)
theorem Tm_mg {t : Nat → Int} {n : Nat} {H H' : zM} (h : Tm t n H) (hc : mg H H') : Tm t n H' := Tm_c h (fun c k q => hc c k (by omega))
theorem Tm_ml {t : Nat → Int} {n : Nat} {H H' : zM} (h : Tm t n H) (hc : ml H H') : Tm t n H' := Tm_c h (fun c k q => hc c k (by omega))
theorem Rm_u {H : zM} {S : rS} {c k : Nat} {v : Int32} (h : Rm H S) (hc : ¬ (c = 205 ∧ 22 ≤ k ∧ k ≤ 25)) : Rm (ps_uI H c k v) S := ⟨fun a => by rw [uI_o (by omega)]; exact h.1 a, by rw [uI_o (by omega)]; exact h.2.1, by rw [uI_o (by omega)]; exact h.2.2⟩
theorem Da_mf {H H' : zM} {y : yS} (h : Da H y) (hc : mf H H') : Da H' y := by
  unfold Da at h ⊢
  rw [hc 205 7 (by omega), hc 205 8 (by omega), hc 205 9 (by omega), hc 205 10 (by omega), hc 205 11 (by omega), hc 205 12 (by omega)]
  refine ⟨h.1, fun j hj => by rw [hc 208 _ (by omega)]; exact h.2.1 j hj, fun p hp => ?_⟩
  rw [hc 209 _ (by omega), hc 210 _ (by omega), hc 211 _ (by omega), hc 212 _ (by omega), hc 213 _ (by omega)]
  exact h.2.2 p hp
theorem Da_u {H : zM} {y : yS} {k : Nat} {v : Int32} (h : Da H y) (hk : k < 7 ∨ 12 < k) : Da (ps_uI H 205 k v) y := by
  unfold Da at h ⊢
  rw [uI_o (by omega), uI_o (by omega), uI_o (by omega), uI_o (by omega), uI_o (by omega), uI_o (by omega)]
  refine ⟨h.1, fun j hj => by rw [uI_o (by omega)]; exact h.2.1 j hj, fun p hp => ?_⟩
  rw [uI_o (by omega), uI_o (by omega), uI_o (by omega), uI_o (by omega), uI_o (by omega)]
  exact h.2.2 p hp
theorem Da_n {H : zM} {y : yS} {k : Nat} {v : Int} (h : Da H y) (hk : 2 ≤ k ∧ k ≤ 5) : Da (ps_uI H 205 (7 + k) (ii v)) (up y 0 k v) := by
  obtain ⟨⟨a0, a1, a2, a3, a4, a5⟩, h1, h2⟩ := h
  have key : ∀ i, H 205 (7 + i) = ii (y 0 i) → ps_uI H 205 (7 + k) (ii v) 205 (7 + i) = ii (up y 0 k v 0 i) := fun i hi => by
    by_cases q : i = k
    · subst q
      rw [uI_s, up_s]
    · rw [uI_o (by omega), up_o (by omega), hi]
  refine ⟨⟨key 0 a0, key 1 a1, key 2 a2, key 3 a3, key 4 a4, key 5 a5⟩, fun j hj => ?_, fun p hp => ?_⟩
  · rw [up_o (by omega)] at hj
    rw [uI_o (by omega), up_o (by omega)]; exact h1 j hj
  · rw [up_o (by omega)] at hp
    rw [uI_o (by omega), uI_o (by omega), uI_o (by omega), uI_o (by omega), uI_o (by omega), up_o (by omega), up_o (by omega), up_o (by omega), up_o (by omega), up_o (by omega)]
    exact h2 p hp
theorem Da_t {H : zM} {y : yS} {k : Nat} {v : Int} (h : Da H y) (hk : k = 6 ∨ k = 7) : Da H (up y 0 k v) := by
  have e : ∀ c i, ¬ (c = 0 ∧ i = k) → up y 0 k v c i = y c i := fun c i q => up_o q
  unfold Da at h ⊢
  rw [e 0 0 (by omega), e 0 1 (by omega), e 0 2 (by omega), e 0 3 (by omega), e 0 4 (by omega), e 0 5 (by omega)]
  refine ⟨h.1, fun j hj => by rw [e 1 j (by omega)]; exact h.2.1 j hj, fun p hp => ?_⟩
  rw [e 2 p (by omega), e 3 p (by omega), e 4 p (by omega), e 5 p (by omega), e 6 p (by omega)]
  exact h.2.2 p hp
/-- how a clause ends, ahead of its ';' -/
def PC (t : Nat → Int) (n : Nat) (D : yS → Prop) (H' : zM) (X : rS × yS) : Prop := (∃ Z : rS, Z.2.1 = 0 ∧ fok n Z ∧ Rm H' Z ∧ X.1 = fin t n Z ∧ D X.2) ∨ (X.1.2.1 ≠ 0 ∧ Rm H' X.1)
section
variable {H : zM} {b : Bool} {t : Nat → Int} {n : Nat} {S : rS} {y : yS}
theorem PC_fin {D : yS → Prop} {Z : rS} (hR : Rm H Z) (hf : fok n Z) (hD : Z.2.1 = 0 → D y) : PC t n D H (fin t n Z, y) := by
  by_cases q : Z.2.1 = 0
  · exact Or.inl ⟨Z, q, hf, hR, rfl, hD q⟩
  · have e := fin_k (t := t) (n := n) q
    refine Or.inr ⟨?_, Rm_k hR q e⟩
    show (fin t n Z).2.1 ≠ 0
    rw [e]
    exact q
theorem log_stop {m : Nat} {x : Int32} (h : x = 0 ∨ H 205 24 ≠ (0 : Int32)) : f_X10_takeLog_l2 (m + 1) (mk H b) 205 x = some (mk H b) := by
  show f_X10_takeLog_w2 (f_X10_takeLog_l2 m) (mk H b) 205 x = _
  unfold f_X10_takeLog_w2 f_X10_takeLog_b107
  rcases h with h | h
  · rw [if_pos h]
  · by_cases q : x = 0
    · rw [if_pos q]
    · rw [if_neg q, gI_mk zk_205, if_neg h]
theorem log_m : ∀ (d i mm : Nat) (H : zM) (S : rS) (y : yS), i + d = 12 → 0 < d → d + 1 < mm → Tm t n H → Rm H S → S.2.1 = 0 → fok n S → Da H y → y 0 0 = i → ∃ H', f_X10_takeLog_l2 mm (mk H b) 205 (1 : Int32) = some (mk H' b) ∧ ml H H' ∧ PC t n (Da H') H' (cL t n d i S y) := by
  intro d
  induction d with
  | zero => intro i mm H S y he h0; omega
  | succ d ih =>
    intro i mm H S y he h0 hmm hT hR hk hf hD hi
    obtain ⟨m', rfl⟩ : ∃ m', mm = (m' + 1) + 1 := ⟨mm - 2, by omega⟩
    have hn := hT.1
    obtain ⟨H1, v, f1, r1, o1, hv⟩ := num_m (b := b) (lo := 1) (hi := 9) hT hR hf (by omega) (by omega)
    have k1 := (num_f (t := t) (lo := 1) (hi := 9) hn hf).1
    have hs := sk_b (t := t) k1.1
    have hss := sk_sk (t := t) hn k1.1
    have k2 : fok n (sk t n (num t n 1 9 S).1, (num t n 1 9 S).2) := ⟨hs.2, k1.2⟩
    have e7 : H1 205 7 = ii (i : Int) := by rw [o1 205 7 (by omega), hD.1.1, hi]
    generalize hH2 : ps_uI (ps_uI H1 208 (12 + i) (ii v)) 205 7 (ii ((i + 1 : Nat) : Int)) = H2
    have m2 : ml H H2 := by
      rw [← hH2]
      exact ml_tr (ml_tr (mf_ml o1) (ml_u (by omega))) (ml_u (by omega))
    have r2 : Rm H2 (num t n 1 9 S) := by
      rw [← hH2]
      exact Rm_u (Rm_u r1 (by omega)) (by omega)
    have hT2 := Tm_ml hT m2
    have d2 : (num t n 1 9 S).2.1 = 0 → Da H2 (up (up y 1 i (nV t n S.1)) 0 0 ((i + 1 : Nat) : Int)) := fun a => by
      have key : ∀ c k, ¬ (c = 205 ∧ 22 ≤ k ∧ k ≤ 25) → ¬ (c = 205 ∧ k = 7) → ¬ (c = 208 ∧ k = 12 + i) → H2 c k = H c k := fun c k q1 q2 q3 => by
        rw [← hH2, uI_o (by omega), uI_o (by omega), o1 c k q1]
      have hvv := hv a
      obtain ⟨⟨a0, a1, a2, a3, a4, a5⟩, h1, h2⟩ := hD
      refine ⟨⟨?_, ?_, ?_, ?_, ?_, ?_⟩, fun j hj => ?_, fun q hq => ?_⟩
      · rw [← hH2, uI_s, up_s]
      · rw [key 205 8 (by omega) (by omega) (by omega)]; simp [up, a1]
      · rw [key 205 9 (by omega) (by omega) (by omega)]; simp [up, a2]
      · rw [key 205 10 (by omega) (by omega) (by omega)]; simp [up, a3]
      · rw [key 205 11 (by omega) (by omega) (by omega)]; simp [up, a4]
      · rw [key 205 12 (by omega) (by omega) (by omega)]; simp [up, a5]
      · rw [up_s] at hj
        by_cases w : j = i
        · subst w
          rw [← hH2, uI_o (by omega), uI_s, hvv]; simp [up]
        · rw [key 208 _ (by omega) (by omega) (by omega)]
          simp [up, w, h1 j (by omega)]
      · rw [up_o (by omega), up_o (by omega)] at hq
        rw [key 209 _ (by omega) (by omega) (by omega), key 210 _ (by omega) (by omega) (by omega), key 211 _ (by omega) (by omega) (by omega), key 212 _ (by omega) (by omega) (by omega), key 213 _ (by omega) (by omega) (by omega)]
        have := h2 q hq
        simp [up, this]
    have e0 : f_X10_takeLog_l2 (m' + 1 + 1) (mk H b) 205 (1 : Int32) = ps_gI (mk H2 b) 205 9 24 (fun xv15 => if xv15 = 0 then (ps_ck (mk H2 b) 205 9 (ps_b2 (f_X10_here (mk H2 b) 205) (fun xv17 M => if xv17 = (44 : Int32) then (f_X10_takeLog_b63 (f_X10_takeLog_l2 (m' + 1)) M 205 (1 : Int32)) else (f_X10_takeLog_b62 (f_X10_takeLog_l2 (m' + 1)) M 205)))) else (f_X10_takeLog_b62 (f_X10_takeLog_l2 (m' + 1)) (mk H2 b) 205)) := by
      show f_X10_takeLog_w2 (f_X10_takeLog_l2 (m' + 1)) (mk H b) 205 (1 : Int32) = _
      unfold f_X10_takeLog_w2
      rw [if_neg (by decide), gI_mk zk_205, hR.2.1, if_pos (by rw [hk]; rfl), gR_mk zk_205 (zr_205_14 b), gI_mk zk_205, hD.1.1, hi, ck_mk zk_205, show f_X10_takeNumber (mk H b) 205 (1 : Int32) (9 : Int32) = _ from f1, b2_mk, show (12 : Int32) = ii 12 by decide, ii_add, xI_mk zk_208 (by omega) (by rw [zl_208]; omega) (by rw [zl_208]; omega), show ((12 : Int) + (i : Int)).toNat = 12 + i by omega, gI_mk zk_205, uI_o (by omega), e7, pI_mk zk_205, suc_ii, hH2]
    rw [e0, gI_mk zk_205, r2.2.1]
    have b62 : ∀ H3 : zM, f_X10_takeLog_b62 (f_X10_takeLog_l2 (m' + 1)) (mk H3 b) 205 = some (mk H3 b) := fun H3 => by
      unfold f_X10_takeLog_b62 f_X10_takeLog_b63
      rw [if_pos rfl, log_stop (Or.inl rfl)]
    unfold cL
    obtain ⟨-, g1, g2, g3, g4⟩ := id k1
    by_cases q1 : (num t n 1 9 S).2.1 = 0
    · have hb := mkk_m hT2 (sk t n (num t n 1 9 S).1)
      rw [if_pos (by rw [q1]; rfl), ck_mk zk_205, here_m hT2 (r2.1 q1) k1.1, b2_mk]
      generalize hH3 : ps_uI H2 205 22 (ii (sk t n (num t n 1 9 S).1 : Int)) = H3
      have f23 : mf H2 H3 := fun c k a => by rw [← hH3, uI_o (by omega)]
      have m3 : ml H H3 := ml_tr m2 (mf_ml f23)
      have r3 : Rm H3 (sk t n (num t n 1 9 S).1, (num t n 1 9 S).2) := ⟨fun _ => by rw [← hH3, uI_s], by rw [← hH3, uI_o (by omega)]; exact r2.2.1, by rw [← hH3, uI_o (by omega)]; exact r2.2.2⟩
      have d3 := Da_mf (d2 q1) f23
      by_cases q2 : mkk t n (sk t n (num t n 1 9 S).1) = 44
      · rw [if_pos (by rw [q2]; decide)]
        unfold f_X10_takeLog_b63
        rw [if_neg (by decide), gI_mk zk_205, d3.1.1, up_s]
        have hlt := mkk_i (t := t) (n := n) (p := sk t n (num t n 1 9 S).1) (by rw [q2]; decide)
        by_cases q3 : i + 1 = 12
        · obtain ⟨H4, f4, ⟨x24, x25⟩, o4⟩ := want_m (b := b) (g := 0) (k := 1) (w := (sk t n (num t n 1 9 S).1 : Int)) (S := (num t n 1 9 S)) (Or.inl rfl) (by omega) r3.2.1 r3.2.2 ⟨g1, g2⟩
          rw [if_neg (by decide), mk2_k.2.2.2 q1 (by decide)] at x24 x25
          refine ⟨H4, ?_, ml_tr m3 (fun c k a => o4 c k (by omega)), Or.inr ?_⟩
          · rw [if_pos (by rw [show (12 : Int32) = ii 12 by decide, ii_le (by omega) (by omega) (by omega) (by omega)]; omega)]
            unfold f_X10_takeLog_b83
            rw [gI_mk zk_205, r3.1 q1, ck_mk zk_205, show f_X10_want (mk H3 b) 205 (0 : Int32) (1 : Int32) (ii (sk t n (num t n 1 9 S).1 : Int)) = _ from f4, b2_mk, if_pos (by rw [if_neg (by omega)]; rfl), log_stop (Or.inr (by rw [x24]; show ii 1 ≠ (0 : Int32); decide))]
          · rw [if_pos (Or.inl q3)]
            have e : fin t n (sk t n (num t n 1 9 S).1, (num t n 1 9 S).2) = (sk t n (num t n 1 9 S).1, ((1 : Int), (sk t n (num t n 1 9 S).1 : Int))) := by
              unfold fin
              show (if mkk t n (sk t n (sk t n (num t n 1 9 S).1)) = 59 then _ else _) = _
              rw [if_neg (by rw [hss, q2]; decide)]
              show (sk t n (sk t n (num t n 1 9 S).1), mk2 (num t n 1 9 S).2 1 (sk t n (sk t n (num t n 1 9 S).1) : Int)) = _
              rw [hss, mk2_k.2.2.2 q1 (by decide)]
            show (fin t n (sk t n (num t n 1 9 S).1, (num t n 1 9 S).2)).2.1 ≠ 0 ∧ Rm H4 (fin t n (sk t n (num t n 1 9 S).1, (num t n 1 9 S).2))
            rw [e]
            exact ⟨by show (1 : Int) ≠ 0; decide, fun a => absurd a (by show ¬ (1 : Int) = 0; decide), x24, x25⟩
        · obtain ⟨H4, f4, ⟨x24, x25⟩, o4⟩ := want_m (b := b) (g := 1) (k := 1) (w := (sk t n (num t n 1 9 S).1 : Int)) (S := (num t n 1 9 S)) (Or.inr rfl) (by omega) r3.2.1 r3.2.2 ⟨g1, g2⟩
          rw [if_pos rfl] at x24 x25
          generalize hH5 : ps_uI H4 205 22 (ii ((sk t n (num t n 1 9 S).1 + 1 : Nat) : Int)) = H5
          have f35 : mf H3 H5 := fun c k a => by rw [← hH5, uI_o (by omega), o4 c k (by omega)]
          have m5 := ml_tr m3 (mf_ml f35)
          obtain ⟨H', f6, o6, p6⟩ := ih (i + 1) (m' + 1) H5 (sk t n (num t n 1 9 S).1 + 1, (num t n 1 9 S).2) (up (up y 1 i (nV t n S.1)) 0 0 ((i + 1 : Nat) : Int)) (by omega) (by omega) (by omega) (Tm_ml hT m5) ⟨fun _ => by rw [← hH5, uI_s], by rw [← hH5, uI_o (by omega)]; exact x24, by rw [← hH5, uI_o (by omega)]; exact x25⟩ q1 ⟨hlt, k1.2⟩ (Da_mf d3 f35) up_s
          refine ⟨H', ?_, ml_tr m5 o6, ?_⟩
          · rw [if_neg (by rw [show (12 : Int32) = ii 12 by decide, ii_le (by omega) (by omega) (by omega) (by omega)]; omega)]
            unfold f_X10_takeLog_b83
            rw [gI_mk zk_205, r3.1 q1, ck_mk zk_205, show f_X10_want (mk H3 b) 205 (1 : Int32) (1 : Int32) (ii (sk t n (num t n 1 9 S).1 : Int)) = _ from f4, b2_mk, if_neg (by rw [if_pos ⟨q1, rfl⟩]; decide), gI_mk zk_205, o4 205 22 (by omega), r3.1 q1, pI_mk zk_205]
            rw [show (ii (((sk t n (num t n 1 9 S).1, (num t n 1 9 S).2) : rS).1 : Int) + (1 : Int32)) = ii ((sk t n (num t n 1 9 S).1 + 1 : Nat) : Int) from suc_ii _, hH5, f6]
          · rw [if_neg (by omega)]
            exact p6
      · rw [if_neg (by rw [show (44 : Int32) = ii 44 by decide, ii_eq (by omega) (by omega) (by omega) (by omega)]; exact q2), b62]
        refine ⟨H3, rfl, m3, ?_⟩
        rw [if_pos (Or.inr q2)]
        exact PC_fin r3 k2 (fun _ => d3)
    · rw [if_neg (by rw [show (0 : Int32) = ii 0 by decide, ii_eq (by omega) (by omega) (by omega) (by omega)]; exact q1), b62]
      refine ⟨H2, rfl, m2, Or.inr ?_⟩
      have e : ∀ X : rS × yS, X.1.2 = (num t n 1 9 S).2 → X.1.2.1 ≠ 0 ∧ Rm H2 X.1 := fun X hX => ⟨by rw [hX]; exact q1, Rm_k r2 q1 hX⟩
      by_cases q2 : i + 1 = 12 ∨ mkk t n (sk t n (num t n 1 9 S).1) ≠ 44
      · rw [if_pos q2]
        exact e _ (fin_k (S := (sk t n (num t n 1 9 S).1, (num t n 1 9 S).2)) q1)
      · rw [if_neg q2]
        have hlt := mkk_i (t := t) (n := n) (p := sk t n (num t n 1 9 S).1) (by intro a; rw [a] at q2; exact q2 (Or.inr (by decide)))
        exact e _ ((cL_f hn d (i + 1) (sk t n (num t n 1 9 S).1 + 1, (num t n 1 9 S).2) _ ⟨hlt, k1.2⟩).2.2 q1)
end
