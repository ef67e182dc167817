/-! what is remembered to be undone -/
def crem (h : zM) (n t : Nat) : zM := ps_uI (ps_uI (putW h (25 + 5 * t) (wk h 18)) 23 1 (ii (((t + 1) % 30 : Nat) : Int))) 23 0 (ii ((min (n + 1) 30 : Nat) : Int))
def mrem (H : zM) (n : Nat) : zM := fun c k => if c = 205 ∧ k = 26 then ii ((min (n + 1) 30 : Nat) : Int) else if c = 206 ∧ 112 + 28 * (min n 29) ≤ k ∧ k < 140 + 28 * (min n 29) then H 206 (k - (112 + 28 * (min n 29))) else if n = 30 ∧ c = 206 ∧ 112 ≤ k ∧ k < 924 then H 206 (k + 28) else H c k
section
variable {h : zM} {b : Bool} {n t : Nat}
theorem placeAt_mk (ht : t < 30) : f_X2_placeAt (mk h b) 23 (ii t) = some (25 + 5 * t + 1, mk h b) := by
  unfold f_X2_placeAt
  rw [ii_lits.1, if_neg (by rw [ii_lt (by omega) (by omega) (by omega) (by omega)]; omega), gR_mk zk_23 (zr_23_2 b), aL_mkR zk_24, zl_24, if_neg (by rw [ii_le (by omega) (by omega) (by omega) (by omega)]; omega), gR_mk zk_23 (zr_23_2 b), aR_mk zk_24 (by omega) (by rw [zl_24]; omega) (by rw [zl_24]; omega), Int.toNat_natCast, lr_ring b t ht]
  rfl
theorem mod30 (x : Nat) (hx : x < 1000) : ii ((x : Nat) : Int) - ii ((x : Nat) : Int) / ii 30 * ii 30 = ii (((x % 30 : Nat)) : Int) := by
  rw [ii_div (by omega) (by omega) (by omega) (by omega), ii_mul, ii_sub]
  congr 1
  omega
theorem remember_mk (hn : n ≤ 30) (ht : t < 30) (h0 : h 23 0 = ii n) (h1 : h 23 1 = ii t) (hw : wk h 18 23 = 0 ∨ wk h 18 23 = 1) : f_X2_remember (mk h b) 23 18 = some (mk (crem h n t) b) := by
  unfold f_X2_remember
  simp only [ii_lits]
  rw [gI_mk zk_23, h1, ck_mk zk_23, placeAt_mk ht, b2_mk]
  show ps_ck (mk h b) (25 + 5 * t) 6 _ = _
  rw [ck_mk (iw_r ht).1, become_mk (iw_r ht) iw_18 (by omega) hw, b1_mk, gI_mk zk_23, putW_o _ _ _ (by omega), h1]
  simp only [ii_add]
  rw [show (t : Int) + 1 = ((t + 1 : Nat) : Int) from rfl, mod30 (t + 1) (by omega), pI_mk zk_23, gI_mk zk_23, uI_o (by omega), putW_o _ _ _ (by omega), h0, ii_add, ii_min (by omega) (by omega) (by omega) (by omega), v_mk, pI_mk zk_23]
  show some (mk _ b) = _
  unfold crem
  congr 4
  omega
theorem crem_o {c k : Nat} (hc : c < 23 ∨ 174 < c) (ht : t < 30) : crem h n t c k = h c k := by
  unfold crem
  rw [uI_o (by omega), uI_o (by omega), putW_o _ _ _ (by omega)]
theorem crem_wk (hn : n ≤ 30) (ht : t < 30) {s : Nat} (hs : s < 30) : (∀ i, i < 25 → wk (crem h n t) (25 + 5 * s) i = (if s = t then wk h 18 i else wk h (25 + 5 * s) i)) := by
  intro i hi
  have e1 : wk (crem h n t) (25 + 5 * s) = wk (putW h (25 + 5 * t) (wk h 18)) (25 + 5 * s) := wk_c (fun c k a b => by unfold crem; rw [uI_o (by omega), uI_o (by omega)])
  rw [e1]
  by_cases e : s = t
  · subst e
    rw [if_pos rfl]
    have w := putW_r h (25 + 5 * s) (wk h 18)
    have key : ∀ c j, inW (25 + 5 * s) c j → ixW (25 + 5 * s) c j = i → wk (putW h (25 + 5 * s) (wk h 18)) (25 + 5 * s) i = wk h 18 i := by
      intro c j hin hix
      have h2 := wk_ix (putW h (25 + 5 * s) (wk h 18)) (25 + 5 * s) hin
      rw [hix, putW_in _ _ _ hin, hix] at h2
      rw [h2]
      have h3 : ∃ z : Int32, wk h 18 i = z.toInt := by
        unfold wk
        repeat' split
        all_goals exact ⟨_, rfl⟩
      obtain ⟨z, hz⟩ := h3
      rw [hz, ii_toInt]
    by_cases c1 : i < 4
    · exact key (25 + 5 * s + 1) i (by unfold inW; omega) (by unfold ixW; (repeat' split); all_goals omega)
    by_cases c2 : i < 8
    · exact key (25 + 5 * s + 3) (i - 4) (by unfold inW; omega) (by unfold ixW; (repeat' split); all_goals omega)
    by_cases c3 : i < 12
    · exact key (25 + 5 * s + 4) (i - 8) (by unfold inW; omega) (by unfold ixW; (repeat' split); all_goals omega)
    by_cases c4 : i < 16
    · exact key (25 + 5 * s + 2) (i - 12) (by unfold inW; omega) (by unfold ixW; (repeat' split); all_goals omega)
    by_cases c5 : i = 24
    · exact key (25 + 5 * s) 7 (by unfold inW; omega) (by unfold ixW; (repeat' split); all_goals omega)
    by_cases c6 : i = 23
    · exact key (25 + 5 * s) 8 (by unfold inW; omega) (by unfold ixW; (repeat' split); all_goals omega)
    · exact key (25 + 5 * s) (i - 16) (by unfold inW; omega) (by unfold ixW; (repeat' split); all_goals omega)
  · rw [if_neg e]
    have e2 : wk (putW h (25 + 5 * t) (wk h 18)) (25 + 5 * s) = wk h (25 + 5 * s) := wk_c (fun c k a b => putW_o h (25 + 5 * t) (wk h 18) (by omega) k)
    rw [e2]
theorem mremember_mk (hn : n ≤ 30) (h0 : h 205 26 = ii n) : f_X10_remember (mk h b) 205 = some (mk (mrem h n) b) := by
  have e53 : ∀ (H : zM) (q : Nat), q ≤ 29 → H 205 26 = ii q → f_X10_remember_b53 (mk H b) 205 = some (mk (ps_uI (mcp H 0 (112 + 28 * q) 28) 205 26 (ii ((q + 1 : Nat) : Int))) b) := by
    intro H q hq hH
    unfold f_X10_remember_b53
    simp only [ii_lits]
    rw [gI_mk zk_205, hH, ck_mk zk_205, ii_mul, ii_add, show (112 : Int) + 28 * (q : Int) = ((112 + 28 * q : Nat) : Int) by omega, show ii 0 = ii ((0 : Nat) : Int) from rfl, mcopy_mk (by omega) (by omega) (by omega), b1_mk, gI_mk zk_205]
    have : mcp H 0 (112 + 28 * q) 28 205 26 = ii q := by unfold mcp; rw [if_neg (by omega)]; exact hH
    rw [this, ii_add, pI_mk zk_205]
    rfl
  unfold f_X10_remember
  rw [gI_mk zk_205, h0]
  by_cases hn30 : n = 30
  · subst hn30
    rw [if_pos (by decide)]
    -- the rows shifted up to q
    let sh : Nat → zM := fun q c k => if c = 206 ∧ 112 ≤ k ∧ k < 112 + 28 * (q - 1) then h 206 (k + 28) else h c k
    have hsh : ∀ q c k, sh q c k = if c = 206 ∧ 112 ≤ k ∧ k < 112 + 28 * (q - 1) then h 206 (k + 28) else h c k := fun _ _ _ => rfl
    have key : ∀ (d q m : Nat), q + d = 30 → 1 ≤ q → d < m → f_X10_remember_l11 m (mk (sh q) b) 205 (ii q) = some (mk (mrem h 30) b) := by
      intro d
      induction d with
      | zero =>
        intro q m hq h1 hm
        have hq' : q = 30 := by omega
        subst hq'
        obtain ⟨m', rfl⟩ : ∃ m', m = m' + 1 := ⟨m - 1, by omega⟩
        show f_X10_remember_w11 (f_X10_remember_l11 m') (mk (sh 30) b) 205 (ii (30 : Nat)) = _
        unfold f_X10_remember_w11
        have e0 : sh 30 205 26 = ii 30 := by rw [hsh, if_neg (by omega)]; exact h0
        rw [if_pos (by decide), gI_mk zk_205, e0, ii_lits.2.1, ii_sub, pI_mk zk_205, e53 _ 29 (by omega) (by rw [uI_s]; rfl)]
        refine congrArg (fun z => some (mk z b)) ?_
        funext c k
        unfold mrem
        rw [show min (30 + 1) 30 = 30 from rfl, show min 30 29 = 29 from rfl]
        by_cases c1 : c = 205 ∧ k = 26
        · rw [if_pos c1, c1.1, c1.2, uI_s]
        · rw [if_neg c1, uI_o c1]
          unfold mcp
          by_cases c2 : c = 206 ∧ 112 + 28 * 29 ≤ k ∧ k < 112 + 28 * 29 + 28
          · rw [if_pos c2, if_pos (by omega), uI_o (by omega), hsh, if_neg (by omega), Nat.add_zero]
          · rw [if_neg c2, if_neg (by omega), uI_o c1, hsh]
            by_cases c3 : c = 206 ∧ 112 ≤ k ∧ k < 112 + 28 * (30 - 1)
            · rw [if_pos c3, if_pos (by omega)]
            · rw [if_neg c3, if_neg (by omega)]
      | succ d ih =>
        intro q m hq h1 hm
        obtain ⟨m', rfl⟩ : ∃ m', m = m' + 1 := ⟨m - 1, by omega⟩
        show f_X10_remember_w11 (f_X10_remember_l11 m') (mk (sh q) b) 205 (ii q) = _
        unfold f_X10_remember_w11
        simp only [ii_lits]
        rw [if_neg (by rw [ii_le (by omega) (by omega) (by omega) (by omega)]; omega), ck_mk zk_205]
        simp only [ii_mul, ii_sub, ii_add]
        rw [show (112 : Int) + 28 * (q : Int) = ((112 + 28 * q : Nat) : Int) by omega, show (112 : Int) + 28 * ((q : Int) - 1) = ((112 + 28 * (q - 1) : Nat) : Int) by omega, mcopy_mk (by omega) (by omega) (by omega), b1_mk, v_mk, show (q : Int) + 1 = ((q + 1 : Nat) : Int) from rfl]
        have e1 : mcp (sh q) (112 + 28 * q) (112 + 28 * (q - 1)) 28 = sh (q + 1) := by
          funext c k
          unfold mcp
          by_cases c2 : c = 206 ∧ 112 + 28 * (q - 1) ≤ k ∧ k < 112 + 28 * (q - 1) + 28
          · rw [if_pos c2, hsh (q + 1), if_pos (by omega), hsh q, if_neg (by omega)]
            exact congrArg (h 206) (by omega)
          · rw [if_neg c2, hsh q, hsh (q + 1)]
            by_cases c3 : c = 206 ∧ 112 ≤ k ∧ k < 112 + 28 * (q - 1)
            · rw [if_pos c3, if_pos (by omega)]
            · rw [if_neg c3, if_neg (by omega)]
        rw [e1]
        exact ih (q + 1) m' (by omega) (by omega) (by omega)
    have h1 := key 29 1 ps_fu (by omega) (by omega) (by unfold ps_fu; omega)
    have e0 : sh 1 = h := by
      funext c k
      rw [hsh, if_neg (by omega)]
    rw [e0] at h1
    exact h1
  · rw [if_neg (by rw [show (30 : Int32) = ii 30 by decide, ii_eq (by omega) (by omega) (by omega) (by omega)]; omega), e53 h n (by omega) h0]
    refine congrArg (fun z => some (mk z b)) ?_
    funext c k
    unfold mrem
    rw [show min (n + 1) 30 = n + 1 by omega, show min n 29 = n by omega]
    by_cases c1 : c = 205 ∧ k = 26
    · rw [if_pos c1, c1.1, c1.2, uI_s]
    · rw [if_neg c1, uI_o c1]
      unfold mcp
      by_cases c2 : c = 206 ∧ 112 + 28 * n ≤ k ∧ k < 112 + 28 * n + 28
      · rw [if_pos c2, if_pos (by omega), Nat.add_zero]
      · rw [if_neg c2, if_neg (by omega), if_neg (by omega)]
theorem mrem_o {c k : Nat} (h1 : ¬ (c = 205 ∧ k = 26)) (h2 : ¬ (c = 206 ∧ 112 ≤ k ∧ k < 952)) (hn : n ≤ 30) : mrem h n c k = h c k := by
  unfold mrem
  rw [if_neg h1, if_neg (by omega), if_neg (by omega)]
end
/-- behind what is remembered on both sides -/
theorem RP_rem {h F : zM} {y : Nat → Nat → Int} {g g' : Int} {n t : Nat} (hy : y 0 1 ≤ 4) (hg : g ≤ g') (hn : n ≤ 30) (ht : t < 30) (hold : ∀ j, j < n → Ok y g (wk h (25 + 5 * ((t + 30 - n + j) % 30))) (mrow h (112 + 28 * j))) (hnow : Ok y g (wk h 18) (mrow h 0)) (f1 : F 23 0 = ii ((min (n + 1) 30 : Nat) : Int)) (f2 : F 23 1 = ii (((t + 1) % 30 : Nat) : Int)) (f3 : ∀ s, s < 30 → ∀ i, i < 25 → wk F (25 + 5 * s) i = (if s = t then wk h 18 i else wk h (25 + 5 * s) i)) (f4 : F 205 26 = ii ((min (n + 1) 30 : Nat) : Int)) (f5 : ∀ k, 112 ≤ k → k < 952 → F 206 k = (if 112 + 28 * (min n 29) ≤ k ∧ k < 140 + 28 * (min n 29) then h 206 (k - (112 + 28 * (min n 29))) else if n = 30 ∧ k < 924 then h 206 (k + 28) else h 206 k)) : RP F y g' := by
  refine ⟨min (n + 1) 30, (t + 1) % 30, by omega, Nat.mod_lt _ (by omega), f1, f4, f2, fun j hj => ?_⟩
  have hs : ((t + 1) % 30 + 30 - min (n + 1) 30 + j) % 30 < 30 := Nat.mod_lt _ (by omega)
  generalize hsd : ((t + 1) % 30 + 30 - min (n + 1) 30 + j) % 30 = s at hs ⊢
  -- the row of the class
  have ok_r : ∀ (r r2 m : Nat → Int), (∀ i, i < 25 → r2 i = r i) → Ok y g r m → Ok y g' r2 m := by
    intro r r2 m he ho
    obtain ⟨o1, o2, o3, o4⟩ := ho
    have hq : req y r r2 := ⟨fun i a b => he i b, fun p hp => ⟨he p (by omega), he _ (by omega), he _ (by omega), he _ (by omega)⟩⟩
    refine ⟨(req_Vb hq o1).up hg, ?_, fun i a b => by rw [he i b]; exact o3 i a b, fun p hp => ?_⟩
    · rcases o2 with q | ⟨q1, q2⟩
      · rw [he 16 (by omega), he 17 (by omega), he 18 (by omega)]
        exact Or.inl q
      · exact Or.inr ⟨q1, req_Pr hq q2⟩
    · rw [he p (by omega), he (4 + p) (by omega), he (8 + p) (by omega), he (12 + p) (by omega)]
      exact o4 p hp
  by_cases hlast : j + 1 = min (n + 1) 30
  · have est : s = t := by omega
    have ok1 : Ok y g' (wk F (25 + 5 * s)) (mrow h 0) := ok_r (wk h 18) _ _ (fun i hi => by rw [f3 s hs i hi, if_pos est]) hnow
    refine Ok_m ok1 (fun i hi => ?_) hy
    unfold mrow
    rw [f5 _ (by omega) (by omega), if_pos (by omega)]
    congr 2
    omega
  · by_cases h30 : n = 30
    · have e1 : s ≠ t := by omega
      have e2 : s = (t + 30 - n + (j + 1)) % 30 := by omega
      have ok1 : Ok y g' (wk F (25 + 5 * s)) (mrow h (112 + 28 * (j + 1))) := ok_r (wk h (25 + 5 * ((t + 30 - n + (j + 1)) % 30))) _ _ (fun i hi => by rw [f3 s hs i hi, if_neg e1, ← e2]) (hold (j + 1) (by omega))
      refine Ok_m ok1 (fun i hi => ?_) hy
      unfold mrow
      rw [f5 _ (by omega) (by omega), if_neg (by omega), if_pos (by omega)]
      congr 2
      omega
    · have e1 : s ≠ t := by omega
      have e2 : s = (t + 30 - n + j) % 30 := by omega
      have ok1 : Ok y g' (wk F (25 + 5 * s)) (mrow h (112 + 28 * j)) := ok_r (wk h (25 + 5 * ((t + 30 - n + j) % 30))) _ _ (fun i hi => by rw [f3 s hs i hi, if_neg e1, ← e2]) (hold j (by omega))
      refine Ok_m ok1 (fun i hi => ?_) hy
      unfold mrow
      rw [f5 _ (by omega) (by omega), if_neg (by omega), if_neg (by omega)]
