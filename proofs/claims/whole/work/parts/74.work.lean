/-! the class's small methods over the memory mk h b -/
section
variable {h : Nat → Nat → Int32} {b : Bool} {α : Type}
theorem gI_mk {a ci k : Nat} {f : Int32 → Option α} (hK : zK a = ci + 1) : ps_gI (mk h b) a ci k f = f (h a k) := by
  simp [ps_gI, mk_K, mk_I, hK]
theorem gR_mk {a ci k r : Nat} {f : Nat → Option α} (hK : zK a = ci + 1) (hR : zR b a k = r + 1) : ps_gR (mk h b) a ci k f = f r := by
  simp [ps_gR, mk_K, mk_R, hK, hR]
theorem pI_mk {a ci k : Nat} {v : Int32} {f : ps_M → Option α} (hK : zK a = ci + 1) : ps_pI (mk h b) a ci k v f = f (mk (ps_uI h a k v) b) := by
  simp [ps_pI, mk_K, mk_sI, hK]
theorem pZ_mk {a ci k : Nat} {v : Int32} {f : ps_M → Option α} (hK : zK a = ci + 1) (hv : v = 0 ∨ v = 1) : ps_pZ (mk h b) a ci k v f = f (mk (ps_uI h a k v) b) := by
  unfold ps_pZ
  rw [if_pos ⟨by rw [mk_K]; exact hK, hv⟩, mk_sI]
theorem ck_mk {a ci : Nat} {X : Option α} (hK : zK a = ci + 1) : ps_ck (mk h b) a ci X = X := by
  simp [ps_ck, mk_K, hK]
theorem aL_mk {a : Nat} {f : Int32 → Option α} (hK : zK a = 21) : ps_aL (mk h b) a f = f (ii (zL a)) := by
  simp [ps_aL, mk_K, mk_L, hK, ii_nI]
theorem aL_mkR {a : Nat} {f : Int32 → Option α} (hK : zK a = 23) : ps_aL (mk h b) a f = f (ii (zL a)) := by
  simp [ps_aL, mk_K, mk_L, hK, ii_nI]
theorem in_ii {x : Int} {n : Nat} (h0 : 0 ≤ x) (hn : x < n) (hb : n ≤ 2147483648) : ¬ (ii x < 0 ∨ n ≤ (ii x).toNatClampNeg) := by
  rw [ii_clamp h0 (by omega), ii_lits.1, ii_lt (by omega) (by omega) (by omega) (by omega)]
  omega
theorem aI_mk {a : Nat} {x : Int} {f : Int32 → Option α} (hK : zK a = 21) (h0 : 0 ≤ x) (hn : x < zL a) (hb : zL a ≤ 2147483648) : ps_aI (mk h b) a (ii x) f = f (h a x.toNat) := by
  unfold ps_aI
  rw [mk_K, mk_L, mk_I, if_pos ⟨hK, in_ii h0 hn hb⟩, ii_clamp h0 (by omega)]
theorem aZ_mk {a : Nat} {x : Int} {f : Int32 → Option α} (hK : zK a = 22) (h0 : 0 ≤ x) (hn : x < zL a) (hb : zL a ≤ 2147483648) : ps_aZ (mk h b) a (ii x) f = f (h a x.toNat) := by
  unfold ps_aZ
  rw [mk_K, mk_L, mk_I, if_pos ⟨hK, in_ii h0 hn hb⟩, ii_clamp h0 (by omega)]
theorem aR_mk {a : Nat} {x : Int} {f : Nat → Option α} (hK : zK a = 23) (h0 : 0 ≤ x) (hn : x < zL a) (hb : zL a ≤ 2147483648) : ps_aR (mk h b) a (ii x) f = f (zR b a x.toNat) := by
  unfold ps_aR
  rw [mk_K, mk_L, mk_R, if_pos ⟨hK, in_ii h0 hn hb⟩, ii_clamp h0 (by omega)]
theorem xI_mk {a : Nat} {x : Int} {v : Int32} {f : ps_M → Option α} (hK : zK a = 21) (h0 : 0 ≤ x) (hn : x < zL a) (hb : zL a ≤ 2147483648) : ps_xI (mk h b) a (ii x) v f = f (mk (ps_uI h a x.toNat v) b) := by
  unfold ps_xI
  rw [mk_K, mk_L, if_pos ⟨hK, in_ii h0 hn hb⟩, mk_sI, ii_clamp h0 (by omega)]
theorem xZ_mk {a : Nat} {x : Int} {v : Int32} {f : ps_M → Option α} (hK : zK a = 22) (h0 : 0 ≤ x) (hn : x < zL a) (hb : zL a ≤ 2147483648) (hv : v = 0 ∨ v = 1) : ps_xZ (mk h b) a (ii x) v f = f (mk (ps_uI h a x.toNat v) b) := by
  unfold ps_xZ
  rw [mk_K, mk_L, if_pos ⟨hK, in_ii h0 hn hb, hv⟩, mk_sI, ii_clamp h0 (by omega)]
theorem v_mk {x : Int32} {f : Int32 → Option α} : ps_v x f = f x := rfl
theorem b2_mk {β : Type} {x : β} {M : ps_M} {f : β → ps_M → Option α} : ps_b2 (some (x, M)) f = f x M := rfl
theorem b1_mk {M : ps_M} {f : ps_M → Option α} : ps_b1 (some M) f = f M := rfl
theorem z_mk {M : ps_M} : ps_z 0 M = some (ii 0, M) ∧ ps_z 1 M = some (ii 1, M) := ⟨rfl, rfl⟩
/-! Row -/
theorem at_mk {c : Nat} {p : Int} (hK : zK c = 21) (h0 : 0 ≤ p) (hn : p < zL c) (hb : zL c ≤ 2147483647) : f_X4_at (mk h b) c (ii p) = some (h c p.toNat, mk h b) := by
  unfold f_X4_at
  rw [if_neg (by rw [ii_lits.1, ii_lt (by omega) (by omega) (by omega) (by omega)]; omega), aL_mk hK, if_neg (by rw [ii_le (by omega) (by omega) (by omega) (by omega)]; omega), aI_mk hK h0 hn (by omega)]
  rfl
theorem at_out {c : Nat} {p : Int} (hK : zK c = 21) (h1 : -2147483648 ≤ p) (h2 : p < 2147483648) (hn : p < 0 ∨ (zL c : Int) ≤ p) (hb : zL c ≤ 2147483647) : f_X4_at (mk h b) c (ii p) = some (ii 0, mk h b) := by
  unfold f_X4_at
  by_cases h0 : p < 0
  · rw [if_pos (by rw [ii_lits.1, ii_lt (by omega) (by omega) (by omega) (by omega)]; omega)]
    rfl
  · rw [if_neg (by rw [ii_lits.1, ii_lt (by omega) (by omega) (by omega) (by omega)]; omega), aL_mk hK, if_pos (by rw [ii_le (by omega) (by omega) (by omega) (by omega)]; omega)]
    rfl
theorem put_mk {c : Nat} {p : Int} {v : Int32} (hK : zK c = 21) (h0 : 0 ≤ p) (hn : p < zL c) (hb : zL c ≤ 2147483647) : f_X4_put (mk h b) c (ii p) v = some (mk (ps_uI h c p.toNat v) b) := by
  unfold f_X4_put
  rw [if_neg (by rw [ii_lits.1, ii_lt (by omega) (by omega) (by omega) (by omega)]; omega), aL_mk hK, if_neg (by rw [ii_le (by omega) (by omega) (by omega) (by omega)]; omega), xI_mk hK h0 hn (by omega)]
  rfl
theorem put_out {c : Nat} {p : Int} {v : Int32} (hK : zK c = 21) (h1 : -2147483648 ≤ p) (h2 : p < 2147483648) (hn : p < 0 ∨ (zL c : Int) ≤ p) (hb : zL c ≤ 2147483647) : f_X4_put (mk h b) c (ii p) v = some (mk h b) := by
  unfold f_X4_put
  by_cases h0 : p < 0
  · rw [if_pos (by rw [ii_lits.1, ii_lt (by omega) (by omega) (by omega) (by omega)]; omega)]
    rfl
  · rw [if_neg (by rw [ii_lits.1, ii_lt (by omega) (by omega) (by omega) (by omega)]; omega), aL_mk hK, if_pos (by rw [ii_le (by omega) (by omega) (by omega) (by omega)]; omega)]
    rfl
/-! a Work's tire -/
def cl9 (v : Int) : Int := min 9 (max (-9) v)
def clt (v : Int) : Int := min 999 (max 0 v)
theorem tire_mk {a : Nat} {r : Nat → Int} {p v : Int} (ha : isW a) (h0 : 0 ≤ p) (h4 : p < 4) (ht0 : 0 ≤ r (4 + p.toNat)) (ht1 : r (4 + p.toNat) ≤ 999) (hv0 : -1000 ≤ v) (hv1 : v ≤ 1000) : f_X7_tire (mk (putW h a r) b) a (ii p) (ii v) = some (mk (putW h a (rs r (4 + p.toNat) (clt (r (4 + p.toNat) + v)))) b) := by
  obtain ⟨k0, k1, k2, k3, k4, l1, l2, l3, l4, r9, r10, r11, r12, g1, g2, g3⟩ := ha
  have hp : p.toNat < 4 := by omega
  unfold f_X7_tire
  rw [gR_mk k0 (r11 b), gR_mk k0 (r11 b), at_mk k3 h0 (by omega) (by omega), b2_mk, putW_3 _ _ _ hp, ii_add, ii_lits.1, v_mk, ii_max (by omega) (by omega) (by omega) (by omega), v_mk]
  rw [show (999 : Int32) = ii 999 from by decide, ii_min (by omega) (by omega) (by omega) (by omega), put_mk k3 h0 (by omega) (by omega), b1_mk, uI_3 _ _ _ _ hp]
  rfl
end
