/-! the text, read by the other side: numbers -/
def Tm (t : Nat → Int) (n : Nat) (H : zM) : Prop := n ≤ 250 ∧ H 205 21 = ii n ∧ ∀ j, j < n → H 214 j = ii (t j) ∧ 0 ≤ t j ∧ t j ≤ 255
def Rm (H : zM) (S : rS) : Prop := (S.2.1 = 0 → H 205 22 = ii (S.1 : Int)) ∧ H 205 24 = ii S.2.1 ∧ H 205 25 = ii S.2.2
def mf (H H' : zM) : Prop := ∀ c k, ¬ (c = 205 ∧ 22 ≤ k ∧ k ≤ 25) → H' c k = H c k
theorem mf_tr {H H1 H2 : zM} (a : mf H H1) (c : mf H1 H2) : mf H H2 := fun i k q => (c i k q).trans (a i k q)
theorem Tm_c {t : Nat → Int} {n : Nat} {H H' : zM} (h : Tm t n H) (hc : ∀ c k, (c = 205 ∧ k = 21) ∨ c = 214 → H' c k = H c k) : Tm t n H' := ⟨h.1, by rw [hc 205 21 (by omega)]; exact h.2.1, fun j hj => by rw [hc 214 j (by omega)]; exact h.2.2 j hj⟩
theorem Tm_mf {t : Nat → Int} {n : Nat} {H H' : zM} (h : Tm t n H) (hc : mf H H') : Tm t n H' := Tm_c h (fun c k q => hc c k (by omega))
theorem Rm_k {H : zM} {S S' : rS} (h : Rm H S) (hk : S.2.1 ≠ 0) (he : S'.2 = S.2) : Rm H S' := ⟨fun a => absurd (by rw [← he]; exact a) hk, by rw [he]; exact h.2.1, by rw [he]; exact h.2.2⟩
section
variable {H : zM} {b : Bool} {t : Nat → Int} {n : Nat}
theorem mkk_m (hT : Tm t n H) (p : Nat) : -1 ≤ mkk t n p ∧ mkk t n p ≤ 255 ∧ (mkk t n p = -1 ↔ n ≤ p) := by
  unfold mkk
  by_cases q : p < n
  · rw [if_pos q]
    have := hT.2.2 p q
    omega
  · rw [if_neg q]
    omega
theorem here_b38 (hT : Tm t n H) {p : Nat} (h4 : H 205 22 = ii (p : Int)) (hp : p ≤ n) : f_X10_here_b38 (mk H b) 205 = some (ii (mkk t n p), mk H b) := by
  obtain ⟨h1, h2, h3⟩ := hT
  unfold f_X10_here_b38 f_X10_here_b62 mkk
  rw [gI_mk zk_205, h4, gI_mk zk_205, h2]
  by_cases q : p < n
  · rw [if_neg (by rw [ii_le (by omega) (by omega) (by omega) (by omega)]; omega), gR_mk zk_205 (zr_205_20 b), gI_mk zk_205, h4, aI_mk zk_214 (by omega) (by rw [zl_214]; omega) (by rw [zl_214]; omega), Int.toNat_natCast, (h3 p q).1, if_pos q]
  · rw [if_pos (by rw [ii_le (by omega) (by omega) (by omega) (by omega)]; omega), if_neg q]
    rfl
theorem here_l : ∀ (d mm p : Nat) (H : zM), d < mm → n ≤ p + d → Tm t n H → H 205 22 = ii (p : Int) → p ≤ n → f_X10_here_l0 mm (mk H b) 205 = some (ii (mkk t n (ske t n d p)), mk (ps_uI H 205 22 (ii (ske t n d p : Int))) b) := by
  intro d
  induction d with
  | zero =>
    intro mm p H hmm hnd hT h4 hp
    obtain ⟨m', rfl⟩ : ∃ m', mm = m' + 1 := ⟨mm - 1, by omega⟩
    have hn := hT.1
    show f_X10_here_w0 (f_X10_here_l0 m') (mk H b) 205 = _
    unfold f_X10_here_w0
    rw [gI_mk zk_205, h4, gI_mk zk_205, hT.2.1, if_pos (by rw [ii_le (by omega) (by omega) (by omega) (by omega)]; omega), here_b38 hT h4 hp, show ske t n 0 p = p from rfl, uI_id h4]
  | succ d ih =>
    intro mm p H hmm hnd hT h4 hp
    obtain ⟨m', rfl⟩ : ∃ m', mm = m' + 1 := ⟨mm - 1, by omega⟩
    have hn := hT.1
    have hb := mkk_m hT p
    show f_X10_here_w0 (f_X10_here_l0 m') (mk H b) 205 = _
    unfold f_X10_here_w0 ske
    rw [gI_mk zk_205, h4, gI_mk zk_205, hT.2.1]
    by_cases q : p < n
    · have e : mkk t n p = t p := by unfold mkk; rw [if_pos q]
      rw [if_neg (by rw [ii_le (by omega) (by omega) (by omega) (by omega)]; omega), gR_mk zk_205 (zr_205_20 b), gI_mk zk_205, h4, aI_mk zk_214 (by omega) (by rw [zl_214]; omega) (by rw [zl_214]; omega), Int.toNat_natCast, (hT.2.2 p q).1, ← e]
      by_cases q2 : mkk t n p = 32
      · rw [if_pos (by rw [q2]; decide), if_pos q2, gI_mk zk_205, pI_mk zk_205, h4, show (ii (p : Int) + (1 : Int32)) = ii ((p + 1 : Nat) : Int) from suc_ii p, ih m' (p + 1) _ (by omega) (by omega) (Tm_c hT (fun c k q => uI_o (by omega))) uI_s (by omega), uI_uI]
      · rw [if_neg (by rw [show (32 : Int32) = ii 32 by decide, ii_eq (by omega) (by omega) (by omega) (by omega)]; exact q2), if_neg q2, here_b38 hT h4 hp, uI_id h4]
    · rw [if_pos (by rw [ii_le (by omega) (by omega) (by omega) (by omega)]; omega), if_neg (by omega), here_b38 hT h4 hp, uI_id h4]
theorem here_m (hT : Tm t n H) {p : Nat} (h4 : H 205 22 = ii (p : Int)) (hp : p ≤ n) : f_X10_here (mk H b) 205 = some (ii (mkk t n (sk t n p)), mk (ps_uI H 205 22 (ii (sk t n p : Int))) b) := here_l 250 ps_fu p H (by unfold ps_fu; omega) (by have := hT.1; omega) hT h4 hp
theorem want_m {g k w : Int} {S : rS} (hg : g = 0 ∨ g = 1) (hk : k ≠ 0 ∧ 0 ≤ k ∧ k ≤ 3) (h24 : H 205 24 = ii S.2.1) (h25 : H 205 25 = ii S.2.2) (hf : 0 ≤ S.2.1 ∧ S.2.1 ≤ 3) : ∃ H', f_X10_want (mk H b) 205 (ii g) (ii k) (ii w) = some (ii (if S.2.1 = 0 ∧ g = 1 then 1 else 0), mk H' b) ∧ (H' 205 24 = ii (if g = 1 then S.2 else mk2 S.2 k w).1 ∧ H' 205 25 = ii (if g = 1 then S.2 else mk2 S.2 k w).2) ∧ (∀ c k, ¬ (c = 205 ∧ 24 ≤ k ∧ k ≤ 25) → H' c k = H c k) := by
  have e21 : ∀ (H : zM) (F : Int), H 205 24 = ii F → -1000 ≤ F ∧ F ≤ 2147483647 → f_X10_want_b21 (mk H b) 205 = some (ii (if F = 0 then 1 else 0), mk H b) := fun H F h hF => by
    unfold f_X10_want_b21 f_X10_want_b33
    rw [gI_mk zk_205, h, show (0 : Int32) = ii 0 by decide]
    by_cases q : F = 0
    · rw [if_pos (by rw [q]), if_pos q]; rfl
    · rw [if_neg (by rw [ii_eq (by omega) (by omega) (by omega) (by omega)]; exact q), if_neg q]; rfl
  unfold f_X10_want
  rcases hg with rfl | rfl
  · rw [if_pos (by decide), gI_mk zk_205, h24, show (0 : Int32) = ii 0 by decide, if_neg (by omega : ¬ (S.2.1 = 0 ∧ (0 : Int) = 1)), if_neg (by decide : ¬ (0 : Int) = 1)]
    by_cases q : S.2.1 = 0
    · rw [if_pos (by rw [q]), pI_mk zk_205, pI_mk zk_205]
      refine ⟨_, (e21 _ k (by rw [uI_o (by omega), uI_s]) (by omega)).trans (by rw [if_neg hk.1]), ?_, fun c i a => by rw [uI_o (by omega), uI_o (by omega)]⟩
      rw [mk2_k.2.2.2 q hk.1]
      exact ⟨by rw [uI_o (by omega), uI_s], uI_s⟩
    · rw [if_neg (by rw [ii_eq (by omega) (by omega) (by omega) (by omega)]; exact q), e21 H _ h24 (by omega), if_neg q, mk2_k.2.1 q]
      exact ⟨H, rfl, ⟨h24, h25⟩, fun _ _ _ => rfl⟩
  · rw [if_neg (by decide), e21 H _ h24 (by omega), if_pos rfl]
    refine ⟨H, ?_, ⟨h24, h25⟩, fun _ _ _ => rfl⟩
    by_cases q : S.2.1 = 0
    · rw [if_pos q, if_pos ⟨q, rfl⟩]
    · rw [if_neg q, if_neg (fun a => q a.1)]
end
