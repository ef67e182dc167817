/-! the text, read: the plain program -/
section
variable (t : Nat → Int) (n : Nat)
def mkk (p : Nat) : Int := if p < n then t p else -1
def ske : Nat → Nat → Nat
  | 0, p => p
  | d + 1, p => if mkk t n p = 32 then ske d (p + 1) else p
def sk (p : Nat) : Nat := ske t n 250 p
abbrev dig (p : Nat) : Prop := 48 ≤ mkk t n p ∧ mkk t n p ≤ 57
def dge : Nat → Nat → Nat
  | 0, p => p
  | d + 1, p => if dig t n p then dge d (p + 1) else p
def dgv : Nat → Nat → Nat → Int → Int
  | 0, _, _, v => v
  | d + 1, i, p, v => if dig t n p then dgv d (i + 1) (p + 1) (if 3 ≤ i then v else v * 10 + mkk t n p - 48) else v
def nE (p : Nat) : Nat := dge t n 250 (sk t n p)
def nV (p : Nat) : Int := dgv t n 250 0 (sk t n p) 0
def nK (lo hi : Int) (p : Nat) : Int := if nE t n p = sk t n p then 1 else if 3 < nE t n p - sk t n p ∨ nV t n p < lo ∨ hi < nV t n p then 2 else 0
abbrev rS : Type := Nat × Int × Int
abbrev yS : Type := Nat → Nat → Int
def mk2 (f : Int × Int) (k w : Int) : Int × Int := if f.1 = 0 ∧ k ≠ 0 then (k, w) else f
def num (lo hi : Int) (S : rS) : rS := (nE t n S.1, mk2 S.2 (nK t n lo hi S.1) (sk t n S.1))
def fin (S : rS) : rS := if mkk t n (sk t n S.1) = 59 then (sk t n S.1 + 1, S.2) else (sk t n S.1, mk2 S.2 1 (sk t n S.1))
def up (y : yS) (c k : Nat) (v : Int) : yS := fun c' k' => if c' = c ∧ k' = k then v else y c' k'
/-- after a word -/
def cS (S : rS) (y : yS) : rS × yS := (fin t n (num t n 0 9 (num t n 0 9 (num t n 1 9 S))), up (up (up (up y 0 2 (nV t n S.1)) 0 3 (nV t n (num t n 1 9 S).1)) 0 4 (nV t n (num t n 0 9 (num t n 1 9 S)).1)) 0 6 1)
def cC (S : rS) (y : yS) : rS × yS := (fin t n (num t n 0 12 S), up (up y 0 5 (nV t n S.1)) 0 7 1)
def cP (S : rS) (y : yS) : rS × yS := (fin t n (num t n 0 2 (num t n 0 9 (num t n 0 5 (num t n 0 9 (num t n 1 20 S))))), up (up (up (up (up (up y 2 (y 0 1).toNat (nV t n S.1)) 3 (y 0 1).toNat (nV t n (num t n 1 20 S).1)) 4 (y 0 1).toNat (nV t n (num t n 0 9 (num t n 1 20 S)).1)) 5 (y 0 1).toNat (nV t n (num t n 0 5 (num t n 0 9 (num t n 1 20 S))).1)) 6 (y 0 1).toNat (nV t n (num t n 0 9 (num t n 0 5 (num t n 0 9 (num t n 1 20 S)))).1)) 0 1 (y 0 1 + 1))
def cL : Nat → Nat → rS → yS → rS × yS
  | 0, _, S, y => (fin t n S, y)
  | d + 1, i, S, y => if i + 1 = 12 ∨ mkk t n (sk t n (num t n 1 9 S).1) ≠ 44 then (fin t n (sk t n (num t n 1 9 S).1, (num t n 1 9 S).2), up (up y 1 i (nV t n S.1)) 0 0 ((i + 1 : Nat) : Int)) else cL d (i + 1) (sk t n (num t n 1 9 S).1 + 1, (num t n 1 9 S).2) (up (up y 1 i (nV t n S.1)) 0 0 ((i + 1 : Nat) : Int))
def fow (y : yS) (c : Int) : Int := if c = 108 ∨ (0 < y 0 0 ∧ (c = 112 ∨ c = 115 ∨ c = 99)) then (if (c = 108 ∧ 0 < y 0 0) ∨ (c = 112 ∧ 4 ≤ y 0 1) ∨ (c = 115 ∧ y 0 6 = 1) ∨ (c = 99 ∧ y 0 7 = 1) then 3 else 0) else 1
def cl (S : rS) (y : yS) : rS × yS := if fow y (mkk t n S.1) ≠ 0 then ((S.1, mk2 S.2 (fow y (mkk t n S.1)) S.1), y) else if mkk t n S.1 = 108 then cL t n 12 0 (S.1 + 1, S.2) y else if mkk t n S.1 = 112 then cP t n (S.1 + 1, S.2) y else if mkk t n S.1 = 115 then cS t n (S.1 + 1, S.2) y else cC t n (S.1 + 1, S.2) y
def run : Nat → rS → yS → rS × yS
  | 0, S, y => (S, y)
  | d + 1, S, y => if S.2.1 = 0 then (if sk t n S.1 < n then run d (cl t n (sk t n S.1, S.2) y).1 (cl t n (sk t n S.1, S.2) y).2 else ((sk t n S.1, S.2), y)) else (S, y)
end
section
variable {t : Nat → Int} {n : Nat}
theorem mkk_i {p : Nat} (h : mkk t n p ≠ -1) : p < n := by
  unfold mkk at h
  exact Classical.byContradiction fun q => h (if_neg q)
theorem ske_b : ∀ (d p : Nat), p ≤ n → p ≤ ske t n d p ∧ ske t n d p ≤ n := by
  intro d
  induction d with
  | zero => intro p hp; exact ⟨Nat.le_refl _, hp⟩
  | succ d ih =>
    intro p hp
    unfold ske
    split
    · rename_i q
      have := mkk_i (t := t) (n := n) (p := p) (by rw [q]; decide)
      have := ih (p + 1) (by omega)
      omega
    · exact ⟨Nat.le_refl _, hp⟩
theorem ske_n : ∀ (d p : Nat), p ≤ n → n ≤ p + d → mkk t n (ske t n d p) ≠ 32 := by
  intro d
  induction d with
  | zero =>
    intro p hp hn
    show mkk t n p ≠ 32
    unfold mkk
    rw [if_neg (by omega)]
    decide
  | succ d ih =>
    intro p hp hn
    unfold ske
    by_cases q : mkk t n p = 32
    · rw [if_pos q]
      have := mkk_i (t := t) (n := n) (p := p) (by rw [q]; decide)
      exact ih (p + 1) (by omega) (by omega)
    · rw [if_neg q]
      exact q
theorem ske_id {d p : Nat} (h : mkk t n p ≠ 32) : ske t n d p = p := by
  cases d with
  | zero => rfl
  | succ d =>
    unfold ske
    rw [if_neg h]
theorem sk_b {p : Nat} (hp : p ≤ n) : p ≤ sk t n p ∧ sk t n p ≤ n := ske_b 250 p hp
theorem sk_sk {p : Nat} (hn : n ≤ 250) (hp : p ≤ n) : sk t n (sk t n p) = sk t n p := ske_id (ske_n 250 p hp (by omega))
theorem sk_n {p : Nat} (hn : n ≤ 250) (hp : p ≤ n) : mkk t n (sk t n p) ≠ 32 := ske_n 250 p hp (by omega)
theorem dig_i {p : Nat} (h : dig t n p) : p < n := mkk_i (by have := h.1; intro q; rw [q] at this; exact absurd this (by decide))
theorem dge_b : ∀ (d p : Nat), p ≤ n → p ≤ dge t n d p ∧ dge t n d p ≤ n := by
  intro d
  induction d with
  | zero => intro p hp; exact ⟨Nat.le_refl _, hp⟩
  | succ d ih =>
    intro p hp
    unfold dge
    by_cases q : dig t n p
    · rw [if_pos q]
      have := dig_i q
      have := ih (p + 1) (by omega)
      omega
    · rw [if_neg q]
      exact ⟨Nat.le_refl _, hp⟩
/-- what so many figures are worth at most -/
def wth (i : Nat) (v : Int) : Prop := 0 ≤ v ∧ v ≤ 999 ∧ (i = 0 → v = 0) ∧ (i = 1 → v ≤ 9) ∧ (i = 2 → v ≤ 99)
theorem wth_s {i p : Nat} {v : Int} (h : wth i v) (hd : dig t n p) : wth (i + 1) (if 3 ≤ i then v else v * 10 + mkk t n p - 48) := by
  obtain ⟨h1, h2, h3, h4, h5⟩ := h
  obtain ⟨d1, d2⟩ := hd
  unfold wth
  by_cases q : 3 ≤ i
  · rw [if_pos q]
    exact ⟨h1, h2, by omega, by omega, by omega⟩
  · rw [if_neg q]
    rcases (by omega : i = 0 ∨ i = 1 ∨ i = 2) with rfl | rfl | rfl
    · have := h3 rfl; omega
    · have := h4 rfl; omega
    · have := h5 rfl; omega
theorem dgv_b : ∀ (d i p : Nat) (v : Int), wth i v → 0 ≤ dgv t n d i p v ∧ dgv t n d i p v ≤ 999 := by
  intro d
  induction d with
  | zero => intro i p v h; exact ⟨h.1, h.2.1⟩
  | succ d ih =>
    intro i p v h
    unfold dgv
    by_cases q : dig t n p
    · rw [if_pos q]
      exact ih (i + 1) (p + 1) _ (wth_s h q)
    · rw [if_neg q]
      exact ⟨h.1, h.2.1⟩
theorem wth_0 : wth 0 0 := ⟨by omega, by omega, by omega, by omega, by omega⟩
theorem nV_b (p : Nat) : 0 ≤ nV t n p ∧ nV t n p ≤ 999 := dgv_b 250 0 _ 0 wth_0
theorem nE_b {p : Nat} (hp : p ≤ n) : sk t n p ≤ nE t n p ∧ nE t n p ≤ n ∧ p ≤ nE t n p := by
  have h1 := sk_b (t := t) hp
  have h2 := dge_b (t := t) 250 _ h1.2
  unfold nE
  omega
theorem nK_b {lo hi : Int} {p : Nat} : (nK t n lo hi p = 0 ∨ nK t n lo hi p = 1 ∨ nK t n lo hi p = 2) ∧ (nK t n lo hi p = 0 → lo ≤ nV t n p ∧ nV t n p ≤ hi) := by
  unfold nK
  repeat' split
  · omega
  · omega
  · rename_i q
    refine ⟨Or.inl rfl, fun _ => ?_⟩
    omega
def fok (n : Nat) (S : rS) : Prop := S.1 ≤ n ∧ 0 ≤ S.2.1 ∧ S.2.1 ≤ 3 ∧ -1 ≤ S.2.2 ∧ S.2.2 ≤ 250
theorem mk2_k {f : Int × Int} {k w : Int} : ((mk2 f k w).1 = 0 → f.1 = 0 ∧ k = 0 ∧ mk2 f k w = f) ∧ (f.1 ≠ 0 → mk2 f k w = f) ∧ (k = 0 → mk2 f k w = f) ∧ (f.1 = 0 → k ≠ 0 → mk2 f k w = (k, w)) := by
  unfold mk2
  by_cases q : f.1 = 0 ∧ k ≠ 0
  · rw [if_pos q]
    exact ⟨fun a => absurd a q.2, fun a => absurd q.1 a, fun a => absurd a q.2, fun _ _ => rfl⟩
  · rw [if_neg q]
    exact ⟨fun a => ⟨a, Classical.byContradiction fun b => q ⟨a, b⟩, rfl⟩, fun _ => rfl, fun _ => rfl, fun a b => absurd ⟨a, b⟩ q⟩
theorem mk2_f {f : Int × Int} {k w : Int} (h1 : 0 ≤ f.1 ∧ f.1 ≤ 3) (h2 : -1 ≤ f.2 ∧ f.2 ≤ 250) (hk : 0 ≤ k ∧ k ≤ 3) (hw : -1 ≤ w ∧ w ≤ 250) : 0 ≤ (mk2 f k w).1 ∧ (mk2 f k w).1 ≤ 3 ∧ -1 ≤ (mk2 f k w).2 ∧ (mk2 f k w).2 ≤ 250 := by
  unfold mk2
  split
  · exact ⟨hk.1, hk.2, hw.1, hw.2⟩
  · exact ⟨h1.1, h1.2, h2.1, h2.2⟩
theorem num_f {lo hi : Int} {S : rS} (hn : n ≤ 250) (h : fok n S) : fok n (num t n lo hi S) ∧ S.1 ≤ (num t n lo hi S).1 := by
  obtain ⟨h1, h2, h3, h4, h5⟩ := h
  have e := nE_b (t := t) h1
  have k := (nK_b (t := t) (n := n) (lo := lo) (hi := hi) (p := S.1)).1
  have s := sk_b (t := t) h1
  exact ⟨⟨e.2.1, mk2_f ⟨h2, h3⟩ ⟨h4, h5⟩ (by omega) (by omega)⟩, e.2.2⟩
theorem fin_f {S : rS} (hn : n ≤ 250) (h : fok n S) : fok n (fin t n S) ∧ S.1 ≤ (fin t n S).1 := by
  obtain ⟨h1, h2, h3, h4, h5⟩ := h
  have s := sk_b (t := t) h1
  unfold fin
  by_cases q : mkk t n (sk t n S.1) = 59
  · rw [if_pos q]
    have := mkk_i (t := t) (n := n) (p := sk t n S.1) (by rw [q]; decide)
    exact ⟨⟨this, h2, h3, h4, h5⟩, by show S.1 ≤ sk t n S.1 + 1; omega⟩
  · rw [if_neg q]
    exact ⟨⟨s.2, mk2_f ⟨h2, h3⟩ ⟨h4, h5⟩ (by omega) (by omega)⟩, s.1⟩
theorem fin_k {S : rS} (h : S.2.1 ≠ 0) : (fin t n S).2 = S.2 := by
  unfold fin
  split
  · rfl
  · exact mk2_k.2.1 h
theorem num_k {lo hi : Int} {S : rS} (h : S.2.1 ≠ 0) : (num t n lo hi S).2 = S.2 := mk2_k.2.1 h
theorem num_0 {lo hi : Int} {S : rS} (h : (num t n lo hi S).2.1 = 0) : S.2.1 = 0 ∧ (num t n lo hi S).2 = S.2 ∧ lo ≤ nV t n S.1 ∧ nV t n S.1 ≤ hi := by
  obtain ⟨a, b, c⟩ := mk2_k.1 h
  exact ⟨a, c, (nK_b.2 b)⟩
theorem fin_0 {S : rS} (h : (fin t n S).2.1 = 0) : S.2.1 = 0 ∧ (fin t n S).2 = S.2 ∧ mkk t n (sk t n S.1) = 59 ∧ (fin t n S).1 = sk t n S.1 + 1 := by
  unfold fin at h ⊢
  by_cases q : mkk t n (sk t n S.1) = 59
  · rw [if_pos q] at h
    rw [if_pos q]
    exact ⟨h, rfl, q, rfl⟩
  · rw [if_neg q] at h
    exact absurd (mk2_k.1 h).2.1 (by decide)
theorem up_s {y : yS} {c k : Nat} {v : Int} : up y c k v c k = v := if_pos ⟨rfl, rfl⟩
theorem up_o {y : yS} {c k c' k' : Nat} {v : Int} (h : ¬ (c' = c ∧ k' = k)) : up y c k v c' k' = y c' k' := if_neg h
end
