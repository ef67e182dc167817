/-! when to rest -/
def bt (s : Int32) (k : Nat) : Int32 := (s >>> (ii (k : Int) &&& 31)) &&& 1
def trd (n : Nat) (x : Int32) : Nat → Int32 → Nat → Int32
  | 0, s, _ => s
  | d + 1, s, k => trd n x d (s ||| (((x >>> (((ii (n : Int) - 1) - ii (k : Int)) &&& 31)) &&& 1) <<< (ii (k : Int) &&& 31))) (k + 1)
def tr (n row : Nat) : Int32 := trd n (ii (row : Int)) n 0 0
def ons (x : Int32) : Nat → Int32 → Nat → Int32
  | 0, s, _ => s
  | d + 1, s, k => ons x d (s + ((x >>> (ii (k : Int) &&& 31)) &&& 1)) (k + 1)
def bcn (x : Int32) : Int32 := (fun (xv1 : Int32) => (fun (xv2 : Int32) => (fun (xv3 : Int32) => (fun (xv4 : Int32) => (fun (xv5 : Int32) => xv5 &&& (63 : Int32)) (xv4 + ((xv4.toUInt32 >>> ((16 : Int32).toUInt32 &&& Int32.toUInt32 31)).toInt32))) (xv3 + ((xv3.toUInt32 >>> ((8 : Int32).toUInt32 &&& Int32.toUInt32 31)).toInt32))) ((xv2 + ((xv2.toUInt32 >>> ((4 : Int32).toUInt32 &&& Int32.toUInt32 31)).toInt32)) &&& (252645135 : Int32))) ((xv1 &&& (858993459 : Int32)) + (((xv1.toUInt32 >>> ((2 : Int32).toUInt32 &&& Int32.toUInt32 31)).toInt32) &&& (858993459 : Int32)))) (x - (((x.toUInt32 >>> ((1 : Int32).toUInt32 &&& Int32.toUInt32 31)).toInt32) &&& (1431655765 : Int32)))
theorem bcn_mk {M : ps_M} {x : Int32} : f_J6_bitCount_0f7a4 M x = some (bcn x, M) := rfl
def chk (n row : Nat) : Bool := (List.range n).all (fun k => decide (bt (tr n row) k = bt (ii (row : Int)) (n - 1 - k))) && decide (ons (tr n row) 10 0 0 = bcn (ii (row : Int)))
theorem chk_all : ∀ n ∈ List.range 11, ∀ row ∈ List.range (2 ^ n), chk n row = true := by decide +kernel
theorem chk_0 : ∀ n ∈ List.range 11, tr n 0 = 0 ∧ (1 : Int32) <<< (ii (n : Int) &&& 31) = ii ((2 ^ n : Nat) : Int) ∧ 2 ^ n ≤ 1024 := by decide +kernel
theorem bt_tr {n row k : Nat} (hn : n ≤ 10) (hr : row < 2 ^ n) (hk : k < n) : bt (tr n row) k = bt (ii (row : Int)) (n - 1 - k) := by
  have h := chk_all n (List.mem_range.mpr (by omega)) row (List.mem_range.mpr hr)
  unfold chk at h
  rw [Bool.and_eq_true, List.all_eq_true] at h
  exact of_decide_eq_true (h.1 k (List.mem_range.mpr hk))
theorem ons_tr {n row : Nat} (hn : n ≤ 10) (hr : row < 2 ^ n) : ons (tr n row) 10 0 0 = bcn (ii (row : Int)) := by
  have h := chk_all n (List.mem_range.mpr (by omega)) row (List.mem_range.mpr hr)
  unfold chk at h
  rw [Bool.and_eq_true] at h
  exact of_decide_eq_true h.2
/-! bits -/
