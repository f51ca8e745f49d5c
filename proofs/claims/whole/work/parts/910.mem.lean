/-! THE MEMORY of class and reference: an object by its place k behind the address n0; by wip/whole/gen_mem.py -/
abbrev mm : Type := (Nat → Nat → Int32) × (Nat → Nat → Nat) × (Nat → Nat → Int64) × (Nat → Nat → UInt64)
def ri (m : mm) (k i : Nat) : Int32 := m.1 k i
def rp (m : mm) (k i : Nat) : Nat := m.2.1 k i
def rl (m : mm) (k i : Nat) : Int64 := m.2.2.1 k i
def rd (m : mm) (k i : Nat) : UInt64 := m.2.2.2 k i
/-- the numbers of an object anew -/
def wa (m : mm) (k : Nat) (f : Nat → Int32) : mm := (fun q => if q = k then f else m.1 q, m.2.1, m.2.2.1, m.2.2.2)
def wi (m : mm) (k i : Nat) (v : Int32) : mm := wa m k (upd (ri m k) i v)
def wp (m : mm) (k i : Nat) (v : Nat) : mm := (m.1, (fun q j => if q = k ∧ j = i then v else m.2.1 q j), m.2.2.1, m.2.2.2)
/-- the references of an array anew -/
def wpa (m : mm) (k : Nat) (f : Nat → Nat) : mm := (m.1, (fun q j => if q = k then f j else m.2.1 q j), m.2.2.1, m.2.2.2)
theorem wp_wpa (m : mm) (k : Nat) (f : Nat → Nat) (i v : Nat) : wp (wpa m k f) k i v = wpa m k (fun j => if j = i then v else f j) := by
  unfold wp wpa
  congr 2
  funext q j
  dsimp only
  by_cases h1 : q = k <;> by_cases h2 : j = i <;> simp [h1, h2]
theorem wpa_id (m : mm) (k : Nat) : wpa m k (rp m k) = m := by
  obtain ⟨a, b, c⟩ := m
  unfold wpa rp
  dsimp only
  congr 2
  funext q j
  split
  · rename_i h
    rw [h]
  · rfl
theorem wpa_congr {m : mm} {k : Nat} {f g : Nat → Nat} (h : ∀ j, f j = g j) : wpa m k f = wpa m k g := by
  rw [funext h]
theorem ri_wpa (m : mm) (k : Nat) (f : Nat → Nat) : ri (wpa m k f) = ri m := rfl
theorem rp_wpa (m : mm) (k : Nat) (f : Nat → Nat) (q j : Nat) : rp (wpa m k f) q j = if q = k then f j else rp m q j := rfl
theorem rl_wpa (m : mm) (k : Nat) (f : Nat → Nat) : rl (wpa m k f) = rl m := rfl
theorem rd_wpa (m : mm) (k : Nat) (f : Nat → Nat) : rd (wpa m k f) = rd m := rfl
def wl (m : mm) (k i : Nat) (v : Int64) : mm := (m.1, m.2.1, (fun q j => if q = k ∧ j = i then v else m.2.2.1 q j), m.2.2.2)
def wd (m : mm) (k i : Nat) (v : UInt64) : mm := (m.1, m.2.1, m.2.2.1, fun q j => if q = k ∧ j = i then v else m.2.2.2 q j)
theorem ri_wa (m : mm) (k : Nat) (f : Nat → Int32) (q : Nat) : ri (wa m k f) q = if q = k then f else ri m q := by
  funext i
  unfold ri wa
  dsimp only
theorem ri_wi (m : mm) (k i : Nat) (v : Int32) (q : Nat) : ri (wi m k i v) q = if q = k then upd (ri m k) i v else ri m q := ri_wa _ _ _ _
theorem ri_wp (m : mm) (k i v q : Nat) : ri (wp m k i v) q = ri m q := rfl
theorem ri_wl (m : mm) (k i : Nat) (v : Int64) (q : Nat) : ri (wl m k i v) q = ri m q := rfl
theorem ri_wd (m : mm) (k i : Nat) (v : UInt64) (q : Nat) : ri (wd m k i v) q = ri m q := rfl
theorem rp_wa (m : mm) (k : Nat) (f : Nat → Int32) : rp (wa m k f) = rp m := rfl
theorem rp_wi (m : mm) (k i : Nat) (v : Int32) : rp (wi m k i v) = rp m := rfl
theorem rp_wp (m : mm) (k i v q j : Nat) : rp (wp m k i v) q j = if q = k ∧ j = i then v else rp m q j := rfl
theorem rp_wl (m : mm) (k i : Nat) (v : Int64) : rp (wl m k i v) = rp m := rfl
theorem rp_wd (m : mm) (k i : Nat) (v : UInt64) : rp (wd m k i v) = rp m := rfl
theorem rl_wa (m : mm) (k : Nat) (f : Nat → Int32) : rl (wa m k f) = rl m := rfl
theorem rl_wi (m : mm) (k i : Nat) (v : Int32) : rl (wi m k i v) = rl m := rfl
theorem rl_wp (m : mm) (k i v : Nat) : rl (wp m k i v) = rl m := rfl
theorem rl_wl (m : mm) (k i : Nat) (v : Int64) (q j : Nat) : rl (wl m k i v) q j = if q = k ∧ j = i then v else rl m q j := rfl
theorem rl_wd (m : mm) (k i : Nat) (v : UInt64) : rl (wd m k i v) = rl m := rfl
theorem rd_wa (m : mm) (k : Nat) (f : Nat → Int32) : rd (wa m k f) = rd m := rfl
theorem rd_wi (m : mm) (k i : Nat) (v : Int32) : rd (wi m k i v) = rd m := rfl
theorem rd_wp (m : mm) (k i v : Nat) : rd (wp m k i v) = rd m := rfl
theorem rd_wl (m : mm) (k i : Nat) (v : Int64) : rd (wl m k i v) = rd m := rfl
theorem rd_wd (m : mm) (k i : Nat) (v : UInt64) (q j : Nat) : rd (wd m k i v) q j = if q = k ∧ j = i then v else rd m q j := rfl
theorem wa_wa (m : mm) (k : Nat) (f g : Nat → Int32) : wa (wa m k f) k g = wa m k g := by
  unfold wa
  congr 1
  funext q
  dsimp only
  split <;> rfl
theorem wa_self (m : mm) (k : Nat) : wa m k (ri m k) = m := by
  unfold wa
  obtain ⟨a, b⟩ := m
  dsimp only
  congr 1
  funext q
  split
  · rename_i h
    rw [h]
    rfl
  · rfl
/-- small numbers of 32 bits -/
def ic (j : Nat) : Int32 := Int32.ofNat j
theorem ic_add (a b : Nat) : ic a + ic b = ic (a + b) := (Int32.ofNat_add a b).symm
theorem ic_mul (a b : Nat) : ic a * ic b = ic (a * b) := (Int32.ofNat_mul a b).symm
theorem ic_toInt {j : Nat} (h : j < 2147483648) : (ic j).toInt = j := Int32.toInt_ofNat_of_lt h
theorem ic_nat {j : Nat} (h : j < 2147483648) : (ic j).toNatClampNeg = j := by
  show (ic j).toInt.toNat = j
  rw [ic_toInt h]
  simp
theorem ic_lt {a b : Nat} (h1 : a < 2147483648) (h2 : b < 2147483648) : (ic a < ic b) = (a < b) := by
  rw [Int32.lt_iff_toInt_lt, ic_toInt h1, ic_toInt h2]
  simp
theorem ic_le {a b : Nat} (h1 : a < 2147483648) (h2 : b < 2147483648) : (ic a ≤ ic b) = (a ≤ b) := by
  rw [Int32.le_iff_toInt_le, ic_toInt h1, ic_toInt h2]
  simp
theorem ic_eq {a b : Nat} (h1 : a < 2147483648) (h2 : b < 2147483648) : (ic a = ic b) = (a = b) := by
  apply propext
  constructor
  · intro h
    have := congrArg Int32.toInt h
    rw [ic_toInt h1, ic_toInt h2] at this
    omega
  · intro h
    rw [h]
theorem ic_sub {a b : Nat} (h : b ≤ a) : ic a - ic b = ic (a - b) := (Int32.ofNat_sub a b h).symm
theorem ic_nn {j : Nat} (h : j < 2147483648) : ¬ ic j < 0 := by
  rw [Int32.lt_iff_toInt_lt, ic_toInt h]
  simp
theorem ic_of {x : Int32} (h : 0 ≤ x) : x = ic x.toNatClampNeg := by
  have h0 : (0 : Int) ≤ x.toInt := by simpa using Int32.le_iff_toInt_le.mp h
  apply Int32.toInt_inj.mp
  have hlt := x.toInt_lt
  rw [ic_toInt (by show x.toInt.toNat < _; omega)]
  show x.toInt = (x.toInt.toNat : Int)
  omega
theorem icL : ((0 : Int32) = ic 0) ∧ ((1 : Int32) = ic 1) ∧ ((2 : Int32) = ic 2) ∧ ((3 : Int32) = ic 3) ∧ ((4 : Int32) = ic 4) ∧ ((5 : Int32) = ic 5) ∧ ((6 : Int32) = ic 6) ∧ ((7 : Int32) = ic 7) ∧ ((8 : Int32) = ic 8) ∧ ((9 : Int32) = ic 9) ∧ ((10 : Int32) = ic 10) ∧ ((11 : Int32) = ic 11) ∧ ((12 : Int32) = ic 12) ∧ ((13 : Int32) = ic 13) ∧ ((14 : Int32) = ic 14) ∧ ((15 : Int32) = ic 15) ∧ ((16 : Int32) = ic 16) ∧ ((17 : Int32) = ic 17) ∧ ((18 : Int32) = ic 18) ∧ ((19 : Int32) = ic 19) ∧ ((20 : Int32) = ic 20) ∧ ((21 : Int32) = ic 21) ∧ ((22 : Int32) = ic 22) ∧ ((23 : Int32) = ic 23) ∧ ((24 : Int32) = ic 24) ∧ ((31 : Int32) = ic 31) ∧ ((32 : Int32) = ic 32) ∧ ((42 : Int32) = ic 42) ∧ ((48 : Int32) = ic 48) ∧ ((57 : Int32) = ic 57) ∧ ((58 : Int32) = ic 58) ∧ ((59 : Int32) = ic 59) ∧ ((60 : Int32) = ic 60) ∧ ((62 : Int32) = ic 62) ∧ ((64 : Int32) = ic 64) ∧ ((97 : Int32) = ic 97) ∧ ((98 : Int32) = ic 98) ∧ ((99 : Int32) = ic 99) ∧ ((100 : Int32) = ic 100) ∧ ((101 : Int32) = ic 101) ∧ ((140 : Int32) = ic 140) ∧ ((192 : Int32) = ic 192) ∧ ((199 : Int32) = ic 199) ∧ ((720 : Int32) = ic 720) ∧ ((1120 : Int32) = ic 1120) := ⟨rfl, rfl, rfl, rfl, rfl, rfl, rfl, rfl, rfl, rfl, rfl, rfl, rfl, rfl, rfl, rfl, rfl, rfl, rfl, rfl, rfl, rfl, rfl, rfl, rfl, rfl, rfl, rfl, rfl, rfl, rfl, rfl, rfl, rfl, rfl, rfl, rfl, rfl, rfl, rfl, rfl, rfl, rfl, rfl, rfl⟩
/-- the kind of the object at a place -/
def kS (j : Nat) : Nat := if j = 0 then 1 else if j = 1 then 2 else if j = 2 then 3 else if j = 3 then 4 else if j = 4 then 5 else if j < 17 then 6 else if j % 2 = 1 then 7 else 4
def kd (k : Nat) : Nat := if k = 0 then 0 else if k < 47 then kS ((k - 1) % 23) else if k = 47 then 8 else if k = 48 then 9 else if k < 256 then kS ((k - 49) % 23) else if k = 256 then 10 else if k = 257 then 11 else if k = 258 then 12 else if k < 263 then 5 else if k < 269 then 6 else if k = 269 then 13 else if k = 270 then 14 else if k = 271 then 15 else if k < 290 then (if k % 2 = 0 then 16 else 5) else if k = 290 then 17 else if k = 291 then 99 else if k = 292 then 18 else if k < 296 then 19 else if k = 296 then 20 else if k < 299 then 5 else if k = 299 then 21 else if k = 300 then 22 else if k = 301 then 23 else if k = 302 then 24 else if k = 303 then 25 else if k = 304 then 26 else 99
def clK (n0 : Nat) (m : mm) (k : Nat) (kind : Nat) : sC := match kind with
  | 0 => .inr (7, [.ref (n0 + 1), .ref (n0 + 24), .int (ri m k 2), .ref (n0 + 47), .ref (n0 + 256), .ref (n0 + 269), .ref (n0 + 290), .int (ri m k 7), .int (ri m k 8)])
  | 1 => .inr (6, [.ref (n0 + (k + 1)), .int (ri m k 1), .int (ri m k 2), .ref (n0 + (k + 2)), .ref (n0 + (k + 3)), .ref (n0 + (k + 4)), .int (ri m k 6), .long (rl m k 7), .long (rl m k 8)])
  | 2 => .inl (.object "RepairBarrows$Job", (12, .inr (.inr (.inr (.inr (fun i => if i < 12 then some (n0 + rp m k i) else none))))))
  | 3 => .inl (.object "RepairBarrows$Barrow", (3, .inr (.inr (.inr (.inr (fun i => if i < 3 then some (n0 + (k + (15 + 2 * i))) else none))))))
  | 4 => .inl (.int, (4, .inl (ri m k)))
  | 5 => .inl (.int, (6, .inl (ri m k)))
  | 6 => .inr (3, [.int (ri m k 0), .int (ri m k 1), .int (ri m k 2), .int (ri m k 3), .int (ri m k 4), .int (ri m k 5), .int (ri m k 6), .int (ri m k 7)])
  | 7 => .inr (0, [.int (ri m k 0), .int (ri m k 1), .int (ri m k 2), .int (ri m k 3), .ref (n0 + (k + 1))])
  | 8 => .inr (2, [.ref (n0 + 48), .int (ri m k 1), .int (ri m k 2)])
  | 9 => .inl (.object "RepairBarrows$State", (9, .inr (.inr (.inr (.inr (fun i => if i < 9 then some (n0 + (49 + 23 * i)) else none))))))
  | 10 => .inr (4, [.ref (n0 + 257), .ref (n0 + 258), .ref (n0 + 259), .ref (n0 + 260), .int (ri m k 4), .int (ri m k 5), .ref (n0 + 261), .ref (n0 + 262), .int (ri m k 8)])
  | 11 => .inl (.object "RepairBarrows$Job", (6, .inr (.inr (.inr (.inr (fun i => if i < 6 then some (n0 + rp m k i) else none))))))
  | 12 => .inl (.boolean, (6, .inl (ri m k)))
  | 13 => .inr (5, [.ref (n0 + 270), .int (ri m k 1), .int (ri m k 2), .ref (n0 + 271), .int (ri m k 4)])
  | 14 => .inl (.char, (60, .inl (ri m k)))
  | 15 => .inl (.object "RepairBarrows$Command", (9, .inr (.inr (.inr (.inr (fun i => if i < 9 then some (n0 + (272 + 2 * i)) else none))))))
  | 16 => .inr (1, [.ref (rp m k 0), .ref (n0 + (k + 1))])
  | 17 => .inr (9, [.ref (rp m k 0), .int (ri m k 1), .int (ri m k 2), .int (ri m k 3)])
  | 18 => .inr (8, [.ref (n0 + 293), .ref (n0 + 294), .ref (n0 + 295), .ref (n0 + 296), .ref (n0 + 297), .ref (n0 + 298), .int (ri m k 6), .int (ri m k 7), .int (ri m k 8), .int (ri m k 9), .int (ri m k 10), .int (ri m k 11), .int (ri m k 12), .ref (n0 + 299), .int (ri m k 14), .ref (n0 + 300), .ref (n0 + 301), .ref (n0 + 302), .int (ri m k 18), .int (ri m k 19), .int (ri m k 20), .int (ri m k 21), .int (ri m k 22)])
  | 19 => .inl (.int, (140, .inl (ri m k)))
  | 20 => .inl (.int, (1120, .inl (ri m k)))
  | 21 => .inl (.int, (100, .inl (ri m k)))
  | 22 => .inl (.int, (60, .inl (ri m k)))
  | 23 => .inl (.int, (32, .inl (ri m k)))
  | 24 => .inl (.int, (192, .inl (ri m k)))
  | 25 => .inl (.long, (1, .inr (.inl (rl m k))))
  | _ => .inl (.double, (1, .inr (.inr (.inr (.inl (rd m k))))))
def hp (n0 : Nat) (G : sH) (m : mm) : sH := fun q => if n0 ≤ q ∧ kd (q - n0) ≠ 99 then some (clK n0 m (q - n0) (kd (q - n0))) else G q
section MEM
variable {n0 : Nat} {G : sH} {m : mm} {k : Nat}
theorem hp_at {c : Nat} (h : kd k = c) (hc : c ≠ 99) : hp n0 G m (n0 + k) = some (clK n0 m k c) := by
  unfold hp
  rw [Nat.add_sub_cancel_left, h, if_pos ⟨Nat.le_add_right _ _, hc⟩]
theorem hp_set {c : Nat} {m1 : mm} {x : sC} (h : kd k = c) (hc : c ≠ 99) (h1 : clK n0 m1 k c = x) (h2 : ∀ q, q ≠ k → ∀ c, clK n0 m1 q c = clK n0 m q c) : hset (hp n0 G m) (n0 + k) x = hp n0 G m1 := by
  funext q
  unfold hset
  split
  · rename_i e
    rw [e, hp_at h hc, h1]
  · rename_i e
    unfold hp
    split
    · rename_i hq
      rw [h2 (q - n0) (fun z => e (by omega))]
    · rfl
theorem clK_ext {m1 : mm} {q : Nat} (h1 : ri m1 q = ri m q) (h2 : rp m1 q = rp m q) (h3 : rl m1 q = rl m q) (h4 : rd m1 q = rd m q) (c : Nat) : clK n0 m1 q c = clK n0 m q c := by
  unfold clK
  rw [h1, h2, h3, h4]
theorem clK_wa {f : Nat → Int32} (q : Nat) (h : q ≠ k) (c : Nat) : clK n0 (wa m k f) q c = clK n0 m q c := clK_ext ((ri_wa m k f q).trans (if_neg h)) rfl rfl rfl c
theorem clK_wi {i : Nat} {v : Int32} (q : Nat) (h : q ≠ k) (c : Nat) : clK n0 (wi m k i v) q c = clK n0 m q c := clK_wa q h c
theorem clK_wp {i v : Nat} (q : Nat) (h : q ≠ k) (c : Nat) : clK n0 (wp m k i v) q c = clK n0 m q c := clK_ext (m1 := wp m k i v) (m := m) rfl (by funext j; exact (rp_wp m k i v q j).trans (if_neg (fun (z : q = k ∧ j = i) => h z.1))) rfl rfl c
theorem clK_wl {i : Nat} {v : Int64} (q : Nat) (h : q ≠ k) (c : Nat) : clK n0 (wl m k i v) q c = clK n0 m q c := clK_ext (m1 := wl m k i v) (m := m) rfl rfl (by funext j; exact (rl_wl m k i v q j).trans (if_neg (fun (z : q = k ∧ j = i) => h z.1))) rfl c
theorem clK_wd {i : Nat} {v : UInt64} (q : Nat) (h : q ≠ k) (c : Nat) : clK n0 (wd m k i v) q c = clK n0 m q c := clK_ext (m1 := wd m k i v) (m := m) rfl rfl rfl (by funext j; exact (rd_wd m k i v q j).trans (if_neg (fun (z : q = k ∧ j = i) => h z.1))) c
theorem gf_at {c : Nat} {ci i : Nat} {fs : List Value} {v : Value} (h : kd k = c) (hc : c ≠ 99) (h1 : clK n0 m k c = .inr (ci, fs)) (h2 : fs[i]? = some v) : gf (hp n0 G m) (n0 + k) ci i = some v := by
  unfold gf
  rw [hp_at h hc, h1]
  simp [h2]
theorem isOb_at {c : Nat} {ci : Nat} {fs : List Value} (h : kd k = c) (hc : c ≠ 99) (h1 : clK n0 m k c = .inr (ci, fs)) : isOb (hp n0 G m) (n0 + k) ci = true := by
  unfold isOb
  rw [hp_at h hc, h1]
  simp
theorem pf_at {c : Nat} {ci i : Nat} {fs : List Value} {v : Value} {m1 : mm} (h : kd k = c) (hc : c ≠ 99) (h1 : clK n0 m k c = .inr (ci, fs)) (hi : i < fs.length) (h3 : clK n0 m1 k c = .inr (ci, fs.set i v)) (h2 : ∀ q, q ≠ k → ∀ c, clK n0 m1 q c = clK n0 m q c) : pf (hp n0 G m) (n0 + k) ci i v = some (hp n0 G m1) := by
  unfold pf
  rw [hp_at h hc, h1]
  simp only [hi, and_self, if_true]
  rw [hp_set h hc h3 h2]
theorem aldI_at {c n : Nat} {ty : FieldType} (h : kd k = c) (hc : c ≠ 99) (h1 : clK n0 m k c = .inl (ty, (n, .inl (ri m k)))) {j : Nat} (hj : j < n) (hn : n < 2147483648) : aldI ty (hp n0 G m) (n0 + k) (ic j) = some (.int (ri m k j)) := by
  unfold aldI
  rw [hp_at h hc, h1]
  have h9 : ¬ (ic j < 0 ∨ n ≤ j) := fun q => q.elim (ic_nn (by omega)) (by omega)
  simp only [if_true, ic_nat (show j < 2147483648 by omega), h9, if_false]
theorem astI_at {c n : Nat} {ty : FieldType} (h : kd k = c) (hc : c ≠ 99) (h1 : ∀ m, clK n0 m k c = .inl (ty, (n, .inl (ri m k)))) {j : Nat} {v : Int32} (hj : j < n) (hn : n < 2147483648) : astI ty (hp n0 G m) (n0 + k) (ic j) v = some (hp n0 G (wi m k j (sNar ty v))) := by
  unfold astI
  rw [hp_at h hc, h1]
  have h9 : ¬ (ic j < 0 ∨ n ≤ j) := fun q => q.elim (ic_nn (by omega)) (by omega)
  simp only [if_true, ic_nat (show j < 2147483648 by omega), h9, if_false]
  rw [hp_set h hc (m1 := wi m k j (sNar ty v)) (by rw [h1, ri_wi, if_pos rfl]) (fun q hq c => clK_wi q hq c)]
theorem alen_at {c n : Nat} {ty : FieldType} {x} (h : kd k = c) (hc : c ≠ 99) (h1 : clK n0 m k c = .inl (ty, (n, x))) : alen (hp n0 G m) (n0 + k) = some (ic n) := by
  unfold alen
  rw [hp_at h hc, h1]
  rfl
theorem aldR_at {c n : Nat} {C : String} {f : Nat → Option Nat} (h : kd k = c) (hc : c ≠ 99) (h1 : clK n0 m k c = .inl (.object C, (n, .inr (.inr (.inr (.inr f)))))) {j : Nat} (hj : j < n) (hn : n < 2147483648) : aldR (hp n0 G m) (n0 + k) (ic j) = some (va_rf (f j)) := by
  unfold aldR
  rw [hp_at h hc, h1]
  have h9 : ¬ (ic j < 0 ∨ n ≤ j) := fun q => q.elim (ic_nn (by omega)) (by omega)
  simp only [ic_nat (show j < 2147483648 by omega), h9, if_false]
theorem astR_at {c n cv ci i : Nat} {C : String} {q : vw_C} {v : Nat} {fs : List Value} {f : Nat → Option Nat} {m1 : mm} (h : kd k = c) (hc : c ≠ 99) (h1 : clK n0 m k c = .inl (.object C, (n, .inr (.inr (.inr (.inr f)))))) (hv : kd v = cv) (hcv : cv ≠ 99) (h2 : clK n0 m v cv = .inr (ci, fs)) (hq : gC[ci]? = some q) (hC : q.1 = C) (hj : i < n) (hn : n < 2147483648) (h3 : clK n0 m1 k c = .inl (.object C, (n, .inr (.inr (.inr (.inr (va_up f i (some (n0 + v))))))))) (h4 : ∀ q, q ≠ k → ∀ c, clK n0 m1 q c = clK n0 m q c) : astR (hp n0 G m) (n0 + k) (ic i) (n0 + v) = some (hp n0 G m1) := by
  unfold astR
  rw [hp_at h hc, h1, hp_at hv hcv, h2]
  simp only [hq]
  rw [hC]
  have h9 : ¬ (ic i < 0 ∨ n ≤ i) := fun q => q.elim (ic_nn (by omega)) (by omega)
  simp only [if_true, ic_nat (show i < 2147483648 by omega), h9, if_false]
  rw [hp_set h hc h3 h4]
theorem acpy_at {k0 c0 c n0' n : Nat} (h0 : kd k0 = c0) (hc0 : c0 ≠ 99) (h : kd k = c) (hc : c ≠ 99) (h1 : clK n0 m k0 c0 = .inl (.int, (n0', .inl (ri m k0)))) (h2 : ∀ m, clK n0 m k c = .inl (.int, (n, .inl (ri m k)))) (hne : k0 ≠ k) {sp dp j : Nat} (hs : sp + j ≤ n0') (hd : dp + j ≤ n) (h3 : n0' < 2147483648) (h4 : n < 2147483648) : acpy (hp n0 G m) (n0 + k0) (ic sp) (n0 + k) (ic dp) (ic j) = some (hp n0 G (wa m k (va_cpy (ri m k0) (ri m k) sp dp j))) := by
  unfold acpy
  rw [hp_at h0 hc0, h1, hp_at h hc, h2]
  have e1 := ic_nat (show sp < 2147483648 by omega)
  have e2 := ic_nat (show dp < 2147483648 by omega)
  have e3 := ic_nat (show j < 2147483648 by omega)
  dsimp only
  rw [if_pos]
  · rw [e1, e2, e3, hp_set h hc (m1 := wa m k (va_cpy (ri m k0) (ri m k) sp dp j)) (by rw [h2, ri_wa, if_pos rfl]) (fun q hq c => clK_wa q hq c)]
  · rw [e1, e2, e3]
    exact ⟨rfl, rfl, fun z => hne (by omega), ic_nn (by omega), ic_nn (by omega), ic_nn (by omega), hs, hd, List.all_eq_true.mpr fun i _ => rfl⟩
/-- places outside of the map -/
theorem hp_out {q : Nat} (h : ¬ (n0 ≤ q ∧ kd (q - n0) ≠ 99)) : hp n0 G m q = G q := by
  unfold hp
  rw [if_neg h]
theorem hset_out {q : Nat} {c : sC} (h : ¬ (n0 ≤ q ∧ kd (q - n0) ≠ 99)) : hset (hp n0 G m) q c = hp n0 (hset G q c) m := by
  funext z
  unfold hset hp
  split
  · rename_i e
    subst e
    rw [if_neg h]
    simp
  · rename_i e
    split
    · rfl
    · simp [e]
end MEM
theorem hG0 : (∀ (n0 : Nat) (G : sH) (m : mm), gf (hp n0 G m) n0 7 0 = some (.ref (n0 + 1))) ∧
  (∀ (n0 : Nat) (G : sH) (m : mm), gf (hp n0 G m) n0 7 1 = some (.ref (n0 + 24))) ∧
  (∀ (n0 : Nat) (G : sH) (m : mm), gf (hp n0 G m) n0 7 2 = some (.int (ri m 0 2))) ∧
  (∀ (n0 : Nat) (G : sH) (m : mm), gf (hp n0 G m) n0 7 3 = some (.ref (n0 + 47))) ∧
  (∀ (n0 : Nat) (G : sH) (m : mm), gf (hp n0 G m) n0 7 4 = some (.ref (n0 + 256))) ∧
  (∀ (n0 : Nat) (G : sH) (m : mm), gf (hp n0 G m) n0 7 5 = some (.ref (n0 + 269))) ∧
  (∀ (n0 : Nat) (G : sH) (m : mm), gf (hp n0 G m) n0 7 6 = some (.ref (n0 + 290))) ∧
  (∀ (n0 : Nat) (G : sH) (m : mm), gf (hp n0 G m) n0 7 7 = some (.int (ri m 0 7))) ∧
  (∀ (n0 : Nat) (G : sH) (m : mm), gf (hp n0 G m) n0 7 8 = some (.int (ri m 0 8))) ∧
  (∀ (n0 : Nat) (G : sH) (m : mm), isOb (hp n0 G m) n0 7 = true) ∧
  (∀ (n0 : Nat) (G : sH) (m : mm) (k : Nat) (h : kd k = 1), gf (hp n0 G m) (n0 + k) 6 0 = some (.ref (n0 + (k + 1)))) ∧
  (∀ (n0 : Nat) (G : sH) (m : mm) (k : Nat) (h : kd k = 1), gf (hp n0 G m) (n0 + k) 6 1 = some (.int (ri m k 1))) ∧
  (∀ (n0 : Nat) (G : sH) (m : mm) (k : Nat) (h : kd k = 1), gf (hp n0 G m) (n0 + k) 6 2 = some (.int (ri m k 2))) ∧
  (∀ (n0 : Nat) (G : sH) (m : mm) (k : Nat) (h : kd k = 1), gf (hp n0 G m) (n0 + k) 6 3 = some (.ref (n0 + (k + 2)))) ∧
  (∀ (n0 : Nat) (G : sH) (m : mm) (k : Nat) (h : kd k = 1), gf (hp n0 G m) (n0 + k) 6 4 = some (.ref (n0 + (k + 3)))) ∧
  (∀ (n0 : Nat) (G : sH) (m : mm) (k : Nat) (h : kd k = 1), gf (hp n0 G m) (n0 + k) 6 5 = some (.ref (n0 + (k + 4)))) ∧
  (∀ (n0 : Nat) (G : sH) (m : mm) (k : Nat) (h : kd k = 1), gf (hp n0 G m) (n0 + k) 6 6 = some (.int (ri m k 6))) ∧
  (∀ (n0 : Nat) (G : sH) (m : mm) (k : Nat) (h : kd k = 1), gf (hp n0 G m) (n0 + k) 6 7 = some (.long (rl m k 7))) ∧
  (∀ (n0 : Nat) (G : sH) (m : mm) (k : Nat) (h : kd k = 1), gf (hp n0 G m) (n0 + k) 6 8 = some (.long (rl m k 8))) ∧
  (∀ (n0 : Nat) (G : sH) (m : mm) (k : Nat) (h : kd k = 1), isOb (hp n0 G m) (n0 + k) 6 = true) ∧
  (∀ (n0 : Nat) (G : sH) (m : mm) (k : Nat) (h : kd k = 6), gf (hp n0 G m) (n0 + k) 3 0 = some (.int (ri m k 0))) ∧
  (∀ (n0 : Nat) (G : sH) (m : mm) (k : Nat) (h : kd k = 6), gf (hp n0 G m) (n0 + k) 3 1 = some (.int (ri m k 1))) ∧
  (∀ (n0 : Nat) (G : sH) (m : mm) (k : Nat) (h : kd k = 6), gf (hp n0 G m) (n0 + k) 3 2 = some (.int (ri m k 2))) ∧
  (∀ (n0 : Nat) (G : sH) (m : mm) (k : Nat) (h : kd k = 6), gf (hp n0 G m) (n0 + k) 3 3 = some (.int (ri m k 3))) ∧
  (∀ (n0 : Nat) (G : sH) (m : mm) (k : Nat) (h : kd k = 6), gf (hp n0 G m) (n0 + k) 3 4 = some (.int (ri m k 4))) ∧
  (∀ (n0 : Nat) (G : sH) (m : mm) (k : Nat) (h : kd k = 6), gf (hp n0 G m) (n0 + k) 3 5 = some (.int (ri m k 5))) ∧
  (∀ (n0 : Nat) (G : sH) (m : mm) (k : Nat) (h : kd k = 6), gf (hp n0 G m) (n0 + k) 3 6 = some (.int (ri m k 6))) ∧
  (∀ (n0 : Nat) (G : sH) (m : mm) (k : Nat) (h : kd k = 6), gf (hp n0 G m) (n0 + k) 3 7 = some (.int (ri m k 7))) ∧
  (∀ (n0 : Nat) (G : sH) (m : mm) (k : Nat) (h : kd k = 6), isOb (hp n0 G m) (n0 + k) 3 = true) ∧
  (∀ (n0 : Nat) (G : sH) (m : mm) (k : Nat) (h : kd k = 7), gf (hp n0 G m) (n0 + k) 0 0 = some (.int (ri m k 0))) ∧
  (∀ (n0 : Nat) (G : sH) (m : mm) (k : Nat) (h : kd k = 7), gf (hp n0 G m) (n0 + k) 0 1 = some (.int (ri m k 1))) ∧
  (∀ (n0 : Nat) (G : sH) (m : mm) (k : Nat) (h : kd k = 7), gf (hp n0 G m) (n0 + k) 0 2 = some (.int (ri m k 2))) ∧
  (∀ (n0 : Nat) (G : sH) (m : mm) (k : Nat) (h : kd k = 7), gf (hp n0 G m) (n0 + k) 0 3 = some (.int (ri m k 3))) ∧
  (∀ (n0 : Nat) (G : sH) (m : mm) (k : Nat) (h : kd k = 7), gf (hp n0 G m) (n0 + k) 0 4 = some (.ref (n0 + (k + 1)))) ∧
  (∀ (n0 : Nat) (G : sH) (m : mm) (k : Nat) (h : kd k = 7), isOb (hp n0 G m) (n0 + k) 0 = true) ∧
  (∀ (n0 : Nat) (G : sH) (m : mm) (k : Nat) (h : kd k = 8), gf (hp n0 G m) (n0 + k) 2 0 = some (.ref (n0 + 48))) ∧
  (∀ (n0 : Nat) (G : sH) (m : mm) (k : Nat) (h : kd k = 8), gf (hp n0 G m) (n0 + k) 2 1 = some (.int (ri m k 1))) ∧
  (∀ (n0 : Nat) (G : sH) (m : mm) (k : Nat) (h : kd k = 8), gf (hp n0 G m) (n0 + k) 2 2 = some (.int (ri m k 2))) ∧
  (∀ (n0 : Nat) (G : sH) (m : mm) (k : Nat) (h : kd k = 8), isOb (hp n0 G m) (n0 + k) 2 = true) ∧
  (∀ (n0 : Nat) (G : sH) (m : mm) (k : Nat) (h : kd k = 10), gf (hp n0 G m) (n0 + k) 4 0 = some (.ref (n0 + 257))) := ⟨fun n0 _ _ => gf_at (k := 0) (c := 0) rfl (by decide) rfl rfl,
  fun n0 _ _ => gf_at (k := 0) (c := 0) rfl (by decide) rfl rfl,
  fun n0 _ _ => gf_at (k := 0) (c := 0) rfl (by decide) rfl rfl,
  fun n0 _ _ => gf_at (k := 0) (c := 0) rfl (by decide) rfl rfl,
  fun n0 _ _ => gf_at (k := 0) (c := 0) rfl (by decide) rfl rfl,
  fun n0 _ _ => gf_at (k := 0) (c := 0) rfl (by decide) rfl rfl,
  fun n0 _ _ => gf_at (k := 0) (c := 0) rfl (by decide) rfl rfl,
  fun n0 _ _ => gf_at (k := 0) (c := 0) rfl (by decide) rfl rfl,
  fun n0 _ _ => gf_at (k := 0) (c := 0) rfl (by decide) rfl rfl,
  fun n0 _ _ => isOb_at (k := 0) (c := 0) rfl (by decide) rfl,
  fun _ _ _ _ h => gf_at h (by decide) rfl rfl,
  fun _ _ _ _ h => gf_at h (by decide) rfl rfl,
  fun _ _ _ _ h => gf_at h (by decide) rfl rfl,
  fun _ _ _ _ h => gf_at h (by decide) rfl rfl,
  fun _ _ _ _ h => gf_at h (by decide) rfl rfl,
  fun _ _ _ _ h => gf_at h (by decide) rfl rfl,
  fun _ _ _ _ h => gf_at h (by decide) rfl rfl,
  fun _ _ _ _ h => gf_at h (by decide) rfl rfl,
  fun _ _ _ _ h => gf_at h (by decide) rfl rfl,
  fun _ _ _ _ h => isOb_at h (by decide) rfl,
  fun _ _ _ _ h => gf_at h (by decide) rfl rfl,
  fun _ _ _ _ h => gf_at h (by decide) rfl rfl,
  fun _ _ _ _ h => gf_at h (by decide) rfl rfl,
  fun _ _ _ _ h => gf_at h (by decide) rfl rfl,
  fun _ _ _ _ h => gf_at h (by decide) rfl rfl,
  fun _ _ _ _ h => gf_at h (by decide) rfl rfl,
  fun _ _ _ _ h => gf_at h (by decide) rfl rfl,
  fun _ _ _ _ h => gf_at h (by decide) rfl rfl,
  fun _ _ _ _ h => isOb_at h (by decide) rfl,
  fun _ _ _ _ h => gf_at h (by decide) rfl rfl,
  fun _ _ _ _ h => gf_at h (by decide) rfl rfl,
  fun _ _ _ _ h => gf_at h (by decide) rfl rfl,
  fun _ _ _ _ h => gf_at h (by decide) rfl rfl,
  fun _ _ _ _ h => gf_at h (by decide) rfl rfl,
  fun _ _ _ _ h => isOb_at h (by decide) rfl,
  fun _ _ _ _ h => gf_at h (by decide) rfl rfl,
  fun _ _ _ _ h => gf_at h (by decide) rfl rfl,
  fun _ _ _ _ h => gf_at h (by decide) rfl rfl,
  fun _ _ _ _ h => isOb_at h (by decide) rfl,
  fun _ _ _ _ h => gf_at h (by decide) rfl rfl⟩
theorem hG1 : (∀ (n0 : Nat) (G : sH) (m : mm) (k : Nat) (h : kd k = 10), gf (hp n0 G m) (n0 + k) 4 1 = some (.ref (n0 + 258))) ∧
  (∀ (n0 : Nat) (G : sH) (m : mm) (k : Nat) (h : kd k = 10), gf (hp n0 G m) (n0 + k) 4 2 = some (.ref (n0 + 259))) ∧
  (∀ (n0 : Nat) (G : sH) (m : mm) (k : Nat) (h : kd k = 10), gf (hp n0 G m) (n0 + k) 4 3 = some (.ref (n0 + 260))) ∧
  (∀ (n0 : Nat) (G : sH) (m : mm) (k : Nat) (h : kd k = 10), gf (hp n0 G m) (n0 + k) 4 4 = some (.int (ri m k 4))) ∧
  (∀ (n0 : Nat) (G : sH) (m : mm) (k : Nat) (h : kd k = 10), gf (hp n0 G m) (n0 + k) 4 5 = some (.int (ri m k 5))) ∧
  (∀ (n0 : Nat) (G : sH) (m : mm) (k : Nat) (h : kd k = 10), gf (hp n0 G m) (n0 + k) 4 6 = some (.ref (n0 + 261))) ∧
  (∀ (n0 : Nat) (G : sH) (m : mm) (k : Nat) (h : kd k = 10), gf (hp n0 G m) (n0 + k) 4 7 = some (.ref (n0 + 262))) ∧
  (∀ (n0 : Nat) (G : sH) (m : mm) (k : Nat) (h : kd k = 10), gf (hp n0 G m) (n0 + k) 4 8 = some (.int (ri m k 8))) ∧
  (∀ (n0 : Nat) (G : sH) (m : mm) (k : Nat) (h : kd k = 10), isOb (hp n0 G m) (n0 + k) 4 = true) ∧
  (∀ (n0 : Nat) (G : sH) (m : mm) (k : Nat) (h : kd k = 13), gf (hp n0 G m) (n0 + k) 5 0 = some (.ref (n0 + 270))) ∧
  (∀ (n0 : Nat) (G : sH) (m : mm) (k : Nat) (h : kd k = 13), gf (hp n0 G m) (n0 + k) 5 1 = some (.int (ri m k 1))) ∧
  (∀ (n0 : Nat) (G : sH) (m : mm) (k : Nat) (h : kd k = 13), gf (hp n0 G m) (n0 + k) 5 2 = some (.int (ri m k 2))) ∧
  (∀ (n0 : Nat) (G : sH) (m : mm) (k : Nat) (h : kd k = 13), gf (hp n0 G m) (n0 + k) 5 3 = some (.ref (n0 + 271))) ∧
  (∀ (n0 : Nat) (G : sH) (m : mm) (k : Nat) (h : kd k = 13), gf (hp n0 G m) (n0 + k) 5 4 = some (.int (ri m k 4))) ∧
  (∀ (n0 : Nat) (G : sH) (m : mm) (k : Nat) (h : kd k = 13), isOb (hp n0 G m) (n0 + k) 5 = true) ∧
  (∀ (n0 : Nat) (G : sH) (m : mm) (k : Nat) (h : kd k = 16), gf (hp n0 G m) (n0 + k) 1 0 = some (.ref (rp m k 0))) ∧
  (∀ (n0 : Nat) (G : sH) (m : mm) (k : Nat) (h : kd k = 16), gf (hp n0 G m) (n0 + k) 1 1 = some (.ref (n0 + (k + 1)))) ∧
  (∀ (n0 : Nat) (G : sH) (m : mm) (k : Nat) (h : kd k = 16), isOb (hp n0 G m) (n0 + k) 1 = true) ∧
  (∀ (n0 : Nat) (G : sH) (m : mm) (k : Nat) (h : kd k = 17), gf (hp n0 G m) (n0 + k) 9 0 = some (.ref (rp m k 0))) ∧
  (∀ (n0 : Nat) (G : sH) (m : mm) (k : Nat) (h : kd k = 17), gf (hp n0 G m) (n0 + k) 9 1 = some (.int (ri m k 1))) ∧
  (∀ (n0 : Nat) (G : sH) (m : mm) (k : Nat) (h : kd k = 17), gf (hp n0 G m) (n0 + k) 9 2 = some (.int (ri m k 2))) ∧
  (∀ (n0 : Nat) (G : sH) (m : mm) (k : Nat) (h : kd k = 17), gf (hp n0 G m) (n0 + k) 9 3 = some (.int (ri m k 3))) ∧
  (∀ (n0 : Nat) (G : sH) (m : mm) (k : Nat) (h : kd k = 17), isOb (hp n0 G m) (n0 + k) 9 = true) ∧
  (∀ (n0 : Nat) (G : sH) (m : mm) (k : Nat) (h : kd k = 18), gf (hp n0 G m) (n0 + k) 8 0 = some (.ref (n0 + 293))) ∧
  (∀ (n0 : Nat) (G : sH) (m : mm) (k : Nat) (h : kd k = 18), gf (hp n0 G m) (n0 + k) 8 1 = some (.ref (n0 + 294))) ∧
  (∀ (n0 : Nat) (G : sH) (m : mm) (k : Nat) (h : kd k = 18), gf (hp n0 G m) (n0 + k) 8 2 = some (.ref (n0 + 295))) ∧
  (∀ (n0 : Nat) (G : sH) (m : mm) (k : Nat) (h : kd k = 18), gf (hp n0 G m) (n0 + k) 8 3 = some (.ref (n0 + 296))) ∧
  (∀ (n0 : Nat) (G : sH) (m : mm) (k : Nat) (h : kd k = 18), gf (hp n0 G m) (n0 + k) 8 4 = some (.ref (n0 + 297))) ∧
  (∀ (n0 : Nat) (G : sH) (m : mm) (k : Nat) (h : kd k = 18), gf (hp n0 G m) (n0 + k) 8 5 = some (.ref (n0 + 298))) ∧
  (∀ (n0 : Nat) (G : sH) (m : mm) (k : Nat) (h : kd k = 18), gf (hp n0 G m) (n0 + k) 8 6 = some (.int (ri m k 6))) ∧
  (∀ (n0 : Nat) (G : sH) (m : mm) (k : Nat) (h : kd k = 18), gf (hp n0 G m) (n0 + k) 8 7 = some (.int (ri m k 7))) ∧
  (∀ (n0 : Nat) (G : sH) (m : mm) (k : Nat) (h : kd k = 18), gf (hp n0 G m) (n0 + k) 8 8 = some (.int (ri m k 8))) ∧
  (∀ (n0 : Nat) (G : sH) (m : mm) (k : Nat) (h : kd k = 18), gf (hp n0 G m) (n0 + k) 8 9 = some (.int (ri m k 9))) ∧
  (∀ (n0 : Nat) (G : sH) (m : mm) (k : Nat) (h : kd k = 18), gf (hp n0 G m) (n0 + k) 8 10 = some (.int (ri m k 10))) ∧
  (∀ (n0 : Nat) (G : sH) (m : mm) (k : Nat) (h : kd k = 18), gf (hp n0 G m) (n0 + k) 8 11 = some (.int (ri m k 11))) ∧
  (∀ (n0 : Nat) (G : sH) (m : mm) (k : Nat) (h : kd k = 18), gf (hp n0 G m) (n0 + k) 8 12 = some (.int (ri m k 12))) ∧
  (∀ (n0 : Nat) (G : sH) (m : mm) (k : Nat) (h : kd k = 18), gf (hp n0 G m) (n0 + k) 8 13 = some (.ref (n0 + 299))) ∧
  (∀ (n0 : Nat) (G : sH) (m : mm) (k : Nat) (h : kd k = 18), gf (hp n0 G m) (n0 + k) 8 14 = some (.int (ri m k 14))) ∧
  (∀ (n0 : Nat) (G : sH) (m : mm) (k : Nat) (h : kd k = 18), gf (hp n0 G m) (n0 + k) 8 15 = some (.ref (n0 + 300))) ∧
  (∀ (n0 : Nat) (G : sH) (m : mm) (k : Nat) (h : kd k = 18), gf (hp n0 G m) (n0 + k) 8 16 = some (.ref (n0 + 301))) := ⟨fun _ _ _ _ h => gf_at h (by decide) rfl rfl,
  fun _ _ _ _ h => gf_at h (by decide) rfl rfl,
  fun _ _ _ _ h => gf_at h (by decide) rfl rfl,
  fun _ _ _ _ h => gf_at h (by decide) rfl rfl,
  fun _ _ _ _ h => gf_at h (by decide) rfl rfl,
  fun _ _ _ _ h => gf_at h (by decide) rfl rfl,
  fun _ _ _ _ h => gf_at h (by decide) rfl rfl,
  fun _ _ _ _ h => gf_at h (by decide) rfl rfl,
  fun _ _ _ _ h => isOb_at h (by decide) rfl,
  fun _ _ _ _ h => gf_at h (by decide) rfl rfl,
  fun _ _ _ _ h => gf_at h (by decide) rfl rfl,
  fun _ _ _ _ h => gf_at h (by decide) rfl rfl,
  fun _ _ _ _ h => gf_at h (by decide) rfl rfl,
  fun _ _ _ _ h => gf_at h (by decide) rfl rfl,
  fun _ _ _ _ h => isOb_at h (by decide) rfl,
  fun _ _ _ _ h => gf_at h (by decide) rfl rfl,
  fun _ _ _ _ h => gf_at h (by decide) rfl rfl,
  fun _ _ _ _ h => isOb_at h (by decide) rfl,
  fun _ _ _ _ h => gf_at h (by decide) rfl rfl,
  fun _ _ _ _ h => gf_at h (by decide) rfl rfl,
  fun _ _ _ _ h => gf_at h (by decide) rfl rfl,
  fun _ _ _ _ h => gf_at h (by decide) rfl rfl,
  fun _ _ _ _ h => isOb_at h (by decide) rfl,
  fun _ _ _ _ h => gf_at h (by decide) rfl rfl,
  fun _ _ _ _ h => gf_at h (by decide) rfl rfl,
  fun _ _ _ _ h => gf_at h (by decide) rfl rfl,
  fun _ _ _ _ h => gf_at h (by decide) rfl rfl,
  fun _ _ _ _ h => gf_at h (by decide) rfl rfl,
  fun _ _ _ _ h => gf_at h (by decide) rfl rfl,
  fun _ _ _ _ h => gf_at h (by decide) rfl rfl,
  fun _ _ _ _ h => gf_at h (by decide) rfl rfl,
  fun _ _ _ _ h => gf_at h (by decide) rfl rfl,
  fun _ _ _ _ h => gf_at h (by decide) rfl rfl,
  fun _ _ _ _ h => gf_at h (by decide) rfl rfl,
  fun _ _ _ _ h => gf_at h (by decide) rfl rfl,
  fun _ _ _ _ h => gf_at h (by decide) rfl rfl,
  fun _ _ _ _ h => gf_at h (by decide) rfl rfl,
  fun _ _ _ _ h => gf_at h (by decide) rfl rfl,
  fun _ _ _ _ h => gf_at h (by decide) rfl rfl,
  fun _ _ _ _ h => gf_at h (by decide) rfl rfl⟩
theorem hG2 : (∀ (n0 : Nat) (G : sH) (m : mm) (k : Nat) (h : kd k = 18), gf (hp n0 G m) (n0 + k) 8 17 = some (.ref (n0 + 302))) ∧
  (∀ (n0 : Nat) (G : sH) (m : mm) (k : Nat) (h : kd k = 18), gf (hp n0 G m) (n0 + k) 8 18 = some (.int (ri m k 18))) ∧
  (∀ (n0 : Nat) (G : sH) (m : mm) (k : Nat) (h : kd k = 18), gf (hp n0 G m) (n0 + k) 8 19 = some (.int (ri m k 19))) ∧
  (∀ (n0 : Nat) (G : sH) (m : mm) (k : Nat) (h : kd k = 18), gf (hp n0 G m) (n0 + k) 8 20 = some (.int (ri m k 20))) ∧
  (∀ (n0 : Nat) (G : sH) (m : mm) (k : Nat) (h : kd k = 18), gf (hp n0 G m) (n0 + k) 8 21 = some (.int (ri m k 21))) ∧
  (∀ (n0 : Nat) (G : sH) (m : mm) (k : Nat) (h : kd k = 18), gf (hp n0 G m) (n0 + k) 8 22 = some (.int (ri m k 22))) ∧
  (∀ (n0 : Nat) (G : sH) (m : mm) (k : Nat) (h : kd k = 18), isOb (hp n0 G m) (n0 + k) 8 = true) := ⟨fun _ _ _ _ h => gf_at h (by decide) rfl rfl,
  fun _ _ _ _ h => gf_at h (by decide) rfl rfl,
  fun _ _ _ _ h => gf_at h (by decide) rfl rfl,
  fun _ _ _ _ h => gf_at h (by decide) rfl rfl,
  fun _ _ _ _ h => gf_at h (by decide) rfl rfl,
  fun _ _ _ _ h => gf_at h (by decide) rfl rfl,
  fun _ _ _ _ h => isOb_at h (by decide) rfl⟩
theorem hF0 : (∀ (n0 : Nat) (G : sH) (m : mm) (v : Int32), pf (hp n0 G m) n0 7 2 (.int v) = some (hp n0 G (wi m 0 2 v))) ∧
  (∀ (n0 : Nat) (G : sH) (m : mm) (v : Int32), pf (hp n0 G m) n0 7 7 (.int v) = some (hp n0 G (wi m 0 7 v))) ∧
  (∀ (n0 : Nat) (G : sH) (m : mm) (v : Int32), pf (hp n0 G m) n0 7 8 (.int v) = some (hp n0 G (wi m 0 8 v))) ∧
  (∀ (n0 : Nat) (G : sH) (m : mm) (k : Nat) (v : Int32) (h : kd k = 1), pf (hp n0 G m) (n0 + k) 6 1 (.int v) = some (hp n0 G (wi m k 1 v))) ∧
  (∀ (n0 : Nat) (G : sH) (m : mm) (k : Nat) (v : Int32) (h : kd k = 1), pf (hp n0 G m) (n0 + k) 6 2 (.int v) = some (hp n0 G (wi m k 2 v))) ∧
  (∀ (n0 : Nat) (G : sH) (m : mm) (k : Nat) (v : Int32) (h : kd k = 1), pf (hp n0 G m) (n0 + k) 6 6 (.int v) = some (hp n0 G (wi m k 6 v))) ∧
  (∀ (n0 : Nat) (G : sH) (m : mm) (k : Nat) (v : Int64) (h : kd k = 1), pf (hp n0 G m) (n0 + k) 6 7 (.long v) = some (hp n0 G (wl m k 7 v))) ∧
  (∀ (n0 : Nat) (G : sH) (m : mm) (k : Nat) (v : Int64) (h : kd k = 1), pf (hp n0 G m) (n0 + k) 6 8 (.long v) = some (hp n0 G (wl m k 8 v))) ∧
  (∀ (n0 : Nat) (G : sH) (m : mm) (k : Nat) (v : Int32) (h : kd k = 6), pf (hp n0 G m) (n0 + k) 3 0 (.int v) = some (hp n0 G (wi m k 0 v))) ∧
  (∀ (n0 : Nat) (G : sH) (m : mm) (k : Nat) (v : Int32) (h : kd k = 6), pf (hp n0 G m) (n0 + k) 3 1 (.int v) = some (hp n0 G (wi m k 1 v))) ∧
  (∀ (n0 : Nat) (G : sH) (m : mm) (k : Nat) (v : Int32) (h : kd k = 6), pf (hp n0 G m) (n0 + k) 3 2 (.int v) = some (hp n0 G (wi m k 2 v))) ∧
  (∀ (n0 : Nat) (G : sH) (m : mm) (k : Nat) (v : Int32) (h : kd k = 6), pf (hp n0 G m) (n0 + k) 3 3 (.int v) = some (hp n0 G (wi m k 3 v))) ∧
  (∀ (n0 : Nat) (G : sH) (m : mm) (k : Nat) (v : Int32) (h : kd k = 6), pf (hp n0 G m) (n0 + k) 3 4 (.int v) = some (hp n0 G (wi m k 4 v))) ∧
  (∀ (n0 : Nat) (G : sH) (m : mm) (k : Nat) (v : Int32) (h : kd k = 6), pf (hp n0 G m) (n0 + k) 3 5 (.int v) = some (hp n0 G (wi m k 5 v))) ∧
  (∀ (n0 : Nat) (G : sH) (m : mm) (k : Nat) (v : Int32) (h : kd k = 6), pf (hp n0 G m) (n0 + k) 3 6 (.int v) = some (hp n0 G (wi m k 6 v))) ∧
  (∀ (n0 : Nat) (G : sH) (m : mm) (k : Nat) (v : Int32) (h : kd k = 6), pf (hp n0 G m) (n0 + k) 3 7 (.int v) = some (hp n0 G (wi m k 7 v))) ∧
  (∀ (n0 : Nat) (G : sH) (m : mm) (k : Nat) (v : Int32) (h : kd k = 7), pf (hp n0 G m) (n0 + k) 0 0 (.int v) = some (hp n0 G (wi m k 0 v))) ∧
  (∀ (n0 : Nat) (G : sH) (m : mm) (k : Nat) (v : Int32) (h : kd k = 7), pf (hp n0 G m) (n0 + k) 0 1 (.int v) = some (hp n0 G (wi m k 1 v))) ∧
  (∀ (n0 : Nat) (G : sH) (m : mm) (k : Nat) (v : Int32) (h : kd k = 7), pf (hp n0 G m) (n0 + k) 0 2 (.int v) = some (hp n0 G (wi m k 2 v))) ∧
  (∀ (n0 : Nat) (G : sH) (m : mm) (k : Nat) (v : Int32) (h : kd k = 7), pf (hp n0 G m) (n0 + k) 0 3 (.int v) = some (hp n0 G (wi m k 3 v))) ∧
  (∀ (n0 : Nat) (G : sH) (m : mm) (k : Nat) (v : Int32) (h : kd k = 8), pf (hp n0 G m) (n0 + k) 2 1 (.int v) = some (hp n0 G (wi m k 1 v))) ∧
  (∀ (n0 : Nat) (G : sH) (m : mm) (k : Nat) (v : Int32) (h : kd k = 8), pf (hp n0 G m) (n0 + k) 2 2 (.int v) = some (hp n0 G (wi m k 2 v))) ∧
  (∀ (n0 : Nat) (G : sH) (m : mm) (k : Nat) (v : Int32) (h : kd k = 10), pf (hp n0 G m) (n0 + k) 4 4 (.int v) = some (hp n0 G (wi m k 4 v))) ∧
  (∀ (n0 : Nat) (G : sH) (m : mm) (k : Nat) (v : Int32) (h : kd k = 10), pf (hp n0 G m) (n0 + k) 4 5 (.int v) = some (hp n0 G (wi m k 5 v))) ∧
  (∀ (n0 : Nat) (G : sH) (m : mm) (k : Nat) (v : Int32) (h : kd k = 10), pf (hp n0 G m) (n0 + k) 4 8 (.int v) = some (hp n0 G (wi m k 8 v))) ∧
  (∀ (n0 : Nat) (G : sH) (m : mm) (k : Nat) (v : Int32) (h : kd k = 13), pf (hp n0 G m) (n0 + k) 5 1 (.int v) = some (hp n0 G (wi m k 1 v))) ∧
  (∀ (n0 : Nat) (G : sH) (m : mm) (k : Nat) (v : Int32) (h : kd k = 13), pf (hp n0 G m) (n0 + k) 5 2 (.int v) = some (hp n0 G (wi m k 2 v))) ∧
  (∀ (n0 : Nat) (G : sH) (m : mm) (k : Nat) (v : Int32) (h : kd k = 13), pf (hp n0 G m) (n0 + k) 5 4 (.int v) = some (hp n0 G (wi m k 4 v))) ∧
  (∀ (n0 : Nat) (G : sH) (m : mm) (k : Nat) (v : Nat) (h : kd k = 16), pf (hp n0 G m) (n0 + k) 1 0 (.ref v) = some (hp n0 G (wp m k 0 v))) ∧
  (∀ (n0 : Nat) (G : sH) (m : mm) (k : Nat) (v : Nat) (h : kd k = 17), pf (hp n0 G m) (n0 + k) 9 0 (.ref v) = some (hp n0 G (wp m k 0 v))) ∧
  (∀ (n0 : Nat) (G : sH) (m : mm) (k : Nat) (v : Int32) (h : kd k = 17), pf (hp n0 G m) (n0 + k) 9 1 (.int v) = some (hp n0 G (wi m k 1 v))) ∧
  (∀ (n0 : Nat) (G : sH) (m : mm) (k : Nat) (v : Int32) (h : kd k = 17), pf (hp n0 G m) (n0 + k) 9 2 (.int v) = some (hp n0 G (wi m k 2 v))) ∧
  (∀ (n0 : Nat) (G : sH) (m : mm) (k : Nat) (v : Int32) (h : kd k = 17), pf (hp n0 G m) (n0 + k) 9 3 (.int v) = some (hp n0 G (wi m k 3 v))) ∧
  (∀ (n0 : Nat) (G : sH) (m : mm) (k : Nat) (v : Int32) (h : kd k = 18), pf (hp n0 G m) (n0 + k) 8 6 (.int v) = some (hp n0 G (wi m k 6 v))) ∧
  (∀ (n0 : Nat) (G : sH) (m : mm) (k : Nat) (v : Int32) (h : kd k = 18), pf (hp n0 G m) (n0 + k) 8 7 (.int v) = some (hp n0 G (wi m k 7 v))) ∧
  (∀ (n0 : Nat) (G : sH) (m : mm) (k : Nat) (v : Int32) (h : kd k = 18), pf (hp n0 G m) (n0 + k) 8 8 (.int v) = some (hp n0 G (wi m k 8 v))) ∧
  (∀ (n0 : Nat) (G : sH) (m : mm) (k : Nat) (v : Int32) (h : kd k = 18), pf (hp n0 G m) (n0 + k) 8 9 (.int v) = some (hp n0 G (wi m k 9 v))) ∧
  (∀ (n0 : Nat) (G : sH) (m : mm) (k : Nat) (v : Int32) (h : kd k = 18), pf (hp n0 G m) (n0 + k) 8 10 (.int v) = some (hp n0 G (wi m k 10 v))) ∧
  (∀ (n0 : Nat) (G : sH) (m : mm) (k : Nat) (v : Int32) (h : kd k = 18), pf (hp n0 G m) (n0 + k) 8 11 (.int v) = some (hp n0 G (wi m k 11 v))) ∧
  (∀ (n0 : Nat) (G : sH) (m : mm) (k : Nat) (v : Int32) (h : kd k = 18), pf (hp n0 G m) (n0 + k) 8 12 (.int v) = some (hp n0 G (wi m k 12 v))) := ⟨fun n0 _ _ _ => pf_at (k := 0) (c := 0) rfl (by decide) rfl (Nat.le_of_ble_eq_true rfl) (by simp [clK, ri_wi, rp_wi, rl_wi, rd_wi, upd]) (fun q hq c => clK_wi q hq c),
  fun n0 _ _ _ => pf_at (k := 0) (c := 0) rfl (by decide) rfl (Nat.le_of_ble_eq_true rfl) (by simp [clK, ri_wi, rp_wi, rl_wi, rd_wi, upd]) (fun q hq c => clK_wi q hq c),
  fun n0 _ _ _ => pf_at (k := 0) (c := 0) rfl (by decide) rfl (Nat.le_of_ble_eq_true rfl) (by simp [clK, ri_wi, rp_wi, rl_wi, rd_wi, upd]) (fun q hq c => clK_wi q hq c),
  fun _ _ _ _ _ h => pf_at h (by decide) rfl (Nat.lt_of_lt_of_eq (by decide : 1 < 9) rfl) (by simp [clK, ri_wi, rp_wi, rl_wi, rd_wi, upd]) (fun q hq c => clK_wi q hq c),
  fun _ _ _ _ _ h => pf_at h (by decide) rfl (Nat.lt_of_lt_of_eq (by decide : 2 < 9) rfl) (by simp [clK, ri_wi, rp_wi, rl_wi, rd_wi, upd]) (fun q hq c => clK_wi q hq c),
  fun _ _ _ _ _ h => pf_at h (by decide) rfl (Nat.lt_of_lt_of_eq (by decide : 6 < 9) rfl) (by simp [clK, ri_wi, rp_wi, rl_wi, rd_wi, upd]) (fun q hq c => clK_wi q hq c),
  fun _ _ _ _ _ h => pf_at h (by decide) rfl (Nat.lt_of_lt_of_eq (by decide : 7 < 9) rfl) (by simp [clK, ri_wl, rp_wl, rl_wl, rd_wl, upd]) (fun q hq c => clK_wl q hq c),
  fun _ _ _ _ _ h => pf_at h (by decide) rfl (Nat.lt_of_lt_of_eq (by decide : 8 < 9) rfl) (by simp [clK, ri_wl, rp_wl, rl_wl, rd_wl, upd]) (fun q hq c => clK_wl q hq c),
  fun _ _ _ _ _ h => pf_at h (by decide) rfl (Nat.lt_of_lt_of_eq (by decide : 0 < 8) rfl) (by simp [clK, ri_wi, rp_wi, rl_wi, rd_wi, upd]) (fun q hq c => clK_wi q hq c),
  fun _ _ _ _ _ h => pf_at h (by decide) rfl (Nat.lt_of_lt_of_eq (by decide : 1 < 8) rfl) (by simp [clK, ri_wi, rp_wi, rl_wi, rd_wi, upd]) (fun q hq c => clK_wi q hq c),
  fun _ _ _ _ _ h => pf_at h (by decide) rfl (Nat.lt_of_lt_of_eq (by decide : 2 < 8) rfl) (by simp [clK, ri_wi, rp_wi, rl_wi, rd_wi, upd]) (fun q hq c => clK_wi q hq c),
  fun _ _ _ _ _ h => pf_at h (by decide) rfl (Nat.lt_of_lt_of_eq (by decide : 3 < 8) rfl) (by simp [clK, ri_wi, rp_wi, rl_wi, rd_wi, upd]) (fun q hq c => clK_wi q hq c),
  fun _ _ _ _ _ h => pf_at h (by decide) rfl (Nat.lt_of_lt_of_eq (by decide : 4 < 8) rfl) (by simp [clK, ri_wi, rp_wi, rl_wi, rd_wi, upd]) (fun q hq c => clK_wi q hq c),
  fun _ _ _ _ _ h => pf_at h (by decide) rfl (Nat.lt_of_lt_of_eq (by decide : 5 < 8) rfl) (by simp [clK, ri_wi, rp_wi, rl_wi, rd_wi, upd]) (fun q hq c => clK_wi q hq c),
  fun _ _ _ _ _ h => pf_at h (by decide) rfl (Nat.lt_of_lt_of_eq (by decide : 6 < 8) rfl) (by simp [clK, ri_wi, rp_wi, rl_wi, rd_wi, upd]) (fun q hq c => clK_wi q hq c),
  fun _ _ _ _ _ h => pf_at h (by decide) rfl (Nat.lt_of_lt_of_eq (by decide : 7 < 8) rfl) (by simp [clK, ri_wi, rp_wi, rl_wi, rd_wi, upd]) (fun q hq c => clK_wi q hq c),
  fun _ _ _ _ _ h => pf_at h (by decide) rfl (Nat.lt_of_lt_of_eq (by decide : 0 < 5) rfl) (by simp [clK, ri_wi, rp_wi, rl_wi, rd_wi, upd]) (fun q hq c => clK_wi q hq c),
  fun _ _ _ _ _ h => pf_at h (by decide) rfl (Nat.lt_of_lt_of_eq (by decide : 1 < 5) rfl) (by simp [clK, ri_wi, rp_wi, rl_wi, rd_wi, upd]) (fun q hq c => clK_wi q hq c),
  fun _ _ _ _ _ h => pf_at h (by decide) rfl (Nat.lt_of_lt_of_eq (by decide : 2 < 5) rfl) (by simp [clK, ri_wi, rp_wi, rl_wi, rd_wi, upd]) (fun q hq c => clK_wi q hq c),
  fun _ _ _ _ _ h => pf_at h (by decide) rfl (Nat.lt_of_lt_of_eq (by decide : 3 < 5) rfl) (by simp [clK, ri_wi, rp_wi, rl_wi, rd_wi, upd]) (fun q hq c => clK_wi q hq c),
  fun _ _ _ _ _ h => pf_at h (by decide) rfl (Nat.lt_of_lt_of_eq (by decide : 1 < 3) rfl) (by simp [clK, ri_wi, rp_wi, rl_wi, rd_wi, upd]) (fun q hq c => clK_wi q hq c),
  fun _ _ _ _ _ h => pf_at h (by decide) rfl (Nat.lt_of_lt_of_eq (by decide : 2 < 3) rfl) (by simp [clK, ri_wi, rp_wi, rl_wi, rd_wi, upd]) (fun q hq c => clK_wi q hq c),
  fun _ _ _ _ _ h => pf_at h (by decide) rfl (Nat.lt_of_lt_of_eq (by decide : 4 < 9) rfl) (by simp [clK, ri_wi, rp_wi, rl_wi, rd_wi, upd]) (fun q hq c => clK_wi q hq c),
  fun _ _ _ _ _ h => pf_at h (by decide) rfl (Nat.lt_of_lt_of_eq (by decide : 5 < 9) rfl) (by simp [clK, ri_wi, rp_wi, rl_wi, rd_wi, upd]) (fun q hq c => clK_wi q hq c),
  fun _ _ _ _ _ h => pf_at h (by decide) rfl (Nat.lt_of_lt_of_eq (by decide : 8 < 9) rfl) (by simp [clK, ri_wi, rp_wi, rl_wi, rd_wi, upd]) (fun q hq c => clK_wi q hq c),
  fun _ _ _ _ _ h => pf_at h (by decide) rfl (Nat.lt_of_lt_of_eq (by decide : 1 < 5) rfl) (by simp [clK, ri_wi, rp_wi, rl_wi, rd_wi, upd]) (fun q hq c => clK_wi q hq c),
  fun _ _ _ _ _ h => pf_at h (by decide) rfl (Nat.lt_of_lt_of_eq (by decide : 2 < 5) rfl) (by simp [clK, ri_wi, rp_wi, rl_wi, rd_wi, upd]) (fun q hq c => clK_wi q hq c),
  fun _ _ _ _ _ h => pf_at h (by decide) rfl (Nat.lt_of_lt_of_eq (by decide : 4 < 5) rfl) (by simp [clK, ri_wi, rp_wi, rl_wi, rd_wi, upd]) (fun q hq c => clK_wi q hq c),
  fun _ _ _ _ _ h => pf_at h (by decide) rfl (Nat.lt_of_lt_of_eq (by decide : 0 < 2) rfl) (by simp [clK, ri_wp, rp_wp, rl_wp, rd_wp, upd]) (fun q hq c => clK_wp q hq c),
  fun _ _ _ _ _ h => pf_at h (by decide) rfl (Nat.lt_of_lt_of_eq (by decide : 0 < 4) rfl) (by simp [clK, ri_wp, rp_wp, rl_wp, rd_wp, upd]) (fun q hq c => clK_wp q hq c),
  fun _ _ _ _ _ h => pf_at h (by decide) rfl (Nat.lt_of_lt_of_eq (by decide : 1 < 4) rfl) (by simp [clK, ri_wi, rp_wi, rl_wi, rd_wi, upd]) (fun q hq c => clK_wi q hq c),
  fun _ _ _ _ _ h => pf_at h (by decide) rfl (Nat.lt_of_lt_of_eq (by decide : 2 < 4) rfl) (by simp [clK, ri_wi, rp_wi, rl_wi, rd_wi, upd]) (fun q hq c => clK_wi q hq c),
  fun _ _ _ _ _ h => pf_at h (by decide) rfl (Nat.lt_of_lt_of_eq (by decide : 3 < 4) rfl) (by simp [clK, ri_wi, rp_wi, rl_wi, rd_wi, upd]) (fun q hq c => clK_wi q hq c),
  fun _ _ _ _ _ h => pf_at h (by decide) rfl (Nat.lt_of_lt_of_eq (by decide : 6 < 23) rfl) (by simp [clK, ri_wi, rp_wi, rl_wi, rd_wi, upd]) (fun q hq c => clK_wi q hq c),
  fun _ _ _ _ _ h => pf_at h (by decide) rfl (Nat.lt_of_lt_of_eq (by decide : 7 < 23) rfl) (by simp [clK, ri_wi, rp_wi, rl_wi, rd_wi, upd]) (fun q hq c => clK_wi q hq c),
  fun _ _ _ _ _ h => pf_at h (by decide) rfl (Nat.lt_of_lt_of_eq (by decide : 8 < 23) rfl) (by simp [clK, ri_wi, rp_wi, rl_wi, rd_wi, upd]) (fun q hq c => clK_wi q hq c),
  fun _ _ _ _ _ h => pf_at h (by decide) rfl (Nat.lt_of_lt_of_eq (by decide : 9 < 23) rfl) (by simp [clK, ri_wi, rp_wi, rl_wi, rd_wi, upd]) (fun q hq c => clK_wi q hq c),
  fun _ _ _ _ _ h => pf_at h (by decide) rfl (Nat.lt_of_lt_of_eq (by decide : 10 < 23) rfl) (by simp [clK, ri_wi, rp_wi, rl_wi, rd_wi, upd]) (fun q hq c => clK_wi q hq c),
  fun _ _ _ _ _ h => pf_at h (by decide) rfl (Nat.lt_of_lt_of_eq (by decide : 11 < 23) rfl) (by simp [clK, ri_wi, rp_wi, rl_wi, rd_wi, upd]) (fun q hq c => clK_wi q hq c),
  fun _ _ _ _ _ h => pf_at h (by decide) rfl (Nat.lt_of_lt_of_eq (by decide : 12 < 23) rfl) (by simp [clK, ri_wi, rp_wi, rl_wi, rd_wi, upd]) (fun q hq c => clK_wi q hq c)⟩
theorem hF1 : (∀ (n0 : Nat) (G : sH) (m : mm) (k : Nat) (v : Int32) (h : kd k = 18), pf (hp n0 G m) (n0 + k) 8 14 (.int v) = some (hp n0 G (wi m k 14 v))) ∧
  (∀ (n0 : Nat) (G : sH) (m : mm) (k : Nat) (v : Int32) (h : kd k = 18), pf (hp n0 G m) (n0 + k) 8 18 (.int v) = some (hp n0 G (wi m k 18 v))) ∧
  (∀ (n0 : Nat) (G : sH) (m : mm) (k : Nat) (v : Int32) (h : kd k = 18), pf (hp n0 G m) (n0 + k) 8 19 (.int v) = some (hp n0 G (wi m k 19 v))) ∧
  (∀ (n0 : Nat) (G : sH) (m : mm) (k : Nat) (v : Int32) (h : kd k = 18), pf (hp n0 G m) (n0 + k) 8 20 (.int v) = some (hp n0 G (wi m k 20 v))) ∧
  (∀ (n0 : Nat) (G : sH) (m : mm) (k : Nat) (v : Int32) (h : kd k = 18), pf (hp n0 G m) (n0 + k) 8 21 (.int v) = some (hp n0 G (wi m k 21 v))) ∧
  (∀ (n0 : Nat) (G : sH) (m : mm) (k : Nat) (v : Int32) (h : kd k = 18), pf (hp n0 G m) (n0 + k) 8 22 (.int v) = some (hp n0 G (wi m k 22 v))) := ⟨fun _ _ _ _ _ h => pf_at h (by decide) rfl (Nat.lt_of_lt_of_eq (by decide : 14 < 23) rfl) (by simp [clK, ri_wi, rp_wi, rl_wi, rd_wi, upd]) (fun q hq c => clK_wi q hq c),
  fun _ _ _ _ _ h => pf_at h (by decide) rfl (Nat.lt_of_lt_of_eq (by decide : 18 < 23) rfl) (by simp [clK, ri_wi, rp_wi, rl_wi, rd_wi, upd]) (fun q hq c => clK_wi q hq c),
  fun _ _ _ _ _ h => pf_at h (by decide) rfl (Nat.lt_of_lt_of_eq (by decide : 19 < 23) rfl) (by simp [clK, ri_wi, rp_wi, rl_wi, rd_wi, upd]) (fun q hq c => clK_wi q hq c),
  fun _ _ _ _ _ h => pf_at h (by decide) rfl (Nat.lt_of_lt_of_eq (by decide : 20 < 23) rfl) (by simp [clK, ri_wi, rp_wi, rl_wi, rd_wi, upd]) (fun q hq c => clK_wi q hq c),
  fun _ _ _ _ _ h => pf_at h (by decide) rfl (Nat.lt_of_lt_of_eq (by decide : 21 < 23) rfl) (by simp [clK, ri_wi, rp_wi, rl_wi, rd_wi, upd]) (fun q hq c => clK_wi q hq c),
  fun _ _ _ _ _ h => pf_at h (by decide) rfl (Nat.lt_of_lt_of_eq (by decide : 22 < 23) rfl) (by simp [clK, ri_wi, rp_wi, rl_wi, rd_wi, upd]) (fun q hq c => clK_wi q hq c)⟩
theorem hA0 : (∀ (n0 : Nat) (G : sH) (m : mm) (k j : Nat) (h : kd k = 2) (hj : j < 12), aldR (hp n0 G m) (n0 + k) (ic j) = some (.ref (n0 + rp m k j))) ∧
  (∀ (n0 : Nat) (G : sH) (m : mm) (k : Nat) (h : kd k = 2), alen (hp n0 G m) (n0 + k) = some (ic 12)) ∧
  (∀ (n0 : Nat) (G : sH) (m : mm) (k j v : Nat) (h : kd k = 2) (hj : j < 12) (hv : kd v = 6), astR (hp n0 G m) (n0 + k) (ic j) (n0 + v) = some (hp n0 G (wp m k j v))) ∧
  (∀ (n0 : Nat) (G : sH) (m : mm) (k j : Nat) (h : kd k = 3) (hj : j < 3), aldR (hp n0 G m) (n0 + k) (ic j) = some (.ref (n0 + (k + (15 + 2 * j))))) ∧
  (∀ (n0 : Nat) (G : sH) (m : mm) (k : Nat) (h : kd k = 3), alen (hp n0 G m) (n0 + k) = some (ic 3)) ∧
  (∀ (n0 : Nat) (G : sH) (m : mm) (k j : Nat) (h : kd k = 4) (hj : j < 4), aldI .int (hp n0 G m) (n0 + k) (ic j) = some (.int (ri m k j))) ∧
  (∀ (n0 : Nat) (G : sH) (m : mm) (k j : Nat) (v : Int32) (h : kd k = 4) (hj : j < 4), astI .int (hp n0 G m) (n0 + k) (ic j) v = some (hp n0 G (wi m k j v))) ∧
  (∀ (n0 : Nat) (G : sH) (m : mm) (k : Nat) (h : kd k = 4), alen (hp n0 G m) (n0 + k) = some (ic 4)) ∧
  (∀ (n0 : Nat) (G : sH) (m : mm) (k j : Nat) (h : kd k = 5) (hj : j < 6), aldI .int (hp n0 G m) (n0 + k) (ic j) = some (.int (ri m k j))) ∧
  (∀ (n0 : Nat) (G : sH) (m : mm) (k j : Nat) (v : Int32) (h : kd k = 5) (hj : j < 6), astI .int (hp n0 G m) (n0 + k) (ic j) v = some (hp n0 G (wi m k j v))) ∧
  (∀ (n0 : Nat) (G : sH) (m : mm) (k : Nat) (h : kd k = 5), alen (hp n0 G m) (n0 + k) = some (ic 6)) ∧
  (∀ (n0 : Nat) (G : sH) (m : mm) (k j : Nat) (h : kd k = 9) (hj : j < 9), aldR (hp n0 G m) (n0 + k) (ic j) = some (.ref (n0 + (49 + 23 * j)))) ∧
  (∀ (n0 : Nat) (G : sH) (m : mm) (k : Nat) (h : kd k = 9), alen (hp n0 G m) (n0 + k) = some (ic 9)) ∧
  (∀ (n0 : Nat) (G : sH) (m : mm) (k j : Nat) (h : kd k = 11) (hj : j < 6), aldR (hp n0 G m) (n0 + k) (ic j) = some (.ref (n0 + rp m k j))) ∧
  (∀ (n0 : Nat) (G : sH) (m : mm) (k : Nat) (h : kd k = 11), alen (hp n0 G m) (n0 + k) = some (ic 6)) ∧
  (∀ (n0 : Nat) (G : sH) (m : mm) (k j v : Nat) (h : kd k = 11) (hj : j < 6) (hv : kd v = 6), astR (hp n0 G m) (n0 + k) (ic j) (n0 + v) = some (hp n0 G (wp m k j v))) ∧
  (∀ (n0 : Nat) (G : sH) (m : mm) (k j : Nat) (h : kd k = 12) (hj : j < 6), (aldI .byte (hp n0 G m) (n0 + k) (ic j)).or (aldI .boolean (hp n0 G m) (n0 + k) (ic j)) = some (.int (ri m k j))) ∧
  (∀ (n0 : Nat) (G : sH) (m : mm) (k j : Nat) (v : Int32) (h : kd k = 12) (hj : j < 6), (astI .byte (hp n0 G m) (n0 + k) (ic j) v).or (astI .boolean (hp n0 G m) (n0 + k) (ic j) v) = some (hp n0 G (wi m k j (sNar .boolean v)))) ∧
  (∀ (n0 : Nat) (G : sH) (m : mm) (k : Nat) (h : kd k = 12), alen (hp n0 G m) (n0 + k) = some (ic 6)) ∧
  (∀ (n0 : Nat) (G : sH) (m : mm) (k j : Nat) (h : kd k = 14) (hj : j < 60), aldI .char (hp n0 G m) (n0 + k) (ic j) = some (.int (ri m k j))) ∧
  (∀ (n0 : Nat) (G : sH) (m : mm) (k j : Nat) (v : Int32) (h : kd k = 14) (hj : j < 60), astI .char (hp n0 G m) (n0 + k) (ic j) v = some (hp n0 G (wi m k j (sNar .char v)))) ∧
  (∀ (n0 : Nat) (G : sH) (m : mm) (k : Nat) (h : kd k = 14), alen (hp n0 G m) (n0 + k) = some (ic 60)) ∧
  (∀ (n0 : Nat) (G : sH) (m : mm) (k j : Nat) (h : kd k = 15) (hj : j < 9), aldR (hp n0 G m) (n0 + k) (ic j) = some (.ref (n0 + (272 + 2 * j)))) ∧
  (∀ (n0 : Nat) (G : sH) (m : mm) (k : Nat) (h : kd k = 15), alen (hp n0 G m) (n0 + k) = some (ic 9)) ∧
  (∀ (n0 : Nat) (G : sH) (m : mm) (k j : Nat) (h : kd k = 19) (hj : j < 140), aldI .int (hp n0 G m) (n0 + k) (ic j) = some (.int (ri m k j))) ∧
  (∀ (n0 : Nat) (G : sH) (m : mm) (k j : Nat) (v : Int32) (h : kd k = 19) (hj : j < 140), astI .int (hp n0 G m) (n0 + k) (ic j) v = some (hp n0 G (wi m k j v))) ∧
  (∀ (n0 : Nat) (G : sH) (m : mm) (k : Nat) (h : kd k = 19), alen (hp n0 G m) (n0 + k) = some (ic 140)) ∧
  (∀ (n0 : Nat) (G : sH) (m : mm) (k j : Nat) (h : kd k = 20) (hj : j < 1120), aldI .int (hp n0 G m) (n0 + k) (ic j) = some (.int (ri m k j))) ∧
  (∀ (n0 : Nat) (G : sH) (m : mm) (k j : Nat) (v : Int32) (h : kd k = 20) (hj : j < 1120), astI .int (hp n0 G m) (n0 + k) (ic j) v = some (hp n0 G (wi m k j v))) ∧
  (∀ (n0 : Nat) (G : sH) (m : mm) (k : Nat) (h : kd k = 20), alen (hp n0 G m) (n0 + k) = some (ic 1120)) ∧
  (∀ (n0 : Nat) (G : sH) (m : mm) (k j : Nat) (h : kd k = 21) (hj : j < 100), aldI .int (hp n0 G m) (n0 + k) (ic j) = some (.int (ri m k j))) ∧
  (∀ (n0 : Nat) (G : sH) (m : mm) (k j : Nat) (v : Int32) (h : kd k = 21) (hj : j < 100), astI .int (hp n0 G m) (n0 + k) (ic j) v = some (hp n0 G (wi m k j v))) ∧
  (∀ (n0 : Nat) (G : sH) (m : mm) (k : Nat) (h : kd k = 21), alen (hp n0 G m) (n0 + k) = some (ic 100)) ∧
  (∀ (n0 : Nat) (G : sH) (m : mm) (k j : Nat) (h : kd k = 22) (hj : j < 60), aldI .int (hp n0 G m) (n0 + k) (ic j) = some (.int (ri m k j))) ∧
  (∀ (n0 : Nat) (G : sH) (m : mm) (k j : Nat) (v : Int32) (h : kd k = 22) (hj : j < 60), astI .int (hp n0 G m) (n0 + k) (ic j) v = some (hp n0 G (wi m k j v))) ∧
  (∀ (n0 : Nat) (G : sH) (m : mm) (k : Nat) (h : kd k = 22), alen (hp n0 G m) (n0 + k) = some (ic 60)) ∧
  (∀ (n0 : Nat) (G : sH) (m : mm) (k j : Nat) (h : kd k = 23) (hj : j < 32), aldI .int (hp n0 G m) (n0 + k) (ic j) = some (.int (ri m k j))) ∧
  (∀ (n0 : Nat) (G : sH) (m : mm) (k j : Nat) (v : Int32) (h : kd k = 23) (hj : j < 32), astI .int (hp n0 G m) (n0 + k) (ic j) v = some (hp n0 G (wi m k j v))) ∧
  (∀ (n0 : Nat) (G : sH) (m : mm) (k : Nat) (h : kd k = 23), alen (hp n0 G m) (n0 + k) = some (ic 32)) ∧
  (∀ (n0 : Nat) (G : sH) (m : mm) (k j : Nat) (h : kd k = 24) (hj : j < 192), aldI .int (hp n0 G m) (n0 + k) (ic j) = some (.int (ri m k j))) := ⟨fun _ _ _ _ _ h hj => (aldR_at h (by decide) rfl hj (by decide)).trans (by show some (va_rf (if _ < 12 then _ else none)) = _; rw [if_pos hj]; rfl),
  fun _ _ _ _ h => alen_at h (by decide) rfl,
  fun n0 _ m k j v h hj hv => astR_at h (by decide) rfl hv (by decide) rfl rfl rfl hj (by decide) (by show (Sum.inl _ : sC) = Sum.inl _; refine congrArg Sum.inl (congrArg (Prod.mk _) (congrArg (Prod.mk _) (congrArg Sum.inr (congrArg Sum.inr (congrArg Sum.inr (congrArg Sum.inr ?_)))))); funext z; rw [rp_wp]; unfold va_up; by_cases hz : z = j <;> simp [hz, hj]) (fun q hq c => clK_wp q hq c),
  fun _ _ _ _ _ h hj => (aldR_at h (by decide) rfl hj (by decide)).trans (by show some (va_rf (if _ < 3 then _ else none)) = _; rw [if_pos hj]; rfl),
  fun _ _ _ _ h => alen_at h (by decide) rfl,
  fun _ _ _ _ _ h hj => aldI_at h (by decide) rfl hj (by decide),
  fun _ _ _ _ _ _ h hj => astI_at h (by decide) (fun _ => rfl) hj (by decide),
  fun _ _ _ _ h => alen_at h (by decide) rfl,
  fun _ _ _ _ _ h hj => aldI_at h (by decide) rfl hj (by decide),
  fun _ _ _ _ _ _ h hj => astI_at h (by decide) (fun _ => rfl) hj (by decide),
  fun _ _ _ _ h => alen_at h (by decide) rfl,
  fun _ _ _ _ _ h hj => (aldR_at h (by decide) rfl hj (by decide)).trans (by show some (va_rf (if _ < 9 then _ else none)) = _; rw [if_pos hj]; rfl),
  fun _ _ _ _ h => alen_at h (by decide) rfl,
  fun _ _ _ _ _ h hj => (aldR_at h (by decide) rfl hj (by decide)).trans (by show some (va_rf (if _ < 6 then _ else none)) = _; rw [if_pos hj]; rfl),
  fun _ _ _ _ h => alen_at h (by decide) rfl,
  fun n0 _ m k j v h hj hv => astR_at h (by decide) rfl hv (by decide) rfl rfl rfl hj (by decide) (by show (Sum.inl _ : sC) = Sum.inl _; refine congrArg Sum.inl (congrArg (Prod.mk _) (congrArg (Prod.mk _) (congrArg Sum.inr (congrArg Sum.inr (congrArg Sum.inr (congrArg Sum.inr ?_)))))); funext z; rw [rp_wp]; unfold va_up; by_cases hz : z = j <;> simp [hz, hj]) (fun q hq c => clK_wp q hq c),
  fun _ _ _ _ _ h hj => by rw [aldI_at h (by decide) rfl hj (by decide)]; unfold aldI; rw [hp_at h (by decide)]; rfl,
  fun _ _ _ _ _ _ h hj => by rw [astI_at h (by decide) (fun _ => rfl) hj (by decide)]; unfold astI; rw [hp_at h (by decide)]; rfl,
  fun _ _ _ _ h => alen_at h (by decide) rfl,
  fun _ _ _ _ _ h hj => aldI_at h (by decide) rfl hj (by decide),
  fun _ _ _ _ _ _ h hj => astI_at h (by decide) (fun _ => rfl) hj (by decide),
  fun _ _ _ _ h => alen_at h (by decide) rfl,
  fun _ _ _ _ _ h hj => (aldR_at h (by decide) rfl hj (by decide)).trans (by show some (va_rf (if _ < 9 then _ else none)) = _; rw [if_pos hj]; rfl),
  fun _ _ _ _ h => alen_at h (by decide) rfl,
  fun _ _ _ _ _ h hj => aldI_at h (by decide) rfl hj (by decide),
  fun _ _ _ _ _ _ h hj => astI_at h (by decide) (fun _ => rfl) hj (by decide),
  fun _ _ _ _ h => alen_at h (by decide) rfl,
  fun _ _ _ _ _ h hj => aldI_at h (by decide) rfl hj (by decide),
  fun _ _ _ _ _ _ h hj => astI_at h (by decide) (fun _ => rfl) hj (by decide),
  fun _ _ _ _ h => alen_at h (by decide) rfl,
  fun _ _ _ _ _ h hj => aldI_at h (by decide) rfl hj (by decide),
  fun _ _ _ _ _ _ h hj => astI_at h (by decide) (fun _ => rfl) hj (by decide),
  fun _ _ _ _ h => alen_at h (by decide) rfl,
  fun _ _ _ _ _ h hj => aldI_at h (by decide) rfl hj (by decide),
  fun _ _ _ _ _ _ h hj => astI_at h (by decide) (fun _ => rfl) hj (by decide),
  fun _ _ _ _ h => alen_at h (by decide) rfl,
  fun _ _ _ _ _ h hj => aldI_at h (by decide) rfl hj (by decide),
  fun _ _ _ _ _ _ h hj => astI_at h (by decide) (fun _ => rfl) hj (by decide),
  fun _ _ _ _ h => alen_at h (by decide) rfl,
  fun _ _ _ _ _ h hj => aldI_at h (by decide) rfl hj (by decide)⟩
theorem hA1 : (∀ (n0 : Nat) (G : sH) (m : mm) (k j : Nat) (v : Int32) (h : kd k = 24) (hj : j < 192), astI .int (hp n0 G m) (n0 + k) (ic j) v = some (hp n0 G (wi m k j v))) ∧
  (∀ (n0 : Nat) (G : sH) (m : mm) (k : Nat) (h : kd k = 24), alen (hp n0 G m) (n0 + k) = some (ic 192)) ∧
  (∀ (n0 : Nat) (G : sH) (m : mm) (k : Nat) (h : kd k = 25), aldL (hp n0 G m) (n0 + k) (ic 0) = some (.long (rl m k 0))) ∧
  (∀ (n0 : Nat) (G : sH) (m : mm) (k : Nat) (v : Int64) (h : kd k = 25), astL (hp n0 G m) (n0 + k) (ic 0) v = some (hp n0 G (wl m k 0 v))) ∧
  (∀ (n0 : Nat) (G : sH) (m : mm) (k : Nat) (h : kd k = 26), aldD (hp n0 G m) (n0 + k) (ic 0) = some (.double (rd m k 0))) ∧
  (∀ (n0 : Nat) (G : sH) (m : mm) (k : Nat) (v : UInt64) (h : kd k = 26), astD (hp n0 G m) (n0 + k) (ic 0) v = some (hp n0 G (wd m k 0 v))) ∧
  (∀ (n0 : Nat) (G : sH) (m : mm) (k0 k sp dp j : Nat) (h0 : kd k0 = 4) (h : kd k = 4) (hne : k0 ≠ k) (hs : sp + j ≤ 4) (hd : dp + j ≤ 4), acpy (hp n0 G m) (n0 + k0) (ic sp) (n0 + k) (ic dp) (ic j) = some (hp n0 G (wa m k (va_cpy (ri m k0) (ri m k) sp dp j)))) ∧
  (∀ (n0 : Nat) (G : sH) (m : mm) (k0 k sp dp j : Nat) (h0 : kd k0 = 5) (h : kd k = 5) (hne : k0 ≠ k) (hs : sp + j ≤ 6) (hd : dp + j ≤ 6), acpy (hp n0 G m) (n0 + k0) (ic sp) (n0 + k) (ic dp) (ic j) = some (hp n0 G (wa m k (va_cpy (ri m k0) (ri m k) sp dp j)))) := ⟨fun _ _ _ _ _ _ h hj => astI_at h (by decide) (fun _ => rfl) hj (by decide),
  fun _ _ _ _ h => alen_at h (by decide) rfl,
  fun _ _ _ _ h => by unfold aldL; rw [hp_at h (by decide)]; rfl,
  fun n0 _ m k v h => by unfold astL; rw [hp_at h (by decide)]; show some (hset _ _ _) = _; rw [hp_set h (by decide) (m1 := wl m k 0 v) (by show (Sum.inl _ : sC) = Sum.inl _; refine congrArg Sum.inl (congrArg (Prod.mk _) (congrArg (Prod.mk _) (congrArg Sum.inr (congrArg Sum.inl ?_)))); funext z; rw [rl_wl]; unfold vp_updL; by_cases hz : z = 0 <;> simp [hz, show (ic 0).toNatClampNeg = 0 from rfl]) (fun q hq c => clK_wl q hq c)],
  fun _ _ _ _ h => by unfold aldD; rw [hp_at h (by decide)]; rfl,
  fun n0 _ m k v h => by unfold astD; rw [hp_at h (by decide)]; show some (hset _ _ _) = _; rw [hp_set h (by decide) (m1 := wd m k 0 v) (by show (Sum.inl _ : sC) = Sum.inl _; refine congrArg Sum.inl (congrArg (Prod.mk _) (congrArg (Prod.mk _) (congrArg Sum.inr (congrArg Sum.inr (congrArg Sum.inr (congrArg Sum.inl ?_)))))); funext z; rw [rd_wd]; unfold vf_upd; by_cases hz : z = 0 <;> simp [hz, show (ic 0).toNatClampNeg = 0 from rfl]) (fun q hq c => clK_wd q hq c)],
  fun _ _ _ _ _ _ _ _ h0 h hne hs hd => acpy_at h0 (by decide) h (by decide) rfl (fun _ => rfl) hne hs hd (by decide) (by decide),
  fun _ _ _ _ _ _ _ _ h0 h hne hs hd => acpy_at h0 (by decide) h (by decide) rfl (fun _ => rfl) hne hs hd (by decide) (by decide)⟩
/-- the bases of the eleven states -/
def isS (b : Nat) : Prop := b = 1 ∨ b = 24 ∨ ∃ r, r < 9 ∧ b = 49 + 23 * r
theorem kd_S {b : Nat} (h : isS b) {j : Nat} (hj : j < 23) : kd (b + j) = kS j := by
  rcases h with rfl | rfl | ⟨r, hr, rfl⟩
  · have e : (1 + j - 1) % 23 = j := by omega
    unfold kd
    rw [if_neg (by omega), if_pos (by omega), e]
  · have e : (24 + j - 1) % 23 = j := by omega
    unfold kd
    rw [if_neg (by omega), if_pos (by omega), e]
  · have e : (49 + 23 * r + j - 49) % 23 = j := by omega
    unfold kd
    rw [if_neg (by omega), if_neg (by omega), if_neg (by omega), if_neg (by omega), if_pos (by omega), e]
theorem kd_S0 {b : Nat} (h : isS b) : kd b = 1 ∧ kd (b + 1) = 2 ∧ kd (b + 2) = 3 ∧ kd (b + 3) = 4 ∧ kd (b + 4) = 5 := ⟨kd_S h (j := 0) (by decide), kd_S h (j := 1) (by decide), kd_S h (j := 2) (by decide), kd_S h (j := 3) (by decide), kd_S h (j := 4) (by decide)⟩
theorem kd_SJ {b o : Nat} (h : isS b) (h1 : b + 5 ≤ o) (h2 : o < b + 17) : kd o = 6 := by
  have := kd_S h (j := o - b) (by omega)
  rw [show b + (o - b) = o by omega] at this
  rw [this]
  unfold kS
  rw [if_neg (by omega), if_neg (by omega), if_neg (by omega), if_neg (by omega), if_neg (by omega), if_pos (by omega)]
theorem kd_SW {b : Nat} (h : isS b) {w : Nat} (hw : w < 3) : kd (b + 2 + (15 + 2 * w)) = 7 ∧ kd (b + 2 + (15 + 2 * w) + 1) = 4 := by
  have h1 := kd_S h (j := 17 + 2 * w) (by omega)
  have h2 := kd_S h (j := 18 + 2 * w) (by omega)
  rw [show b + 2 + (15 + 2 * w) = b + (17 + 2 * w) by omega, show b + (17 + 2 * w) + 1 = b + (18 + 2 * w) by omega, h1, h2]
  unfold kS
  refine ⟨?_, ?_⟩
  · rw [if_neg (by omega), if_neg (by omega), if_neg (by omega), if_neg (by omega), if_neg (by omega), if_neg (by omega), if_pos (by omega)]
  · rw [if_neg (by omega), if_neg (by omega), if_neg (by omega), if_neg (by omega), if_neg (by omega), if_neg (by omega), if_neg (by omega)]
theorem kdC : kd 0 = 0 ∧ kd 1 = 1 ∧ kd 24 = 1 ∧ kd 47 = 8 ∧ kd 48 = 9 ∧ kd 256 = 10 ∧ kd 257 = 11 ∧ kd 258 = 12 ∧ kd 259 = 5 ∧ kd 260 = 5 ∧ kd 261 = 5 ∧ kd 262 = 5 ∧ kd 263 = 6 ∧ kd 264 = 6 ∧ kd 265 = 6 ∧ kd 266 = 6 ∧ kd 267 = 6 ∧ kd 268 = 6 ∧ kd 269 = 13 ∧ kd 270 = 14 ∧ kd 271 = 15 ∧ kd 272 = 16 ∧ kd 273 = 5 ∧ kd 274 = 16 ∧ kd 275 = 5 ∧ kd 276 = 16 ∧ kd 277 = 5 ∧ kd 278 = 16 ∧ kd 279 = 5 ∧ kd 280 = 16 ∧ kd 281 = 5 ∧ kd 282 = 16 ∧ kd 283 = 5 ∧ kd 284 = 16 ∧ kd 285 = 5 ∧ kd 286 = 16 ∧ kd 287 = 5 ∧ kd 288 = 16 ∧ kd 289 = 5 ∧ kd 290 = 17 ∧ kd 291 = 99 ∧ kd 292 = 18 ∧ kd 293 = 19 ∧ kd 294 = 19 ∧ kd 295 = 19 ∧ kd 296 = 20 ∧ kd 297 = 5 ∧ kd 298 = 5 ∧ kd 299 = 21 ∧ kd 300 = 22 ∧ kd 301 = 23 ∧ kd 302 = 24 ∧ kd 303 = 25 ∧ kd 304 = 26 := ⟨rfl, rfl, rfl, rfl, rfl, rfl, rfl, rfl, rfl, rfl, rfl, rfl, rfl, rfl, rfl, rfl, rfl, rfl, rfl, rfl, rfl, rfl, rfl, rfl, rfl, rfl, rfl, rfl, rfl, rfl, rfl, rfl, rfl, rfl, rfl, rfl, rfl, rfl, rfl, rfl, rfl, rfl, rfl, rfl, rfl, rfl, rfl, rfl, rfl, rfl, rfl, rfl, rfl, rfl⟩
/-! what a walk of the evaluator needs beside -/
theorem xL : (∀ x : Nat, ldrop (some (.ref x)) = some (.ref x)) ∧ (∀ x : Int32, ldrop (some (.int x)) = some (.int x)) ∧ ldrop (some .null) = some .null ∧ ldrop none = none ∧ (∀ x, ldrop (some (.long x)) = none) ∧ (∀ x, ldrop (some (.double x)) = none) ∧ (∀ x, ldrop (some (.float x)) = some (.float x)) := ⟨fun _ => rfl, fun _ => rfl, rfl, rfl, fun _ => rfl, fun _ => rfl, fun _ => rfl⟩
theorem xC : (cats [] = 0) ∧ (∀ (x : Int32) (t : List Value), cats (.int x :: t) = 1 + cats t) ∧ (∀ (x : Nat) (t : List Value), cats (.ref x :: t) = 1 + cats t) ∧ (∀ (t : List Value), cats (.null :: t) = 1 + cats t) ∧ (∀ (x : Int64) (t : List Value), cats (.long x :: t) = 2 + cats t) ∧ (∀ (x : UInt64) (t : List Value), cats (.double x :: t) = 2 + cats t) ∧ (∀ (x : UInt32) (t : List Value), cats (.float x :: t) = 1 + cats t) := by
  refine ⟨rfl, ?_, ?_, ?_, ?_, ?_, ?_⟩ <;> intros <;> simp [cats, Value.category]
theorem xNr : narrow .boolean (.int (ic 0)) = .int (ic 0) ∧ narrow .boolean (.int (ic 1)) = .int (ic 1) := ⟨rfl, rfl⟩
theorem icM : ((-ic 1 : Int32) < ic 0) = True := eq_true (by decide)
theorem le_nl (x y : Int32) : (x ≤ y) = ¬ y < x := (propext Int32.not_lt).symm
theorem upd_s (f : Nat → Int32) (i : Nat) (v : Int32) : upd f i v i = v := if_pos rfl
theorem upd_n (f : Nat → Int32) {i j : Nat} (v : Int32) (h : j ≠ i) : upd f i v j = f j := if_neg h
theorem ri_ws (m : mm) (k i : Nat) (v : Int32) : ri (wi m k i v) k = upd (ri m k) i v := (ri_wi m k i v k).trans (if_pos rfl)
theorem ri_wn (m : mm) {k q : Nat} (i : Nat) (v : Int32) (h : q ≠ k) : ri (wi m k i v) q = ri m q := (ri_wi m k i v q).trans (if_neg h)
theorem ri_as (m : mm) (k : Nat) (f : Nat → Int32) : ri (wa m k f) k = f := (ri_wa m k f k).trans (if_pos rfl)
theorem ri_an (m : mm) {k q : Nat} (f : Nat → Int32) (h : q ≠ k) : ri (wa m k f) q = ri m q := (ri_wa m k f q).trans (if_neg h)
theorem in_rng {w n : Nat} (hw : w < n) (hn : n < 2147483648) : (¬ ic w < ic 0 ∧ ic w < ic n) = True := by
  rw [ic_lt (by omega) (by omega), ic_lt (by omega) (by omega)]
  apply eq_true
  omega
theorem rng_of {x : Int32} {n : Nat} (hn : n < 2147483648) (h : ¬ x < ic 0 ∧ x < ic n) : ∃ w, w < n ∧ x = ic w := by
  have h0 : 0 ≤ x := Int32.not_lt.mp h.1
  have e := ic_of h0
  have hlt := x.toInt_lt
  refine ⟨x.toNatClampNeg, ?_, e⟩
  have h1 := Int32.lt_iff_toInt_lt.mp h.2
  have hx : x.toNatClampNeg < 2147483648 := by show x.toInt.toNat < _; omega
  rw [e, ic_toInt hx, ic_toInt hn] at h1
  omega
/-- true and false as numbers -/
def bI (P : Prop) [Decidable P] : Int32 := if P then ic 1 else ic 0
theorem bI0 : (∀ (P : Prop) [Decidable P], (bI P = ic 0) = ¬ P) ∧ (∀ (P : Prop) [Decidable P], narrow .boolean (.int (bI P)) = .int (bI P)) := by
  refine ⟨fun P _ => ?_, fun P _ => ?_⟩
  · unfold bI
    by_cases h : P
    · simp [h, show ¬ ic 1 = ic 0 by decide]
    · simp [h]
  · unfold bI
    split <;> rfl
theorem bIT [Decidable True] : bI True = ic 1 := if_pos trivial
theorem bIF [Decidable False] : bI False = ic 0 := if_neg id
def aB (x : Int32) : Int32 := if ic 0 ≤ x then x else ic 0 - x
def mX (x y : Int32) : Int32 := if x < y then y else x
def mN (x y : Int32) : Int32 := if y < x then y else x
theorem bI_t {P : Prop} [Decidable P] (h : P) : bI P = ic 1 := if_pos h
theorem bI_f {P : Prop} [Decidable P] (h : ¬ P) : bI P = ic 0 := if_neg h
theorem callK_ite {P : Prop} [Decidable P] (a b : Option sO) (f : Option Value → sS → Option sO) : callK (if P then a else b) f = if P then callK a f else callK b f := by
  split <;> rfl
theorem callR_ite {P : Prop} [Decidable P] (a b : Option sO) (f : Option Value → sS → Option sO) : callR (if P then a else b) f = if P then callR a f else callR b f := by
  split <;> rfl
theorem iterE {α β : Type} (F : Nat → β → α) (n : Nat) (h : ∀ i, i < n → ∀ l, ∃ l', F i l = F (i + 1) l') : ∀ l, ∃ l', F 0 l = F n l' := by
  induction n with
  | zero => exact fun l => ⟨l, rfl⟩
  | succ n ih =>
    intro l
    obtain ⟨l1, h1⟩ := ih (fun i hi => h i (Nat.lt_succ_of_lt hi)) l
    obtain ⟨l2, h2⟩ := h n (Nat.lt_succ_self n) l1
    exact ⟨l2, h1.trans h2⟩
/-- a loop: from its i-th pass to its n-th -/
theorem iter {α : Type} (F : Nat → α) (n : Nat) (h : ∀ i, i < n → F i = F (i + 1)) : F 0 = F n := by
  induction n with
  | zero => rfl
  | succ n ih => exact (ih fun i hi => h i (Nat.lt_succ_of_lt hi)).trans (h n (Nat.lt_succ_self n))
