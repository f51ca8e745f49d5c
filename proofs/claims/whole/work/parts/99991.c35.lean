/-! while the objects are made: what lies at an address that is not yet given out is hidden; expanded by px.py out of c35.src -/
def hid (A : Nat) (H : sH) : sH := fun q => if q < A then H q else none
section C35
variable {A a : Nat} {H : sH}
theorem hid_at (h : a < A) : hid A H a = H a := if_pos h
theorem hid_hset (h : a < A) (x : sC) : hset (hid A H) a x = hid A (hset H a x) := by
  funext q
  unfold hset hid
  dsimp only
  by_cases h1 : q = a
  · subst h1
    rw [if_pos rfl, if_pos h, if_pos rfl]
  · rw [if_neg h1]
    by_cases h2 : q < A
    · rw [if_pos h2, if_pos h2, if_neg h1]
    · rw [if_neg h2, if_neg h2]
theorem hid_new (x : sC) : hset (hid A H) A x = hid (A + 1) (hset H A x) := by
  funext q
  unfold hset hid
  dsimp only
  by_cases h1 : q = A
  · subst h1
    rw [if_pos rfl, if_pos (by omega), if_pos rfl]
  · rw [if_neg h1]
    by_cases h2 : q < A
    · rw [if_pos h2, if_pos (by omega), if_neg h1]
    · rw [if_neg h2, if_neg (by omega)]
theorem gf_hid (h : a < A) (c i : Nat) : gf (hid A H) a c i = gf H a c i := by
  unfold gf
  rw [hid_at h]
theorem isOb_hid (h : a < A) (c : Nat) : isOb (hid A H) a c = isOb H a c := by
  unfold isOb
  rw [hid_at h]
theorem alen_hid (h : a < A) : alen (hid A H) a = alen H a := by
  unfold alen
  rw [hid_at h]
theorem aldI_hid (h : a < A) (ty : FieldType) (i : Int32) : aldI ty (hid A H) a i = aldI ty H a i := by
  unfold aldI
  rw [hid_at h]
theorem aldR_hid (h : a < A) (i : Int32) : aldR (hid A H) a i = aldR H a i := by
  unfold aldR
  rw [hid_at h]
theorem pf_hid (h : a < A) (c i : Nat) (v : Value) : pf (hid A H) a c i v = (pf H a c i v).map (hid A) := by
  unfold pf
  rw [hid_at h]
  split
  · split
    · rw [hid_hset h]; rfl
    · rfl
  · rfl
theorem astI_hid (h : a < A) (ty : FieldType) (i x : Int32) : astI ty (hid A H) a i x = (astI ty H a i x).map (hid A) := by
  unfold astI
  rw [hid_at h]
  split
  · split
    · split
      · rfl
      · rw [hid_hset h]; rfl
    · rfl
  · rfl
end C35
