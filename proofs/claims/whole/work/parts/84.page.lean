/-! ===== a page is written ===== -/
theorem pg_or {d c t e : Nat} (hd : d ≤ 9999) (hc : c ≤ 8) (ht : t ≤ 9) (he : e ≤ 198) : (((Int32.ofInt (d : Int) <<< (Int32.ofInt 16 &&& 31)) ||| (Int32.ofInt (c : Int) <<< (Int32.ofInt 12 &&& 31))) ||| (Int32.ofInt (t : Int) <<< (Int32.ofInt 8 &&& 31))) ||| Int32.ofInt (e : Int) = Int32.ofInt ((d * 65536 + c * 4096 + t * 256 + e : Nat) : Int) := by
  have e1 := n_shl (n := d) (b := 16) (by omega) (by omega)
  have e2 := n_shl (n := c) (b := 12) (by omega) (by omega)
  have e3 := n_shl (n := t) (b := 8) (by omega) (by omega)
  have e4 := n_or (a := d) (c := c * 2 ^ 12) 16 (by omega) (by omega)
  have e5 := n_or (a := d * 16 + c) (c := t * 2 ^ 8) 12 (by omega) (by omega)
  have e6 := n_or (a := (d * 16 + c) * 16 + t) (c := e) 8 (by omega) (by omega)
  rw [show Int32.ofInt 16 = Int32.ofInt ((16 : Nat) : Int) from rfl, show Int32.ofInt 12 = Int32.ofInt ((12 : Nat) : Int) from rfl, show Int32.ofInt 8 = Int32.ofInt ((8 : Nat) : Int) from rfl, e1, e2, e3, e4, show d * 2 ^ 16 + c * 2 ^ 12 = (d * 16 + c) * 2 ^ 12 by omega, e5, show (d * 16 + c) * 2 ^ 12 + t * 2 ^ 8 = ((d * 16 + c) * 16 + t) * 2 ^ 8 by omega, e6]
theorem pg_C {d c t x : Int} (hd : 0 ≤ d ∧ d ≤ 9999) (hc : 0 ≤ c ∧ c ≤ 8) (ht : 0 ≤ t ∧ t ≤ 9) (hx : -99 ≤ x ∧ x ≤ 99) : (((Int32.ofInt d <<< (Int32.ofInt 16 &&& 31)) ||| (Int32.ofInt c <<< (Int32.ofInt 12 &&& 31))) ||| (Int32.ofInt t <<< (Int32.ofInt 8 &&& 31))) ||| (Int32.ofInt x + Int32.ofInt 99) = Int32.ofInt (pgC (((d * 9 + c) * 10 + t) * 200 + x + 100)) := by
  obtain ⟨d, rfl⟩ := Int.eq_ofNat_of_zero_le hd.1
  obtain ⟨c, rfl⟩ := Int.eq_ofNat_of_zero_le hc.1
  obtain ⟨t, rfl⟩ := Int.eq_ofNat_of_zero_le ht.1
  obtain ⟨e, he⟩ := Int.eq_ofNat_of_zero_le (show 0 ≤ x + 99 by omega)
  rw [i_add, he, pg_or (by omega) (by omega) (by omega) (by omega)]
  congr 1
  unfold pgC
  omega
