/-! ===== the heap that the two constructors make ===== -/
def h0o : Option am_H := am_b2 (am_nO [] 8) fun a1 hh2 =>
  (fX9_init a1 hh2).bind fun hh5 =>
  am_b2 (am_nO hh5 9) fun a6 hh7 =>
  (fX10_init a6 hh7).bind fun hh10 =>
  am_b2 (am_nA hh10 1 ((1 : Int32))) fun a11 hh12 => if a1 = 0 ∧ a6 = 218 ∧ a11 = 238 then some hh12 else none
def h0c (h : am_H) : Bool := Nat.beq h.length 239 && decide (h.map ly_e = ly_0) && Nat.ble (am_sl h) 100000 && ((List.range 16).all fun i => decide (am_aR h 18 (nI i) = some (19 + 7 * i))) && ((List.range 4).all fun i => decide (am_aR h 131 (nI i) = some (132 + 11 * i))) && decide (am_gR h 0 8 9 = some 182) && decide (am_gR h 0 8 10 = some 196) && decide (am_gR h 0 8 11 = some 210) && decide (am_gR h 0 8 12 = some 214)
def h0v (h : am_H) : Bool := decide (vI h 182 11 = 0 ∧ vI h 182 12 = 0 ∧ vI h 182 13 = 1 ∧ vI h 182 15 = 0 ∧ vA h 224 0 = 0 ∧ vA h 224 1 = 0 ∧ vA h 224 2 = 1 ∧ vA h 224 3 = -1) && decide (vI h 3 6 = 0 ∧ vI h 3 7 = 0 ∧ vI h 3 8 = 0 ∧ vA h 234 0 = 0 ∧ vA h 234 1 = 0) && decide (vI h 17 2 = 0 ∧ vI h 218 25 = 0 ∧ vI h 176 2 = 0 ∧ vA h 234 30 = 0 ∧ vI h 210 3 = 0 ∧ vA h 231 0 = 0 ∧ vI h 1 1 = 0 ∧ vI h 218 2 = 0 ∧ vI h 218 18 = 0) && ((List.range 4).all fun m => decide (vI h (132 + 11 * m) 2 = 0 ∧ vA h 235 m = 0)) && ((List.range 25).all fun i => decide (vB h 223 i = Int64.ofNat (enc 37 (kw.getD i []) 0))) && ((List.range 16).any fun e => decide (vI h 17 1 = nI e)) && decide (vR h 0 9 = 182 ∧ vR h 0 10 = 196 ∧ vR h 0 11 = 210 ∧ vR h 0 12 = 214)
theorem h0_1 : (match h0o with
  | some h => h0c h && h0v h
  | none => false) = true := by decide +kernel
