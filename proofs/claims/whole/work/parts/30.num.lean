/-! ===== PURE: numbers, reads and writes of typed states ===== -/
theorem nN_al (b k : Nat) : nI b + no_index (@OfNat.ofNat Int32 k Int32.instOfNat) = nI (b + @OfNat.ofNat Nat k (instOfNatNat k)) := by
  show Int32.ofNat b + Int32.ofNat k = Int32.ofNat (b + k)
  exact (Int32.ofNat_add b k).symm
theorem nN_ad (a b : Nat) : nI a + nI b = nI (a + b) := (Int32.ofNat_add a b).symm
theorem nN_lit (k : Nat) : (@OfNat.ofNat Int32 k Int32.instOfNat) = nI (@OfNat.ofNat Nat k (instOfNatNat k)) := (rfl)
theorem nN_toInt {a : Nat} (h : a < 2147483648) : (nI a).toInt = (a : Int) := by
  unfold nI
  rw [Int32.toInt_ofNat_of_lt]
  omega
theorem nN_le {a b : Nat} (ha : a < 2147483648) (hb : b < 2147483648) : nI a ≤ nI b ↔ a ≤ b := by
  rw [Int32.le_iff_toInt_le, nN_toInt ha, nN_toInt hb]
  omega
theorem nN_lt {a b : Nat} (ha : a < 2147483648) (hb : b < 2147483648) : nI a < nI b ↔ a < b := by
  rw [Int32.lt_iff_toInt_lt, nN_toInt ha, nN_toInt hb]
  omega
theorem nN_eq {a b : Nat} (ha : a < 2147483648) (hb : b < 2147483648) : nI a = nI b ↔ a = b := by
  constructor
  · intro h
    have := congrArg Int32.toInt h
    rw [nN_toInt ha, nN_toInt hb] at this
    omega
  · intro h
    rw [h]
theorem nN_ge0 {a : Nat} (ha : a < 2147483648) : ¬ nI a < 0 := by
  rw [show (0 : Int32) = nI 0 from rfl, nN_lt ha (by decide)]
  omega
theorem nN_tn {a : Nat} (ha : a < 2147483648) : (nI a).toNatClampNeg = a := by
  show (nI a).toInt.toNat = a
  rw [nN_toInt ha]
  rfl
theorem nN_ne1 {a : Nat} (ha : a < 2147483648) : nI a ≠ (-1 : Int32) := by
  intro h
  have := congrArg Int32.toInt h
  rw [nN_toInt ha] at this
  have h2 : (-1 : Int32).toInt = -1 := by decide
  omega
theorem tA_e {t : tS} {a n k : Nat} (hk : k < n) (hn : n < 100000) : tA t a n (nI k) = some (t.2.1 a k) := by
  unfold tA
  have h1 := nN_ge0 (a := k) (by omega)
  rw [nN_tn (by omega), if_pos]
  intro h
  rcases h with h | h
  · exact h1 h
  · omega
theorem tA_l {t : tS} {a n k : Nat} (hk : (@OfNat.ofNat Nat k (instOfNatNat k)) < n) (hn : n < 100000) : tA t a n (no_index (@OfNat.ofNat Int32 k Int32.instOfNat)) = some (t.2.1 a (@OfNat.ofNat Nat k (instOfNatNat k))) := tA_e hk hn
theorem tB_e {t : tS} {a n k : Nat} (hk : k < n) (hn : n < 100000) : tB t a n (nI k) = some (t.2.2.1 a k) := by
  unfold tB
  have h1 := nN_ge0 (a := k) (by omega)
  rw [nN_tn (by omega), if_pos]
  intro h
  rcases h with h | h
  · exact h1 h
  · omega
theorem tB_l {t : tS} {a n k : Nat} (hk : (@OfNat.ofNat Nat k (instOfNatNat k)) < n) (hn : n < 100000) : tB t a n (no_index (@OfNat.ofNat Int32 k Int32.instOfNat)) = some (t.2.2.1 a (@OfNat.ofNat Nat k (instOfNatNat k))) := tB_e hk hn
theorem tQ_e {a s n k : Nat} (hk : k < n) (hn : n < 100000) : tQ a s n (nI k) = some (a + s * k) := by
  unfold tQ
  have h1 := nN_ge0 (a := k) (by omega)
  rw [nN_tn (by omega), if_pos]
  intro h
  rcases h with h | h
  · exact h1 h
  · omega
theorem tWA_e {t : tS} {g a n k : Nat} {x : Int32} (hk : k < n) (hn : n < 100000) : tWA t g a n (nI k) x = some (uA t a k (am_nar g x)) := by
  unfold tWA
  have h1 := nN_ge0 (a := k) (by omega)
  rw [nN_tn (by omega), if_pos]
  intro h
  rcases h with h | h
  · exact h1 h
  · omega
theorem tW0_e {t : tS} {a n k : Nat} {x : Int32} (hk : k < n) (hn : n < 100000) : tWA t 0 a n (nI k) x = some (uA t a k x) := tWA_e hk hn
theorem tW0_l {t : tS} {a n k : Nat} {x : Int32} (hk : (@OfNat.ofNat Nat k (instOfNatNat k)) < n) (hn : n < 100000) : tWA t 0 a n (no_index (@OfNat.ofNat Int32 k Int32.instOfNat)) x = some (uA t a (@OfNat.ofNat Nat k (instOfNatNat k)) x) := tWA_e hk hn
theorem tWB_e {t : tS} {a n k : Nat} {x : Int64} (hk : k < n) (hn : n < 100000) : tWB t a n (nI k) x = some (uB t a k x) := by
  unfold tWB
  have h1 := nN_ge0 (a := k) (by omega)
  rw [nN_tn (by omega), if_pos]
  intro h
  rcases h with h | h
  · exact h1 h
  · omega
theorem ob_s {α β : Type} {x : α} {f : α → Option β} : (some x).bind f = f x := (rfl)
theorem ob_2 {α β γ : Type} {x : α} {y : β} {f : α → β → Option γ} : am_b2 (some (x, y)) f = f x y := (rfl)
theorem ob_3 {α β γ δ : Type} {x : α} {y : β} {z : γ} {f : α → β → γ → Option δ} : am_b3 (some (x, y, z)) f = f x y z := (rfl)
/-- natural, and below a bound -/
def NN (x : Int32) (m : Nat) : Prop := ∃ k, k < m ∧ x = nI k
theorem uI_1 {t : tS} {a k : Nat} {x : Int32} {b j : Nat} : (uI t a k x).1 b j = if b = a ∧ j = k then x else t.1 b j := (rfl)
theorem uI_2 {t : tS} {a k : Nat} {x : Int32} : (uI t a k x).2 = t.2 := (rfl)
theorem uA_1 {t : tS} {a k : Nat} {x : Int32} : (uA t a k x).1 = t.1 := (rfl)
theorem uA_2 {t : tS} {a k : Nat} {x : Int32} {b j : Nat} : (uA t a k x).2.1 b j = if b = a ∧ j = k then x else t.2.1 b j := (rfl)
theorem uA_3 {t : tS} {a k : Nat} {x : Int32} : (uA t a k x).2.2 = t.2.2 := (rfl)
/-! the pieces of the relation -/
/-- the class's stand at a, of n dates and m turned off -/
def CS (nh nd a n m : Nat) (S : Nat → Nat → Int32) (t : tS) : Prop :=
  t.1 a 6 = nI (n % 12) ∧ t.1 a 7 = nI (n / 12) ∧ t.1 a 8 = nI m ∧ (∀ j, j < nh → t.2.1 (a + 1) j = S 1 j) ∧ (∀ d, d < nd → t.2.1 (a + 2) d = S 2 d) ∧ (∀ d, d < nd → t.2.1 (a + 3) d = S 3 d) ∧ (∀ d, d < nd → t.2.1 (a + 4) d = S 4 d) ∧ (∀ d, d < nd → t.2.1 (a + 5) d = S 5 d) ∧ (∀ d, d < nd → t.2.1 (a + 6) d = S 6 d)
/-- the reference's at b -/
def MS (nh nd b n m : Nat) (S : Nat → Nat → Int32) (t : tS) : Prop :=
  t.2.1 234 b = nI n ∧ t.2.1 234 (b + 1) = nI m ∧ (∀ j, j < nh → t.2.1 234 (b + 2 + j) = S 1 j) ∧ (∀ d, d < nd → t.2.1 236 d = S 2 d) ∧ (∀ d, d < nd → t.2.1 234 (b + 18 + d) = S 3 d) ∧ (∀ d, d < nd → t.2.1 234 (b + 6 + d) = S 4 d) ∧ (∀ d, d < nd → t.2.1 234 (b + 12 + d) = S 5 d) ∧ (∀ d, d < nd → t.2.1 234 (b + 24 + d) = S 6 d)
/-- the class's vale at v -/
def CV (v nh nd st : Nat) (V : Nat → Nat → Nat) (t : tS) : Prop :=
  t.1 v 11 = nI nh ∧ t.1 v 12 = nI nd ∧ t.1 v 13 = nI st ∧ (∀ j, j < nh → t.2.1 (v + 2) j = nI (V 2 j)) ∧ (∀ j, j < nh → t.2.1 (v + 3) j = nI (V 3 j)) ∧ (∀ d, d < nd → t.2.1 (v + 5) d = nI (V 5 d)) ∧ (∀ d, d < nd → t.2.1 (v + 6) d = nI (V 6 d)) ∧ (∀ d, d < nd → t.2.1 (v + 7) d = nI (V 7 d)) ∧ (∀ d, d < nd → t.2.1 (v + 8) d = nI (V 8 d)) ∧ (∀ d, d < nd → t.2.1 (v + 9) d = nI (V 9 d)) ∧ (∀ d, d < nd → t.2.1 (v + 10) d = nI (if V 5 d = 1 then 2 else 1))
/-- the reference's -/
def MV (nh nd st : Nat) (V : Nat → Nat → Nat) (t : tS) : Prop :=
  t.2.1 224 0 = nI nh ∧ t.2.1 224 1 = nI nd ∧ t.2.1 224 2 = nI st ∧ (∀ j, j < nh → t.2.1 224 (4 + 2 * j) = nI (V 2 j)) ∧ (∀ j, j < nh → t.2.1 224 (4 + 2 * j + 1) = nI (V 3 j)) ∧ (∀ d, d < nd → t.2.1 224 (12 + 5 * d) = nI (V 5 d)) ∧ (∀ d, d < nd → t.2.1 224 (12 + 5 * d + 1) = nI (V 6 d)) ∧ (∀ d, d < nd → t.2.1 224 (12 + 5 * d + 2) = nI (V 7 d)) ∧ (∀ d, d < nd → t.2.1 224 (12 + 5 * d + 3) = nI (V 8 d)) ∧ (∀ d, d < nd → t.2.1 224 (12 + 5 * d + 4) = nI (V 9 d))
/-- what a vale keeps to -/
def VK (nh nd st : Nat) (V : Nat → Nat → Nat) : Prop :=
  nh ≤ 4 ∧ nd ≤ 6 ∧ 1 ≤ st ∧ st ≤ 4 ∧ (∀ j, j < nh → 1 ≤ V 2 j ∧ V 2 j ≤ 6 ∧ V 3 j < 2 ^ nh) ∧ (∀ d, d < nd → V 5 d < 4 ∧ V 6 d < nh ∧ V 7 d < 12 ∧ V 8 d ≤ 40 ∧ V 9 d < 2 ^ nd) ∧ (∀ d e, d < nd → e < nd → (V 9 d).testBit e = (V 9 e).testBit d) ∧ (∀ d, d < nd → (V 9 d).testBit d = false)
/-- what a stand keeps to -/
def SK (nh nd st : Nat) (S : Nat → Nat → Int32) : Prop :=
  ∀ d, d < nd → NN (S 2 d) 12 ∧ NN (S 3 d) 100 ∧ (S 4 d = -1 ∨ NN (S 4 d) nh) ∧ NN (S 5 d) st
theorem nN_la (b k : Nat) : no_index (@OfNat.ofNat Int32 k Int32.instOfNat) + nI b = nI (@OfNat.ofNat Nat k (instOfNatNat k) + b) := nN_ad k b
theorem nN_mu (a b : Nat) : nI a * nI b = nI (a * b) := by
  unfold nI
  exact (Int32.ofNat_mul a b).symm
theorem nN_lm (b k : Nat) : no_index (@OfNat.ofNat Int32 k Int32.instOfNat) * nI b = nI (@OfNat.ofNat Nat k (instOfNatNat k) * b) := nN_mu k b
theorem nN_ml (b k : Nat) : nI b * no_index (@OfNat.ofNat Int32 k Int32.instOfNat) = nI (b * @OfNat.ofNat Nat k (instOfNatNat k)) := nN_mu b k
theorem nN_su {a b : Nat} (h : b ≤ a) : nI a - nI b = nI (a - b) := by
  have : nI a = nI (a - b) + nI b := by rw [nN_ad]; congr 1; omega
  rw [this]
  exact Int32.add_sub_cancel _ _
theorem nN_sl {a k : Nat} (h : (@OfNat.ofNat Nat k (instOfNatNat k)) ≤ a) : nI a - no_index (@OfNat.ofNat Int32 k Int32.instOfNat) = nI (a - @OfNat.ofNat Nat k (instOfNatNat k)) := nN_su h
theorem nN_and (a b : Nat) : nI a &&& nI b = nI (a &&& b) := by
  apply Int32.toBitVec_inj.1
  show BitVec.ofNat 32 a &&& BitVec.ofNat 32 b = BitVec.ofNat 32 (a &&& b)
  exact (BitVec.ofNat_and ..).symm
theorem nN_or (a b : Nat) : nI a ||| nI b = nI (a ||| b) := by
  apply Int32.toBitVec_inj.1
  show BitVec.ofNat 32 a ||| BitVec.ofNat 32 b = BitVec.ofNat 32 (a ||| b)
  exact (BitVec.ofNat_or ..).symm
theorem nN_eql {a k : Nat} (ha : a < 2147483648) (hk : (@OfNat.ofNat Nat k (instOfNatNat k)) < 2147483648) : nI a = no_index (@OfNat.ofNat Int32 k Int32.instOfNat) ↔ a = @OfNat.ofNat Nat k (instOfNatNat k) := nN_eq ha hk
theorem nN_lel {a k : Nat} (ha : a < 2147483648) (hk : (@OfNat.ofNat Nat k (instOfNatNat k)) < 2147483648) : nI a ≤ no_index (@OfNat.ofNat Int32 k Int32.instOfNat) ↔ a ≤ @OfNat.ofNat Nat k (instOfNatNat k) := nN_le ha hk
theorem nN_lle {a k : Nat} (ha : a < 2147483648) (hk : (@OfNat.ofNat Nat k (instOfNatNat k)) < 2147483648) : no_index (@OfNat.ofNat Int32 k Int32.instOfNat) ≤ nI a ↔ @OfNat.ofNat Nat k (instOfNatNat k) ≤ a := nN_le hk ha
theorem nN_ltl {a k : Nat} (ha : a < 2147483648) (hk : (@OfNat.ofNat Nat k (instOfNatNat k)) < 2147483648) : nI a < no_index (@OfNat.ofNat Int32 k Int32.instOfNat) ↔ a < @OfNat.ofNat Nat k (instOfNatNat k) := nN_lt ha hk
theorem nN_llt {a k : Nat} (ha : a < 2147483648) (hk : (@OfNat.ofNat Nat k (instOfNatNat k)) < 2147483648) : no_index (@OfNat.ofNat Int32 k Int32.instOfNat) < nI a ↔ @OfNat.ofNat Nat k (instOfNatNat k) < a := nN_lt hk ha
theorem nN_di {a b : Nat} (ha : a < 2147483648) (hb : b < 2147483648) : nI a / nI b = nI (a / b) := by
  apply Int32.toInt_inj.1
  rw [Int32.toInt_div_of_ne_left, nN_toInt ha, nN_toInt hb, nN_toInt]
  · rfl
  · exact Nat.lt_of_le_of_lt (Nat.div_le_self _ _) ha
  · intro h
    have := congrArg Int32.toInt h
    rw [nN_toInt ha] at this
    have h2 : Int32.minValue.toInt = -2147483648 := by decide
    omega
theorem nN_dv {a k : Nat} (ha : a < 2147483648) (hk : (@OfNat.ofNat Nat k (instOfNatNat k)) < 2147483648) (h0 : 0 < (@OfNat.ofNat Nat k (instOfNatNat k))) : am_dv (nI a) (no_index (@OfNat.ofNat Int32 k Int32.instOfNat)) = some (nI (a / @OfNat.ofNat Nat k (instOfNatNat k))) := by
  show am_dv (nI a) (nI k) = some (nI (a / k))
  replace hk : k < 2147483648 := hk
  replace h0 : 0 < k := h0
  unfold am_dv
  rw [if_neg, nN_di ha hk]
  intro h
  have := (nN_eq (b := 0) hk (by decide)).1 h
  omega
theorem nN_rm {a k : Nat} (ha : a < 2147483648) (hk : (@OfNat.ofNat Nat k (instOfNatNat k)) < 2147483648) (h0 : 0 < (@OfNat.ofNat Nat k (instOfNatNat k))) : am_rm' (nI a) (no_index (@OfNat.ofNat Int32 k Int32.instOfNat)) = some (nI (a % @OfNat.ofNat Nat k (instOfNatNat k))) := by
  show am_rm' (nI a) (nI k) = some (nI (a % k))
  replace hk : k < 2147483648 := hk
  replace h0 : 0 < k := h0
  unfold am_rm'
  rw [if_neg, nN_di ha hk, nN_mu, nN_su (Nat.div_mul_le_self a k)]
  · congr 2
    have := Nat.div_add_mod a k
    rw [Nat.mul_comm] at this
    omega
  · intro h
    have := (nN_eq (b := 0) hk (by decide)).1 h
    omega
theorem nN_31 {k : Nat} (h : k < 32) : nI k &&& 31 = nI k := by
  show nI k &&& nI 31 = nI k
  rw [nN_and]
  congr 1
  rw [show 31 = 2 ^ 5 - 1 from rfl, Nat.and_two_pow_sub_one_eq_mod]
  omega
theorem nN_shl {k : Nat} (h : k < 31) : (1 : Int32) <<< (nI k &&& 31) = nI (2 ^ k) := by
  have : ∀ k < 31, (1 : Int32) <<< (nI k &&& 31) = nI (2 ^ k) := by decide
  exact this k h
theorem nN_shr {a k : Nat} (ha : a < 2147483648) (h : k < 31) : nI a >>> (nI k &&& 31) = nI (a >>> k) := by
  rw [nN_31 (by omega)]
  apply Int32.toBitVec_inj.1
  rw [Int32.toBitVec_shiftRight]
  have h1 : ((nI k).toBitVec.smod 32) = BitVec.ofNat 32 k := by
    have : ∀ k < 31, ((nI k).toBitVec.smod 32) = BitVec.ofNat 32 k := by decide
    exact this k h
  rw [h1]
  apply BitVec.eq_of_toInt_eq
  have h3 : (nI a).toBitVec.toInt = (a : Int) := nN_toInt ha
  have h4 : (nI (a >>> k)).toBitVec.toInt = ((a >>> k : Nat) : Int) := nN_toInt (by
    rw [Nat.shiftRight_eq_div_pow]
    exact Nat.lt_of_le_of_lt (Nat.div_le_self _ _) ha)
  rw [BitVec.toInt_sshiftRight', h3, h4, BitVec.toNat_ofNat, Nat.mod_eq_of_lt (by omega)]
  rfl
theorem nN_bit {a k : Nat} (ha : a < 2147483648) (h : k < 31) : (nI a >>> (nI k &&& 31)) &&& 1 = nI (a.testBit k).toNat := by
  rw [nN_shr ha h]
  show nI (a >>> k) &&& nI 1 = _
  rw [nN_and]
  congr 1
  rw [Nat.and_one_is_mod, Nat.testBit_eq_decide_div_mod_eq, Nat.shiftRight_eq_div_pow]
  rcases Nat.mod_two_eq_zero_or_one (a / 2 ^ k) with h | h <;> rw [h] <;> rfl
theorem z01_0 : am_z01 (0 : Int32) = some 0 := rfl
theorem z01_1 : am_z01 (1 : Int32) = some 1 := rfl
