/-! ===== THE LAYOUT: the cells that the two constructors make, and what doesn't change of them ===== -/
abbrev ly_C : Type := (Nat × Nat × Nat) ⊕ (Nat × List (Nat ⊕ Nat))
def ly_f (ci k : Nat) (v : Value) : Nat ⊕ Nat := match v with
  | .int _ => .inl 0
  | .long _ => .inl 1
  | .ref r => if ci = 8 ∧ 9 ≤ k ∧ k ≤ 12 then .inl 2 else .inr r
  | _ => .inl 3
def ly_e (e : va_E) : ly_C := match e with
  | .inl (t, n, .inl _) => .inl (t, n, 0)
  | .inl (t, n, .inr (.inl _)) => .inl (t, n, 1)
  | .inl (t, n, _) => .inl (t, n, 2)
  | .inr (ci, fs) => .inr (ci, fs.mapIdx (ly_f ci))
def ly_0 : List ly_C := [.inr (8, [.inr 1, .inr 3, .inr 10, .inr 17, .inr 131, .inr 176, .inr 179, .inr 180, .inr 181, .inl 2, .inl 2, .inl 2, .inl 2, .inl 1]),
  .inr (6, [.inr 2, .inl 0, .inl 0, .inl 0, .inl 0, .inl 0, .inl 1, .inl 0, .inl 0]),
  .inl (2, 1000, 0),
  .inr (5, [.inr 4, .inr 5, .inr 6, .inr 7, .inr 8, .inr 9, .inl 0, .inl 0, .inl 0, .inl 0, .inl 0]),
  .inl (0, 4, 0),
  .inl (0, 6, 0),
  .inl (0, 6, 0),
  .inl (0, 6, 0),
  .inl (0, 6, 0),
  .inl (0, 6, 0),
  .inr (5, [.inr 11, .inr 12, .inr 13, .inr 14, .inr 15, .inr 16, .inl 0, .inl 0, .inl 0, .inl 0, .inl 0]),
  .inl (0, 4, 0),
  .inl (0, 6, 0),
  .inl (0, 6, 0),
  .inl (0, 6, 0),
  .inl (0, 6, 0),
  .inl (0, 6, 0),
  .inr (0, [.inr 18, .inl 0, .inl 0]),
  .inl (4, 16, 2),
  .inr (5, [.inr 20, .inr 21, .inr 22, .inr 23, .inr 24, .inr 25, .inl 0, .inl 0, .inl 0, .inl 0, .inl 0]),
  .inl (0, 4, 0),
  .inl (0, 6, 0),
  .inl (0, 6, 0),
  .inl (0, 6, 0),
  .inl (0, 6, 0),
  .inl (0, 6, 0),
  .inr (5, [.inr 27, .inr 28, .inr 29, .inr 30, .inr 31, .inr 32, .inl 0, .inl 0, .inl 0, .inl 0, .inl 0]),
  .inl (0, 4, 0),
  .inl (0, 6, 0),
  .inl (0, 6, 0),
  .inl (0, 6, 0),
  .inl (0, 6, 0),
  .inl (0, 6, 0),
  .inr (5, [.inr 34, .inr 35, .inr 36, .inr 37, .inr 38, .inr 39, .inl 0, .inl 0, .inl 0, .inl 0, .inl 0]),
  .inl (0, 4, 0),
  .inl (0, 6, 0),
  .inl (0, 6, 0),
  .inl (0, 6, 0),
  .inl (0, 6, 0),
  .inl (0, 6, 0),
  .inr (5, [.inr 41, .inr 42, .inr 43, .inr 44, .inr 45, .inr 46, .inl 0, .inl 0, .inl 0, .inl 0, .inl 0]),
  .inl (0, 4, 0),
  .inl (0, 6, 0),
  .inl (0, 6, 0),
  .inl (0, 6, 0),
  .inl (0, 6, 0),
  .inl (0, 6, 0),
  .inr (5, [.inr 48, .inr 49, .inr 50, .inr 51, .inr 52, .inr 53, .inl 0, .inl 0, .inl 0, .inl 0, .inl 0]),
  .inl (0, 4, 0),
  .inl (0, 6, 0),
  .inl (0, 6, 0),
  .inl (0, 6, 0),
  .inl (0, 6, 0),
  .inl (0, 6, 0),
  .inr (5, [.inr 55, .inr 56, .inr 57, .inr 58, .inr 59, .inr 60, .inl 0, .inl 0, .inl 0, .inl 0, .inl 0]),
  .inl (0, 4, 0),
  .inl (0, 6, 0),
  .inl (0, 6, 0),
  .inl (0, 6, 0),
  .inl (0, 6, 0),
  .inl (0, 6, 0),
  .inr (5, [.inr 62, .inr 63, .inr 64, .inr 65, .inr 66, .inr 67, .inl 0, .inl 0, .inl 0, .inl 0, .inl 0]),
  .inl (0, 4, 0),
  .inl (0, 6, 0),
  .inl (0, 6, 0),
  .inl (0, 6, 0),
  .inl (0, 6, 0),
  .inl (0, 6, 0),
  .inr (5, [.inr 69, .inr 70, .inr 71, .inr 72, .inr 73, .inr 74, .inl 0, .inl 0, .inl 0, .inl 0, .inl 0]),
  .inl (0, 4, 0),
  .inl (0, 6, 0),
  .inl (0, 6, 0),
  .inl (0, 6, 0),
  .inl (0, 6, 0),
  .inl (0, 6, 0),
  .inr (5, [.inr 76, .inr 77, .inr 78, .inr 79, .inr 80, .inr 81, .inl 0, .inl 0, .inl 0, .inl 0, .inl 0]),
  .inl (0, 4, 0),
  .inl (0, 6, 0),
  .inl (0, 6, 0),
  .inl (0, 6, 0),
  .inl (0, 6, 0),
  .inl (0, 6, 0),
  .inr (5, [.inr 83, .inr 84, .inr 85, .inr 86, .inr 87, .inr 88, .inl 0, .inl 0, .inl 0, .inl 0, .inl 0]),
  .inl (0, 4, 0),
  .inl (0, 6, 0),
  .inl (0, 6, 0),
  .inl (0, 6, 0),
  .inl (0, 6, 0),
  .inl (0, 6, 0),
  .inr (5, [.inr 90, .inr 91, .inr 92, .inr 93, .inr 94, .inr 95, .inl 0, .inl 0, .inl 0, .inl 0, .inl 0]),
  .inl (0, 4, 0),
  .inl (0, 6, 0),
  .inl (0, 6, 0),
  .inl (0, 6, 0),
  .inl (0, 6, 0),
  .inl (0, 6, 0),
  .inr (5, [.inr 97, .inr 98, .inr 99, .inr 100, .inr 101, .inr 102, .inl 0, .inl 0, .inl 0, .inl 0, .inl 0]),
  .inl (0, 4, 0),
  .inl (0, 6, 0),
  .inl (0, 6, 0),
  .inl (0, 6, 0),
  .inl (0, 6, 0),
  .inl (0, 6, 0),
  .inr (5, [.inr 104, .inr 105, .inr 106, .inr 107, .inr 108, .inr 109, .inl 0, .inl 0, .inl 0, .inl 0, .inl 0]),
  .inl (0, 4, 0),
  .inl (0, 6, 0),
  .inl (0, 6, 0),
  .inl (0, 6, 0),
  .inl (0, 6, 0),
  .inl (0, 6, 0),
  .inr (5, [.inr 111, .inr 112, .inr 113, .inr 114, .inr 115, .inr 116, .inl 0, .inl 0, .inl 0, .inl 0, .inl 0]),
  .inl (0, 4, 0),
  .inl (0, 6, 0),
  .inl (0, 6, 0),
  .inl (0, 6, 0),
  .inl (0, 6, 0),
  .inl (0, 6, 0),
  .inr (5, [.inr 118, .inr 119, .inr 120, .inr 121, .inr 122, .inr 123, .inl 0, .inl 0, .inl 0, .inl 0, .inl 0]),
  .inl (0, 4, 0),
  .inl (0, 6, 0),
  .inl (0, 6, 0),
  .inl (0, 6, 0),
  .inl (0, 6, 0),
  .inl (0, 6, 0),
  .inr (5, [.inr 125, .inr 126, .inr 127, .inr 128, .inr 129, .inr 130, .inl 0, .inl 0, .inl 0, .inl 0, .inl 0]),
  .inl (0, 4, 0),
  .inl (0, 6, 0),
  .inl (0, 6, 0),
  .inl (0, 6, 0),
  .inl (0, 6, 0),
  .inl (0, 6, 0),
  .inl (5, 4, 2),
  .inr (2, [.inr 133, .inr 140, .inl 0]),
  .inr (5, [.inr 134, .inr 135, .inr 136, .inr 137, .inr 138, .inr 139, .inl 0, .inl 0, .inl 0, .inl 0, .inl 0]),
  .inl (0, 4, 0),
  .inl (0, 6, 0),
  .inl (0, 6, 0),
  .inl (0, 6, 0),
  .inl (0, 6, 0),
  .inl (0, 6, 0),
  .inr (4, [.inr 141, .inr 142, .inl 0]),
  .inl (0, 8, 0),
  .inl (0, 8, 0),
  .inr (2, [.inr 144, .inr 151, .inl 0]),
  .inr (5, [.inr 145, .inr 146, .inr 147, .inr 148, .inr 149, .inr 150, .inl 0, .inl 0, .inl 0, .inl 0, .inl 0]),
  .inl (0, 4, 0),
  .inl (0, 6, 0),
  .inl (0, 6, 0),
  .inl (0, 6, 0),
  .inl (0, 6, 0),
  .inl (0, 6, 0),
  .inr (4, [.inr 152, .inr 153, .inl 0]),
  .inl (0, 8, 0),
  .inl (0, 8, 0),
  .inr (2, [.inr 155, .inr 162, .inl 0]),
  .inr (5, [.inr 156, .inr 157, .inr 158, .inr 159, .inr 160, .inr 161, .inl 0, .inl 0, .inl 0, .inl 0, .inl 0]),
  .inl (0, 4, 0),
  .inl (0, 6, 0),
  .inl (0, 6, 0),
  .inl (0, 6, 0),
  .inl (0, 6, 0),
  .inl (0, 6, 0),
  .inr (4, [.inr 163, .inr 164, .inl 0]),
  .inl (0, 8, 0),
  .inl (0, 8, 0),
  .inr (2, [.inr 166, .inr 173, .inl 0]),
  .inr (5, [.inr 167, .inr 168, .inr 169, .inr 170, .inr 171, .inr 172, .inl 0, .inl 0, .inl 0, .inl 0, .inl 0]),
  .inl (0, 4, 0),
  .inl (0, 6, 0),
  .inl (0, 6, 0),
  .inl (0, 6, 0),
  .inl (0, 6, 0),
  .inl (0, 6, 0),
  .inr (4, [.inr 174, .inr 175, .inl 0]),
  .inl (0, 8, 0),
  .inl (0, 8, 0),
  .inr (4, [.inr 177, .inr 178, .inl 0]),
  .inl (0, 8, 0),
  .inl (0, 8, 0),
  .inl (0, 4, 0),
  .inl (0, 4, 0),
  .inl (0, 64, 0),
  .inr (7, [.inr 183, .inr 184, .inr 185, .inr 186, .inr 187, .inr 188, .inr 189, .inr 190, .inr 191, .inr 192, .inr 193, .inl 0, .inl 0, .inl 0, .inl 0, .inl 0]),
  .inl (1, 4, 1),
  .inl (0, 4, 0),
  .inl (0, 4, 0),
  .inl (1, 6, 1),
  .inl (0, 6, 0),
  .inl (0, 6, 0),
  .inl (0, 6, 0),
  .inl (0, 6, 0),
  .inl (0, 6, 0),
  .inl (0, 6, 0),
  .inr (1, [.inr 194, .inr 195, .inl 0]),
  .inl (0, 1000, 0),
  .inl (0, 32, 0),
  .inr (7, [.inr 197, .inr 198, .inr 199, .inr 200, .inr 201, .inr 202, .inr 203, .inr 204, .inr 205, .inr 206, .inr 207, .inl 0, .inl 0, .inl 0, .inl 0, .inl 0]),
  .inl (1, 4, 1),
  .inl (0, 4, 0),
  .inl (0, 4, 0),
  .inl (1, 6, 1),
  .inl (0, 6, 0),
  .inl (0, 6, 0),
  .inl (0, 6, 0),
  .inl (0, 6, 0),
  .inl (0, 6, 0),
  .inl (0, 6, 0),
  .inr (1, [.inr 208, .inr 209, .inl 0]),
  .inl (0, 1000, 0),
  .inl (0, 32, 0),
  .inr (3, [.inr 211, .inr 212, .inr 213, .inl 0]),
  .inl (0, 40, 0),
  .inl (0, 40, 0),
  .inl (0, 40, 0),
  .inr (3, [.inr 215, .inr 216, .inr 217, .inl 0]),
  .inl (0, 40, 0),
  .inl (0, 40, 0),
  .inl (0, 40, 0),
  .inr (9, [.inl 0, .inr 219, .inl 0, .inl 0, .inr 220, .inr 221, .inr 222, .inl 0, .inl 0, .inr 223, .inr 224, .inr 225, .inr 226, .inl 0, .inr 227, .inr 228, .inr 229, .inr 230, .inl 0, .inl 0, .inl 0, .inr 231, .inr 232, .inr 233, .inr 234, .inl 0, .inr 235, .inr 236, .inl 0, .inl 0, .inr 237, .inl 1]),
  .inl (0, 1000, 0),
  .inl (0, 1002, 0),
  .inl (0, 1002, 0),
  .inl (1, 1002, 1),
  .inl (1, 25, 1),
  .inl (0, 100, 0),
  .inl (0, 2200, 0),
  .inl (0, 2200, 0),
  .inl (1, 10, 1),
  .inl (1, 10, 1),
  .inl (0, 10, 0),
  .inl (0, 10, 0),
  .inl (0, 250, 0),
  .inl (0, 4, 0),
  .inl (0, 1100, 0),
  .inl (0, 1081, 0),
  .inl (3, 4, 0),
  .inl (0, 6, 0),
  .inl (0, 6, 0),
  .inl (1, 1, 1)]
def ly_L (c : Nat) : List Nat := match c with
  | 0 => [17]
  | 1 => [193, 207]
  | 2 => [132, 143, 154, 165]
  | 3 => [210, 214]
  | 4 => [140, 151, 162, 173, 176]
  | 5 => [3, 10, 19, 26, 33, 40, 47, 54, 61, 68, 75, 82, 89, 96, 103, 110, 117, 124, 133, 144, 155, 166]
  | 6 => [1]
  | 7 => [182, 196]
  | 8 => [0]
  | 9 => [218]
  | _ => []
abbrev ly_Is (c a : Nat) : Prop := a ∈ ly_L c
theorem lc0 {a : Nat} (h : ly_Is 0 a) : ly_0[a]? = some (.inr (0, [.inr (a + 1), .inl 0, .inl 0])) := by
  have key : ∀ a ∈ ly_L 0, ly_0[a]? = some (.inr (0, [.inr (a + 1), .inl 0, .inl 0])) := by decide +kernel
  exact key a h
theorem la0_0 {a : Nat} (h : ly_Is 0 a) : ly_0[a + 1]? = some (.inl (4, 16, 2)) := by
  have key : ∀ a ∈ ly_L 0, ly_0[a + 1]? = some (.inl (4, 16, 2)) := by decide +kernel
  exact key a h
theorem lc1 {a : Nat} (h : ly_Is 1 a) : ly_0[a]? = some (.inr (1, [.inr (a + 1), .inr (a + 2), .inl 0])) := by
  have key : ∀ a ∈ ly_L 1, ly_0[a]? = some (.inr (1, [.inr (a + 1), .inr (a + 2), .inl 0])) := by decide +kernel
  exact key a h
theorem la1_0 {a : Nat} (h : ly_Is 1 a) : ly_0[a + 1]? = some (.inl (0, 1000, 0)) := by
  have key : ∀ a ∈ ly_L 1, ly_0[a + 1]? = some (.inl (0, 1000, 0)) := by decide +kernel
  exact key a h
theorem la1_1 {a : Nat} (h : ly_Is 1 a) : ly_0[a + 2]? = some (.inl (0, 32, 0)) := by
  have key : ∀ a ∈ ly_L 1, ly_0[a + 2]? = some (.inl (0, 32, 0)) := by decide +kernel
  exact key a h
theorem lc2 {a : Nat} (h : ly_Is 2 a) : ly_0[a]? = some (.inr (2, [.inr (a + 1), .inr (a + 8), .inl 0])) := by
  have key : ∀ a ∈ ly_L 2, ly_0[a]? = some (.inr (2, [.inr (a + 1), .inr (a + 8), .inl 0])) := by decide +kernel
  exact key a h
theorem li2_0 {a : Nat} (h : ly_Is 2 a) : ly_Is 5 (a + 1) := by
  have key : ∀ a ∈ ly_L 2, a + 1 ∈ ly_L 5 := by decide +kernel
  exact key a h
theorem li2_1 {a : Nat} (h : ly_Is 2 a) : ly_Is 4 (a + 8) := by
  have key : ∀ a ∈ ly_L 2, a + 8 ∈ ly_L 4 := by decide +kernel
  exact key a h
theorem lc3 {a : Nat} (h : ly_Is 3 a) : ly_0[a]? = some (.inr (3, [.inr (a + 1), .inr (a + 2), .inr (a + 3), .inl 0])) := by
  have key : ∀ a ∈ ly_L 3, ly_0[a]? = some (.inr (3, [.inr (a + 1), .inr (a + 2), .inr (a + 3), .inl 0])) := by decide +kernel
  exact key a h
theorem la3_0 {a : Nat} (h : ly_Is 3 a) : ly_0[a + 1]? = some (.inl (0, 40, 0)) := by
  have key : ∀ a ∈ ly_L 3, ly_0[a + 1]? = some (.inl (0, 40, 0)) := by decide +kernel
  exact key a h
theorem la3_1 {a : Nat} (h : ly_Is 3 a) : ly_0[a + 2]? = some (.inl (0, 40, 0)) := by
  have key : ∀ a ∈ ly_L 3, ly_0[a + 2]? = some (.inl (0, 40, 0)) := by decide +kernel
  exact key a h
theorem la3_2 {a : Nat} (h : ly_Is 3 a) : ly_0[a + 3]? = some (.inl (0, 40, 0)) := by
  have key : ∀ a ∈ ly_L 3, ly_0[a + 3]? = some (.inl (0, 40, 0)) := by decide +kernel
  exact key a h
theorem lc4 {a : Nat} (h : ly_Is 4 a) : ly_0[a]? = some (.inr (4, [.inr (a + 1), .inr (a + 2), .inl 0])) := by
  have key : ∀ a ∈ ly_L 4, ly_0[a]? = some (.inr (4, [.inr (a + 1), .inr (a + 2), .inl 0])) := by decide +kernel
  exact key a h
theorem la4_0 {a : Nat} (h : ly_Is 4 a) : ly_0[a + 1]? = some (.inl (0, 8, 0)) := by
  have key : ∀ a ∈ ly_L 4, ly_0[a + 1]? = some (.inl (0, 8, 0)) := by decide +kernel
  exact key a h
theorem la4_1 {a : Nat} (h : ly_Is 4 a) : ly_0[a + 2]? = some (.inl (0, 8, 0)) := by
  have key : ∀ a ∈ ly_L 4, ly_0[a + 2]? = some (.inl (0, 8, 0)) := by decide +kernel
  exact key a h
theorem lc5 {a : Nat} (h : ly_Is 5 a) : ly_0[a]? = some (.inr (5, [.inr (a + 1), .inr (a + 2), .inr (a + 3), .inr (a + 4), .inr (a + 5), .inr (a + 6), .inl 0, .inl 0, .inl 0, .inl 0, .inl 0])) := by
  have key : ∀ a ∈ ly_L 5, ly_0[a]? = some (.inr (5, [.inr (a + 1), .inr (a + 2), .inr (a + 3), .inr (a + 4), .inr (a + 5), .inr (a + 6), .inl 0, .inl 0, .inl 0, .inl 0, .inl 0])) := by decide +kernel
  exact key a h
theorem la5_0 {a : Nat} (h : ly_Is 5 a) : ly_0[a + 1]? = some (.inl (0, 4, 0)) := by
  have key : ∀ a ∈ ly_L 5, ly_0[a + 1]? = some (.inl (0, 4, 0)) := by decide +kernel
  exact key a h
theorem la5_1 {a : Nat} (h : ly_Is 5 a) : ly_0[a + 2]? = some (.inl (0, 6, 0)) := by
  have key : ∀ a ∈ ly_L 5, ly_0[a + 2]? = some (.inl (0, 6, 0)) := by decide +kernel
  exact key a h
theorem la5_2 {a : Nat} (h : ly_Is 5 a) : ly_0[a + 3]? = some (.inl (0, 6, 0)) := by
  have key : ∀ a ∈ ly_L 5, ly_0[a + 3]? = some (.inl (0, 6, 0)) := by decide +kernel
  exact key a h
theorem la5_3 {a : Nat} (h : ly_Is 5 a) : ly_0[a + 4]? = some (.inl (0, 6, 0)) := by
  have key : ∀ a ∈ ly_L 5, ly_0[a + 4]? = some (.inl (0, 6, 0)) := by decide +kernel
  exact key a h
theorem la5_4 {a : Nat} (h : ly_Is 5 a) : ly_0[a + 5]? = some (.inl (0, 6, 0)) := by
  have key : ∀ a ∈ ly_L 5, ly_0[a + 5]? = some (.inl (0, 6, 0)) := by decide +kernel
  exact key a h
theorem la5_5 {a : Nat} (h : ly_Is 5 a) : ly_0[a + 6]? = some (.inl (0, 6, 0)) := by
  have key : ∀ a ∈ ly_L 5, ly_0[a + 6]? = some (.inl (0, 6, 0)) := by decide +kernel
  exact key a h
theorem lc6 {a : Nat} (h : ly_Is 6 a) : ly_0[a]? = some (.inr (6, [.inr (a + 1), .inl 0, .inl 0, .inl 0, .inl 0, .inl 0, .inl 1, .inl 0, .inl 0])) := by
  have key : ∀ a ∈ ly_L 6, ly_0[a]? = some (.inr (6, [.inr (a + 1), .inl 0, .inl 0, .inl 0, .inl 0, .inl 0, .inl 1, .inl 0, .inl 0])) := by decide +kernel
  exact key a h
theorem la6_0 {a : Nat} (h : ly_Is 6 a) : ly_0[a + 1]? = some (.inl (2, 1000, 0)) := by
  have key : ∀ a ∈ ly_L 6, ly_0[a + 1]? = some (.inl (2, 1000, 0)) := by decide +kernel
  exact key a h
theorem lc7 {a : Nat} (h : ly_Is 7 a) : ly_0[a]? = some (.inr (7, [.inr (a + 1), .inr (a + 2), .inr (a + 3), .inr (a + 4), .inr (a + 5), .inr (a + 6), .inr (a + 7), .inr (a + 8), .inr (a + 9), .inr (a + 10), .inr (a + 11), .inl 0, .inl 0, .inl 0, .inl 0, .inl 0])) := by
  have key : ∀ a ∈ ly_L 7, ly_0[a]? = some (.inr (7, [.inr (a + 1), .inr (a + 2), .inr (a + 3), .inr (a + 4), .inr (a + 5), .inr (a + 6), .inr (a + 7), .inr (a + 8), .inr (a + 9), .inr (a + 10), .inr (a + 11), .inl 0, .inl 0, .inl 0, .inl 0, .inl 0])) := by decide +kernel
  exact key a h
theorem la7_0 {a : Nat} (h : ly_Is 7 a) : ly_0[a + 1]? = some (.inl (1, 4, 1)) := by
  have key : ∀ a ∈ ly_L 7, ly_0[a + 1]? = some (.inl (1, 4, 1)) := by decide +kernel
  exact key a h
theorem la7_1 {a : Nat} (h : ly_Is 7 a) : ly_0[a + 2]? = some (.inl (0, 4, 0)) := by
  have key : ∀ a ∈ ly_L 7, ly_0[a + 2]? = some (.inl (0, 4, 0)) := by decide +kernel
  exact key a h
theorem la7_2 {a : Nat} (h : ly_Is 7 a) : ly_0[a + 3]? = some (.inl (0, 4, 0)) := by
  have key : ∀ a ∈ ly_L 7, ly_0[a + 3]? = some (.inl (0, 4, 0)) := by decide +kernel
  exact key a h
theorem la7_3 {a : Nat} (h : ly_Is 7 a) : ly_0[a + 4]? = some (.inl (1, 6, 1)) := by
  have key : ∀ a ∈ ly_L 7, ly_0[a + 4]? = some (.inl (1, 6, 1)) := by decide +kernel
  exact key a h
theorem la7_4 {a : Nat} (h : ly_Is 7 a) : ly_0[a + 5]? = some (.inl (0, 6, 0)) := by
  have key : ∀ a ∈ ly_L 7, ly_0[a + 5]? = some (.inl (0, 6, 0)) := by decide +kernel
  exact key a h
theorem la7_5 {a : Nat} (h : ly_Is 7 a) : ly_0[a + 6]? = some (.inl (0, 6, 0)) := by
  have key : ∀ a ∈ ly_L 7, ly_0[a + 6]? = some (.inl (0, 6, 0)) := by decide +kernel
  exact key a h
theorem la7_6 {a : Nat} (h : ly_Is 7 a) : ly_0[a + 7]? = some (.inl (0, 6, 0)) := by
  have key : ∀ a ∈ ly_L 7, ly_0[a + 7]? = some (.inl (0, 6, 0)) := by decide +kernel
  exact key a h
theorem la7_7 {a : Nat} (h : ly_Is 7 a) : ly_0[a + 8]? = some (.inl (0, 6, 0)) := by
  have key : ∀ a ∈ ly_L 7, ly_0[a + 8]? = some (.inl (0, 6, 0)) := by decide +kernel
  exact key a h
theorem la7_8 {a : Nat} (h : ly_Is 7 a) : ly_0[a + 9]? = some (.inl (0, 6, 0)) := by
  have key : ∀ a ∈ ly_L 7, ly_0[a + 9]? = some (.inl (0, 6, 0)) := by decide +kernel
  exact key a h
theorem la7_9 {a : Nat} (h : ly_Is 7 a) : ly_0[a + 10]? = some (.inl (0, 6, 0)) := by
  have key : ∀ a ∈ ly_L 7, ly_0[a + 10]? = some (.inl (0, 6, 0)) := by decide +kernel
  exact key a h
theorem li7_10 {a : Nat} (h : ly_Is 7 a) : ly_Is 1 (a + 11) := by
  have key : ∀ a ∈ ly_L 7, a + 11 ∈ ly_L 1 := by decide +kernel
  exact key a h
theorem lc8 {a : Nat} (h : ly_Is 8 a) : ly_0[a]? = some (.inr (8, [.inr (a + 1), .inr (a + 3), .inr (a + 10), .inr (a + 17), .inr (a + 131), .inr (a + 176), .inr (a + 179), .inr (a + 180), .inr (a + 181), .inl 2, .inl 2, .inl 2, .inl 2, .inl 1])) := by
  have key : ∀ a ∈ ly_L 8, ly_0[a]? = some (.inr (8, [.inr (a + 1), .inr (a + 3), .inr (a + 10), .inr (a + 17), .inr (a + 131), .inr (a + 176), .inr (a + 179), .inr (a + 180), .inr (a + 181), .inl 2, .inl 2, .inl 2, .inl 2, .inl 1])) := by decide +kernel
  exact key a h
theorem li8_0 {a : Nat} (h : ly_Is 8 a) : ly_Is 6 (a + 1) := by
  have key : ∀ a ∈ ly_L 8, a + 1 ∈ ly_L 6 := by decide +kernel
  exact key a h
theorem li8_1 {a : Nat} (h : ly_Is 8 a) : ly_Is 5 (a + 3) := by
  have key : ∀ a ∈ ly_L 8, a + 3 ∈ ly_L 5 := by decide +kernel
  exact key a h
theorem li8_2 {a : Nat} (h : ly_Is 8 a) : ly_Is 5 (a + 10) := by
  have key : ∀ a ∈ ly_L 8, a + 10 ∈ ly_L 5 := by decide +kernel
  exact key a h
theorem li8_3 {a : Nat} (h : ly_Is 8 a) : ly_Is 0 (a + 17) := by
  have key : ∀ a ∈ ly_L 8, a + 17 ∈ ly_L 0 := by decide +kernel
  exact key a h
theorem la8_4 {a : Nat} (h : ly_Is 8 a) : ly_0[a + 131]? = some (.inl (5, 4, 2)) := by
  have key : ∀ a ∈ ly_L 8, ly_0[a + 131]? = some (.inl (5, 4, 2)) := by decide +kernel
  exact key a h
theorem li8_5 {a : Nat} (h : ly_Is 8 a) : ly_Is 4 (a + 176) := by
  have key : ∀ a ∈ ly_L 8, a + 176 ∈ ly_L 4 := by decide +kernel
  exact key a h
theorem la8_6 {a : Nat} (h : ly_Is 8 a) : ly_0[a + 179]? = some (.inl (0, 4, 0)) := by
  have key : ∀ a ∈ ly_L 8, ly_0[a + 179]? = some (.inl (0, 4, 0)) := by decide +kernel
  exact key a h
theorem la8_7 {a : Nat} (h : ly_Is 8 a) : ly_0[a + 180]? = some (.inl (0, 4, 0)) := by
  have key : ∀ a ∈ ly_L 8, ly_0[a + 180]? = some (.inl (0, 4, 0)) := by decide +kernel
  exact key a h
theorem la8_8 {a : Nat} (h : ly_Is 8 a) : ly_0[a + 181]? = some (.inl (0, 64, 0)) := by
  have key : ∀ a ∈ ly_L 8, ly_0[a + 181]? = some (.inl (0, 64, 0)) := by decide +kernel
  exact key a h
theorem lc9 {a : Nat} (h : ly_Is 9 a) : ly_0[a]? = some (.inr (9, [.inl 0, .inr (a + 1), .inl 0, .inl 0, .inr (a + 2), .inr (a + 3), .inr (a + 4), .inl 0, .inl 0, .inr (a + 5), .inr (a + 6), .inr (a + 7), .inr (a + 8), .inl 0, .inr (a + 9), .inr (a + 10), .inr (a + 11), .inr (a + 12), .inl 0, .inl 0, .inl 0, .inr (a + 13), .inr (a + 14), .inr (a + 15), .inr (a + 16), .inl 0, .inr (a + 17), .inr (a + 18), .inl 0, .inl 0, .inr (a + 19), .inl 1])) := by
  have key : ∀ a ∈ ly_L 9, ly_0[a]? = some (.inr (9, [.inl 0, .inr (a + 1), .inl 0, .inl 0, .inr (a + 2), .inr (a + 3), .inr (a + 4), .inl 0, .inl 0, .inr (a + 5), .inr (a + 6), .inr (a + 7), .inr (a + 8), .inl 0, .inr (a + 9), .inr (a + 10), .inr (a + 11), .inr (a + 12), .inl 0, .inl 0, .inl 0, .inr (a + 13), .inr (a + 14), .inr (a + 15), .inr (a + 16), .inl 0, .inr (a + 17), .inr (a + 18), .inl 0, .inl 0, .inr (a + 19), .inl 1])) := by decide +kernel
  exact key a h
theorem la9_1 {a : Nat} (h : ly_Is 9 a) : ly_0[a + 1]? = some (.inl (0, 1000, 0)) := by
  have key : ∀ a ∈ ly_L 9, ly_0[a + 1]? = some (.inl (0, 1000, 0)) := by decide +kernel
  exact key a h
theorem la9_4 {a : Nat} (h : ly_Is 9 a) : ly_0[a + 2]? = some (.inl (0, 1002, 0)) := by
  have key : ∀ a ∈ ly_L 9, ly_0[a + 2]? = some (.inl (0, 1002, 0)) := by decide +kernel
  exact key a h
theorem la9_5 {a : Nat} (h : ly_Is 9 a) : ly_0[a + 3]? = some (.inl (0, 1002, 0)) := by
  have key : ∀ a ∈ ly_L 9, ly_0[a + 3]? = some (.inl (0, 1002, 0)) := by decide +kernel
  exact key a h
theorem la9_6 {a : Nat} (h : ly_Is 9 a) : ly_0[a + 4]? = some (.inl (1, 1002, 1)) := by
  have key : ∀ a ∈ ly_L 9, ly_0[a + 4]? = some (.inl (1, 1002, 1)) := by decide +kernel
  exact key a h
theorem la9_9 {a : Nat} (h : ly_Is 9 a) : ly_0[a + 5]? = some (.inl (1, 25, 1)) := by
  have key : ∀ a ∈ ly_L 9, ly_0[a + 5]? = some (.inl (1, 25, 1)) := by decide +kernel
  exact key a h
theorem la9_10 {a : Nat} (h : ly_Is 9 a) : ly_0[a + 6]? = some (.inl (0, 100, 0)) := by
  have key : ∀ a ∈ ly_L 9, ly_0[a + 6]? = some (.inl (0, 100, 0)) := by decide +kernel
  exact key a h
theorem la9_11 {a : Nat} (h : ly_Is 9 a) : ly_0[a + 7]? = some (.inl (0, 2200, 0)) := by
  have key : ∀ a ∈ ly_L 9, ly_0[a + 7]? = some (.inl (0, 2200, 0)) := by decide +kernel
  exact key a h
theorem la9_12 {a : Nat} (h : ly_Is 9 a) : ly_0[a + 8]? = some (.inl (0, 2200, 0)) := by
  have key : ∀ a ∈ ly_L 9, ly_0[a + 8]? = some (.inl (0, 2200, 0)) := by decide +kernel
  exact key a h
theorem la9_14 {a : Nat} (h : ly_Is 9 a) : ly_0[a + 9]? = some (.inl (1, 10, 1)) := by
  have key : ∀ a ∈ ly_L 9, ly_0[a + 9]? = some (.inl (1, 10, 1)) := by decide +kernel
  exact key a h
theorem la9_15 {a : Nat} (h : ly_Is 9 a) : ly_0[a + 10]? = some (.inl (1, 10, 1)) := by
  have key : ∀ a ∈ ly_L 9, ly_0[a + 10]? = some (.inl (1, 10, 1)) := by decide +kernel
  exact key a h
theorem la9_16 {a : Nat} (h : ly_Is 9 a) : ly_0[a + 11]? = some (.inl (0, 10, 0)) := by
  have key : ∀ a ∈ ly_L 9, ly_0[a + 11]? = some (.inl (0, 10, 0)) := by decide +kernel
  exact key a h
theorem la9_17 {a : Nat} (h : ly_Is 9 a) : ly_0[a + 12]? = some (.inl (0, 10, 0)) := by
  have key : ∀ a ∈ ly_L 9, ly_0[a + 12]? = some (.inl (0, 10, 0)) := by decide +kernel
  exact key a h
theorem la9_21 {a : Nat} (h : ly_Is 9 a) : ly_0[a + 13]? = some (.inl (0, 250, 0)) := by
  have key : ∀ a ∈ ly_L 9, ly_0[a + 13]? = some (.inl (0, 250, 0)) := by decide +kernel
  exact key a h
theorem la9_22 {a : Nat} (h : ly_Is 9 a) : ly_0[a + 14]? = some (.inl (0, 4, 0)) := by
  have key : ∀ a ∈ ly_L 9, ly_0[a + 14]? = some (.inl (0, 4, 0)) := by decide +kernel
  exact key a h
theorem la9_23 {a : Nat} (h : ly_Is 9 a) : ly_0[a + 15]? = some (.inl (0, 1100, 0)) := by
  have key : ∀ a ∈ ly_L 9, ly_0[a + 15]? = some (.inl (0, 1100, 0)) := by decide +kernel
  exact key a h
theorem la9_24 {a : Nat} (h : ly_Is 9 a) : ly_0[a + 16]? = some (.inl (0, 1081, 0)) := by
  have key : ∀ a ∈ ly_L 9, ly_0[a + 16]? = some (.inl (0, 1081, 0)) := by decide +kernel
  exact key a h
theorem la9_26 {a : Nat} (h : ly_Is 9 a) : ly_0[a + 17]? = some (.inl (3, 4, 0)) := by
  have key : ∀ a ∈ ly_L 9, ly_0[a + 17]? = some (.inl (3, 4, 0)) := by decide +kernel
  exact key a h
theorem la9_27 {a : Nat} (h : ly_Is 9 a) : ly_0[a + 18]? = some (.inl (0, 6, 0)) := by
  have key : ∀ a ∈ ly_L 9, ly_0[a + 18]? = some (.inl (0, 6, 0)) := by decide +kernel
  exact key a h
theorem la9_30 {a : Nat} (h : ly_Is 9 a) : ly_0[a + 19]? = some (.inl (0, 6, 0)) := by
  have key : ∀ a ∈ ly_L 9, ly_0[a + 19]? = some (.inl (0, 6, 0)) := by decide +kernel
  exact key a h
theorem li0_s {a i : Nat} (h : ly_Is 0 a) (hi : i < 16) : ly_Is 5 (a + 2 + 7 * i) := by
  have key : ∀ a ∈ ly_L 0, ∀ i, i < 16 → a + 2 + 7 * i ∈ ly_L 5 := by decide +kernel
  exact key a h i hi
theorem li8_m {i : Nat} (hi : i < 4) : ly_Is 2 (132 + 11 * i) := by
  have key : ∀ i, i < 4 → 132 + 11 * i ∈ ly_L 2 := by decide +kernel
  exact key i hi
/-! what a heap holds -/
def vI (h : am_H) (a k : Nat) : Int32 := match h[a]? with
  | some (.inr (_, fs)) => (match fs[k]? with
    | some (.int x) => x
    | _ => 0)
  | _ => 0
def vJ (h : am_H) (a k : Nat) : Int64 := match h[a]? with
  | some (.inr (_, fs)) => (match fs[k]? with
    | some (.long x) => x
    | _ => 0)
  | _ => 0
def vR (h : am_H) (a k : Nat) : Nat := match h[a]? with
  | some (.inr (_, fs)) => (match fs[k]? with
    | some (.ref x) => x
    | _ => 0)
  | _ => 0
def vA (h : am_H) (a i : Nat) : Int32 := match h[a]? with
  | some (.inl (_, _, .inl f)) => f i
  | _ => 0
def vB (h : am_H) (a i : Nat) : Int64 := match h[a]? with
  | some (.inl (_, _, .inr (.inl f))) => f i
  | _ => 0
/-- ints of objects, int arrays, long arrays, longs of objects, references that change -/
abbrev tS : Type := (Nat → Nat → Int32) × (Nat → Nat → Int32) × (Nat → Nat → Int64) × (Nat → Nat → Int64) × (Nat → Nat → Nat)
def Vw (h : am_H) : tS := (vI h, vA h, vB h, vJ h, vR h)
def up2 {α : Type} (f : Nat → Nat → α) (a k : Nat) (x : α) : Nat → Nat → α := fun b j => if b = a ∧ j = k then x else f b j
def up1 {α : Type} (f : Nat → Nat → α) (a : Nat) (g : Nat → α) : Nat → Nat → α := fun b => if b = a then g else f b
def uI (t : tS) (a k : Nat) (x : Int32) : tS := (up2 t.1 a k x, t.2)
def uA (t : tS) (a i : Nat) (x : Int32) : tS := (t.1, up2 t.2.1 a i x, t.2.2)
def uF (t : tS) (a : Nat) (g : Nat → Int32) : tS := (t.1, up1 t.2.1 a g, t.2.2)
def uB (t : tS) (a i : Nat) (x : Int64) : tS := (t.1, t.2.1, up2 t.2.2.1 a i x, t.2.2.2)
def uJ (t : tS) (a k : Nat) (x : Int64) : tS := (t.1, t.2.1, t.2.2.1, up2 t.2.2.2.1 a k x, t.2.2.2.2)
def uR (t : tS) (a k : Nat) (x : Nat) : tS := (t.1, t.2.1, t.2.2.1, t.2.2.2.1, up2 t.2.2.2.2 a k x)
def ly_D (k : Nat) : Nat := if k ≤ 10 then 7 else 3
def Lay (h : am_H) : Prop := (∀ (j : Nat) (s : ly_C), ly_0[j]? = some s → (h[j]?).map ly_e = some s) ∧ (∀ i, i < 16 → am_aR h 18 (nI i) = some (19 + 7 * i)) ∧ (∀ i, i < 4 → am_aR h 131 (nI i) = some (132 + 11 * i)) ∧ ∀ k, 9 ≤ k → k ≤ 12 → ∃ r, am_gR h 0 8 k = some r ∧ ly_Is (ly_D k) r
def Rp (h : am_H) (t : tS) : Prop := Lay h ∧ t = Vw h
theorem Lay.at {h : am_H} (hL : Lay h) {j : Nat} {s : ly_C} (hs : ly_0[j]? = some s) : ∃ e, h[j]? = some e ∧ ly_e e = s := by
  have := hL.1 j s hs
  obtain ⟨e, h1, h2⟩ := Option.map_eq_some_iff.mp this
  exact ⟨e, h1, h2⟩
theorem Lay.ob {h : am_H} (hL : Lay h) {a ci : Nat} {ks : List (Nat ⊕ Nat)} (hs : ly_0[a]? = some (.inr (ci, ks))) : ∃ fs, h[a]? = some (.inr (ci, fs)) ∧ fs.mapIdx (ly_f ci) = ks := by
  obtain ⟨e, h1, h2⟩ := hL.at hs
  rcases e with ⟨t, n, b⟩ | ⟨c, fs⟩
  · rcases b with b | b | b | b | b <;> cases h2
  · simp only [ly_e, Sum.inr.injEq, Prod.mk.injEq] at h2
    obtain ⟨rfl, h2⟩ := h2
    exact ⟨fs, h1, h2⟩
theorem ly_fld {ci k : Nat} {fs : List Value} {ks : List (Nat ⊕ Nat)} (h : fs.mapIdx (ly_f ci) = ks) {s : Nat ⊕ Nat} (hk : ks[k]? = some s) : ∃ v, fs[k]? = some v ∧ ly_f ci k v = s := by
  rw [← h, List.getElem?_mapIdx] at hk
  obtain ⟨v, h1, h2⟩ := Option.map_eq_some_iff.mp hk
  exact ⟨v, h1, h2⟩
theorem Lay.a0 {h : am_H} (hL : Lay h) {a tg n : Nat} (hs : ly_0[a]? = some (.inl (tg, n, 0))) : ∃ f, h[a]? = some (.inl (tg, n, .inl f)) := by
  obtain ⟨e, h1, h2⟩ := hL.at hs
  rcases e with ⟨t, n, b⟩ | ⟨c, fs⟩
  · rcases b with b | b | b | b | b <;> first | (cases h2; exact ⟨_, h1⟩) | cases h2
  · cases h2
theorem Lay.a1 {h : am_H} (hL : Lay h) {a tg n : Nat} (hs : ly_0[a]? = some (.inl (tg, n, 1))) : ∃ f, h[a]? = some (.inl (tg, n, .inr (.inl f))) := by
  obtain ⟨e, h1, h2⟩ := hL.at hs
  rcases e with ⟨t, n, b⟩ | ⟨c, fs⟩
  · rcases b with b | b | b | b | b <;> first | (cases h2; exact ⟨_, h1⟩) | cases h2
  · cases h2
section RP
variable {h : am_H} {t : tS}
theorem r_isO (hR : Rp h t) {a ci : Nat} {ks : List (Nat ⊕ Nat)} (hl : ly_0[a]? = some (.inr (ci, ks))) : am_isO h a ci = some () := by
  obtain ⟨fs, h1, -⟩ := hR.1.ob hl
  simp [am_isO, h1]
theorem r_gI (hR : Rp h t) {a ci k : Nat} {ks : List (Nat ⊕ Nat)} (hl : ly_0[a]? = some (.inr (ci, ks))) (hk : ks[k]? = some (.inl 0)) : am_gI h a ci k = some (t.1 a k) := by
  obtain ⟨fs, h1, h2⟩ := hR.1.ob hl
  obtain ⟨v, h3, h4⟩ := ly_fld h2 hk
  rw [hR.2]
  cases v <;> simp [ly_f] at h4
  · simp [am_gI, am_gF, h1, h3, Vw, vI]
  · split at h4 <;> simp at h4
theorem r_gL (hR : Rp h t) {a ci k : Nat} {ks : List (Nat ⊕ Nat)} (hl : ly_0[a]? = some (.inr (ci, ks))) (hk : ks[k]? = some (.inl 1)) : am_gL h a ci k = some (t.2.2.2.1 a k) := by
  obtain ⟨fs, h1, h2⟩ := hR.1.ob hl
  obtain ⟨v, h3, h4⟩ := ly_fld h2 hk
  rw [hR.2]
  cases v <;> simp [ly_f] at h4
  · simp [am_gL, am_gF, h1, h3, Vw, vJ]
  · split at h4 <;> simp at h4
theorem r_gR (hR : Rp h t) {a ci k r : Nat} {ks : List (Nat ⊕ Nat)} (hl : ly_0[a]? = some (.inr (ci, ks))) (hk : ks[k]? = some (.inr r)) : am_gR h a ci k = some r := by
  obtain ⟨fs, h1, h2⟩ := hR.1.ob hl
  obtain ⟨v, h3, h4⟩ := ly_fld h2 hk
  cases v <;> simp [ly_f] at h4
  split at h4
  · cases h4
  · cases h4
    simp [am_gR, am_gF, h1, h3]
theorem r_gD (hR : Rp h t) {k : Nat} (h1 : 9 ≤ k) (h2 : k ≤ 12) : am_gR h 0 8 k = some (t.2.2.2.2 0 k) ∧ ly_Is (ly_D k) (t.2.2.2.2 0 k) := by
  obtain ⟨r, h3, h4⟩ := hR.1.2.2.2 k h1 h2
  have : t.2.2.2.2 0 k = r := by
    rw [hR.2]
    have h5 := am_gR_ok h3
    obtain ⟨fs, h6, h7⟩ := am_gF_ok h5
    simp [Vw, vR, h6, h7]
  rw [this]
  exact ⟨h3, h4⟩
def tA (t : tS) (a n : Nat) (i : Int32) : Option Int32 := if ¬ (i < 0 ∨ n ≤ i.toNatClampNeg) then some (t.2.1 a i.toNatClampNeg) else none
def tB (t : tS) (a n : Nat) (i : Int32) : Option Int64 := if ¬ (i < 0 ∨ n ≤ i.toNatClampNeg) then some (t.2.2.1 a i.toNatClampNeg) else none
def tQ (base step n : Nat) (i : Int32) : Option Nat := if ¬ (i < 0 ∨ n ≤ i.toNatClampNeg) then some (base + step * i.toNatClampNeg) else none
def tWA (t : tS) (tg a n : Nat) (i x : Int32) : Option tS := if ¬ (i < 0 ∨ n ≤ i.toNatClampNeg) then some (uA t a i.toNatClampNeg (am_nar tg x)) else none
def tWB (t : tS) (a n : Nat) (i : Int32) (x : Int64) : Option tS := if ¬ (i < 0 ∨ n ≤ i.toNatClampNeg) then some (uB t a i.toNatClampNeg x) else none
def tWC (t : tS) (a0 n0 : Nat) (sp : Int32) (a1 n1 : Nat) (dp n : Int32) : Option tS := if ¬ sp < 0 ∧ ¬ dp < 0 ∧ ¬ n < 0 ∧ sp.toNatClampNeg + n.toNatClampNeg ≤ n0 ∧ dp.toNatClampNeg + n.toNatClampNeg ≤ n1 then some (uF t a1 (va_cpy (t.2.1 a0) (t.2.1 a1) sp.toNatClampNeg dp.toNatClampNeg n.toNatClampNeg)) else none
theorem r_aI (hR : Rp h t) {a tg n : Nat} {i x : Int32} (hl : ly_0[a]? = some (.inl (tg, n, 0))) (e : tA t a n i = some x) : am_aI h tg a i = some x := by
  obtain ⟨f, h1⟩ := hR.1.a0 hl
  unfold tA at e
  split at e
  · rename_i hin
    cases e
    have e1 : am_aI h tg a i = some (f i.toNatClampNeg) := by unfold am_aI; rw [h1]; exact if_pos ⟨rfl, hin⟩
    rw [e1, hR.2]
    simp [Vw, vA, h1]
  · cases e
theorem r_aL (hR : Rp h t) {a n : Nat} {i : Int32} {x : Int64} (hl : ly_0[a]? = some (.inl (1, n, 1))) (e : tB t a n i = some x) : am_aL h a i = some x := by
  obtain ⟨f, h1⟩ := hR.1.a1 hl
  unfold tB at e
  split at e
  · rename_i hin
    cases e
    have e1 : am_aL h a i = some (f i.toNatClampNeg) := by unfold am_aL; rw [h1]; exact if_pos ⟨rfl, hin⟩
    rw [e1, hR.2]
    simp [Vw, vB, h1]
  · cases e
theorem ly_ix {i : Int32} {n : Nat} (hn : n < 2 ^ 31) (h : ¬ (i < 0 ∨ n ≤ i.toNatClampNeg)) : i.toNatClampNeg < n ∧ i = nI i.toNatClampNeg := by
  obtain ⟨j, hj, rfl⟩ := vp_in_of (x := i) (n := n) h hn
  rw [nI_clamp (by omega)]
  exact ⟨hj, rfl⟩
theorem r_aQ (hR : Rp h t) {i : Int32} {x : Nat} (e : tQ 19 7 16 i = some x) : am_aR h 18 i = some x ∧ ly_Is 5 x := by
  unfold tQ at e
  split at e
  · rename_i hin
    cases e
    obtain ⟨h1, h2⟩ := ly_ix (by decide) hin
    refine ⟨?_, li0_s (a := 17) (by decide) h1⟩
    have := hR.1.2.1 _ h1
    rw [← h2] at this
    exact this
  · cases e
theorem r_aM (hR : Rp h t) {i : Int32} {x : Nat} (e : tQ 132 11 4 i = some x) : am_aR h 131 i = some x ∧ ly_Is 2 x := by
  unfold tQ at e
  split at e
  · rename_i hin
    cases e
    obtain ⟨h1, h2⟩ := ly_ix (by decide) hin
    refine ⟨?_, li8_m h1⟩
    have := hR.1.2.2.1 _ h1
    rw [← h2] at this
    exact this
  · cases e
theorem r_len (hR : Rp h t) {a tg n k : Nat} (hl : ly_0[a]? = some (.inl (tg, n, k))) (ht : tg < 6) : am_len h a = some (Int32.ofNat n) := by
  obtain ⟨e, h1, h2⟩ := hR.1.at hl
  rcases e with ⟨t', n', b⟩ | ⟨c, fs⟩
  · have : t' = tg ∧ n' = n := by
      rcases b with b | b | b | b | b <;> (simp only [ly_e, Sum.inl.injEq, Prod.mk.injEq] at h2; exact ⟨h2.1, h2.2.1⟩)
    obtain ⟨rfl, rfl⟩ := this
    simp [am_len, h1, ht]
  · cases h2
/-- a cell is written that keeps its form -/
theorem ly_set (hL : Lay h) {a : Nat} {e e' : va_E} (he : h[a]? = some e) (hs : ly_e e' = ly_e e) (ha : a ≠ 18 ∧ a ≠ 131) (hd : a = 0 → ∀ k, 9 ≤ k → k ≤ 12 → ∃ r, am_gR (h.set a e') 0 8 k = some r ∧ ly_Is (ly_D k) r) : Lay (h.set a e') := by
  have hl := (List.getElem?_eq_some_iff.mp he).1
  refine ⟨fun j s hj => ?_, fun i hi => ?_, fun i hi => ?_, fun k h1 h2 => ?_⟩
  · by_cases hja : a = j
    · subst hja
      have := hL.1 _ _ hj
      rw [he] at this
      rw [List.getElem?_set_self hl, ← this, Option.map_some, Option.map_some, hs]
    · rw [List.getElem?_set_ne hja]
      exact hL.1 _ _ hj
  · have h3 : (h.set a e')[18]? = h[18]? := List.getElem?_set_ne ha.1
    have := hL.2.1 i hi
    unfold am_aR at this ⊢
    rw [h3]
    exact this
  · have h3 : (h.set a e')[131]? = h[131]? := List.getElem?_set_ne ha.2
    have := hL.2.2.1 i hi
    unfold am_aR at this ⊢
    rw [h3]
    exact this
  · by_cases h0 : a = 0
    · exact hd h0 k h1 h2
    · have h3 : (h.set a e')[0]? = h[0]? := List.getElem?_set_ne h0
      have := hL.2.2.2 k h1 h2
      unfold am_gR am_gF at this ⊢
      rw [h3]
      exact this
theorem ly_n18 {a tg n k : Nat} (hl : ly_0[a]? = some (.inl (tg, n, k))) (hk : k < 2) : a ≠ 18 ∧ a ≠ 131 := by
  refine ⟨fun z => ?_, fun z => ?_⟩ <;> (subst z; cases hl; exact absurd hk (by decide))
theorem ly_o18 {a ci : Nat} {ks : List (Nat ⊕ Nat)} (hl : ly_0[a]? = some (.inr (ci, ks))) : a ≠ 18 ∧ a ≠ 131 := by
  refine ⟨fun z => ?_, fun z => ?_⟩ <;> (subst z; cases hl)
theorem ly_a0 {a tg n k : Nat} (hl : ly_0[a]? = some (.inl (tg, n, k))) : a ≠ 0 := by
  intro z; subst z; cases hl
theorem r_sI (hR : Rp h t) {a tg n : Nat} {i x : Int32} {t' : tS} (hl : ly_0[a]? = some (.inl (tg, n, 0))) (e : tWA t tg a n i x = some t') : ∃ h', am_sI h tg a i x = some h' ∧ Rp h' t' := by
  obtain ⟨f, h1⟩ := hR.1.a0 hl
  unfold tWA at e
  split at e
  · rename_i hin
    cases e
    refine ⟨h.set a (.inl (tg, n, .inl (upd f i.toNatClampNeg (am_nar tg x)))), by unfold am_sI; rw [h1]; exact if_pos ⟨rfl, hin⟩, ly_set hR.1 h1 rfl (ly_n18 hl (by decide)) (fun z => absurd z (ly_a0 hl)), ?_⟩
    have hl2 := (List.getElem?_eq_some_iff.mp h1).1
    rw [hR.2]
    have key : ∀ b : Nat, b ≠ a → (h.set a (.inl (tg, n, .inl (upd f i.toNatClampNeg (am_nar tg x)))))[b]? = h[b]? := fun b hb => List.getElem?_set_ne (Ne.symm hb)
    have key2 : (h.set a (.inl (tg, n, .inl (upd f i.toNatClampNeg (am_nar tg x)))))[a]? = some (.inl (tg, n, .inl (upd f i.toNatClampNeg (am_nar tg x)))) := List.getElem?_set_self hl2
    simp only [uA, Vw, Prod.mk.injEq]
    refine ⟨?_, ?_, ?_, ?_, ?_⟩ <;> funext b j <;> by_cases hb : b = a
    · subst hb
      simp only [vI, key2, h1]
    · simp only [vI, key b hb]
    · subst hb
      simp only [vA, key2, h1, up2, upd, true_and]
    · simp only [vA, key b hb, up2, hb, false_and, if_false]
    · subst hb
      simp only [vB, key2, h1]
    · simp only [vB, key b hb]
    · subst hb
      simp only [vJ, key2, h1]
    · simp only [vJ, key b hb]
    · subst hb
      simp only [vR, key2, h1]
    · simp only [vR, key b hb]
  · cases e
theorem r_sL (hR : Rp h t) {a n : Nat} {i : Int32} {x : Int64} {t' : tS} (hl : ly_0[a]? = some (.inl (1, n, 1))) (e : tWB t a n i x = some t') : ∃ h', am_sL h a i x = some h' ∧ Rp h' t' := by
  obtain ⟨f, h1⟩ := hR.1.a1 hl
  unfold tWB at e
  split at e
  · rename_i hin
    cases e
    refine ⟨h.set a (.inl (1, n, .inr (.inl (vp_updL f i.toNatClampNeg x)))), by unfold am_sL; rw [h1]; exact if_pos ⟨rfl, hin⟩, ly_set hR.1 h1 rfl (ly_n18 hl (by decide)) (fun z => absurd z (ly_a0 hl)), ?_⟩
    have hl2 := (List.getElem?_eq_some_iff.mp h1).1
    rw [hR.2]
    have key : ∀ b : Nat, b ≠ a → (h.set a (.inl (1, n, .inr (.inl (vp_updL f i.toNatClampNeg x)))))[b]? = h[b]? := fun b hb => List.getElem?_set_ne (Ne.symm hb)
    have key2 : (h.set a (.inl (1, n, .inr (.inl (vp_updL f i.toNatClampNeg x)))))[a]? = some (.inl (1, n, .inr (.inl (vp_updL f i.toNatClampNeg x)))) := List.getElem?_set_self hl2
    simp only [uB, Vw, Prod.mk.injEq]
    refine ⟨?_, ?_, ?_, ?_, ?_⟩ <;> funext b j <;> by_cases hb : b = a
    · subst hb
      simp only [vI, key2, h1]
    · simp only [vI, key b hb]
    · subst hb
      simp only [vA, key2, h1]
    · simp only [vA, key b hb]
    · subst hb
      simp only [vB, key2, h1, up2, vp_updL, true_and]
    · simp only [vB, key b hb, up2, hb, false_and, if_false]
    · subst hb
      simp only [vJ, key2, h1]
    · simp only [vJ, key b hb]
    · subst hb
      simp only [vR, key2, h1]
    · simp only [vR, key b hb]
  · cases e
theorem r_cp (hR : Rp h t) {a0 n0 a1 n1 : Nat} {sp dp n : Int32} {t' : tS} (hl0 : ly_0[a0]? = some (.inl (0, n0, 0))) (hl1 : ly_0[a1]? = some (.inl (0, n1, 0))) (e : tWC t a0 n0 sp a1 n1 dp n = some t') : ∃ h', am_cp h a0 sp a1 dp n = some h' ∧ Rp h' t' := by
  obtain ⟨f, h0⟩ := hR.1.a0 hl0
  obtain ⟨g, h1⟩ := hR.1.a0 hl1
  unfold tWC at e
  split at e
  · rename_i hin
    cases e
    refine ⟨h.set a1 (.inl (0, n1, .inl (va_cpy f g sp.toNatClampNeg dp.toNatClampNeg n.toNatClampNeg))), by unfold am_cp; rw [h0, h1]; exact if_pos ⟨rfl, rfl, hin⟩, ly_set hR.1 h1 rfl (ly_n18 hl1 (by decide)) (fun z => absurd z (ly_a0 hl1)), ?_⟩
    have hl2 := (List.getElem?_eq_some_iff.mp h1).1
    have ef : vA h a0 = f := by funext j; simp [vA, h0]
    have eg : vA h a1 = g := by funext j; simp [vA, h1]
    rw [hR.2]
    have key : ∀ b : Nat, b ≠ a1 → (h.set a1 (.inl (0, n1, .inl (va_cpy f g sp.toNatClampNeg dp.toNatClampNeg n.toNatClampNeg))))[b]? = h[b]? := fun b hb => List.getElem?_set_ne (Ne.symm hb)
    have key2 : (h.set a1 (.inl (0, n1, .inl (va_cpy f g sp.toNatClampNeg dp.toNatClampNeg n.toNatClampNeg))))[a1]? = some (.inl (0, n1, .inl (va_cpy f g sp.toNatClampNeg dp.toNatClampNeg n.toNatClampNeg))) := List.getElem?_set_self hl2
    simp only [uF, Vw, Prod.mk.injEq, ef, eg]
    refine ⟨?_, ?_, ?_, ?_, ?_⟩ <;> funext b j <;> by_cases hb : b = a1
    · subst hb
      simp only [vI, key2, h1]
    · simp only [vI, key b hb]
    · subst hb
      simp only [vA, key2, up1, if_true]
    · simp only [vA, key b hb, up1, hb, false_and, if_false]
    · subst hb
      simp only [vB, key2, h1]
    · simp only [vB, key b hb]
    · subst hb
      simp only [vJ, key2, h1]
    · simp only [vJ, key b hb]
    · subst hb
      simp only [vR, key2, h1]
    · simp only [vR, key b hb]
  · cases e
theorem ly_pf {ci k : Nat} {fs : List Value} {v w : Value} (hk : fs[k]? = some w) (hw : ly_f ci k v = ly_f ci k w) : (fs.set k v).mapIdx (ly_f ci) = fs.mapIdx (ly_f ci) := by
  apply List.ext_getElem?
  intro j
  rw [List.getElem?_mapIdx, List.getElem?_mapIdx]
  have hl := (List.getElem?_eq_some_iff.mp hk).1
  by_cases hj : k = j
  · subst hj
    rw [List.getElem?_set_self hl, hk, Option.map_some, Option.map_some, hw]
  · rw [List.getElem?_set_ne hj]
theorem ly_pd {h : am_H} (hL : Lay h) {a k ci : Nat} {fs : List Value} {v : Value} (h1 : h[a]? = some (.inr (ci, fs))) (hk : a = 0 → ¬ (9 ≤ k ∧ k ≤ 12)) : a = 0 → ∀ k', 9 ≤ k' → k' ≤ 12 → ∃ r, am_gR (h.set a (.inr (ci, fs.set k v))) 0 8 k' = some r ∧ ly_Is (ly_D k') r := by
  intro ha k' g1 g2
  subst ha
  obtain ⟨r, h3, h4⟩ := hL.2.2.2 k' g1 g2
  refine ⟨r, ?_, h4⟩
  have hl2 := (List.getElem?_eq_some_iff.mp h1).1
  have hne : k ≠ k' := fun z => hk rfl ⟨by omega, by omega⟩
  have h5 := am_gR_ok h3
  unfold am_gR am_gF
  unfold am_gF at h5
  rw [List.getElem?_set_self hl2]
  rw [h1] at h5
  simp only at h5 ⊢
  rw [List.getElem?_set_ne hne, h5]
theorem r_pI (hR : Rp h t) {a ci k : Nat} {x : Int32} {ks : List (Nat ⊕ Nat)} (hl : ly_0[a]? = some (.inr (ci, ks))) (hk : ks[k]? = some (.inl 0)) (hf : am_fit (am_fty ci k) (.int x) = true) : ∃ h', am_pF h a ci k (.int x) = some h' ∧ Rp h' (uI t a k x) := by
  obtain ⟨fs, h1, h2⟩ := hR.1.ob hl
  obtain ⟨v, h3, h4⟩ := ly_fld h2 hk
  have hkl := (List.getElem?_eq_some_iff.mp h3).1
  have hkd : a = 0 → ¬ (9 ≤ k ∧ k ≤ 12) := by
    intro z q
    subst z
    cases hl
    rcases (show k = 9 ∨ k = 10 ∨ k = 11 ∨ k = 12 by omega) with rfl | rfl | rfl | rfl <;> cases hk
  refine ⟨h.set a (.inr (ci, fs.set k (.int x))), by unfold am_pF; rw [h1]; exact if_pos ⟨rfl, hkl, hf⟩, ly_set hR.1 h1 (by simp only [ly_e]; rw [ly_pf h3 (show ly_f ci k (.int x) = _ from h4.symm)]) (ly_o18 hl) (ly_pd hR.1 h1 hkd), ?_⟩
  have hl2 := (List.getElem?_eq_some_iff.mp h1).1
  rw [hR.2]
  have key : ∀ b : Nat, b ≠ a → (h.set a (.inr (ci, fs.set k (.int x))))[b]? = h[b]? := fun b hb => List.getElem?_set_ne (Ne.symm hb)
  have key2 : (h.set a (.inr (ci, fs.set k (.int x))))[a]? = some (.inr (ci, fs.set k (.int x))) := List.getElem?_set_self hl2
  have hv : ∀ y, v ≠ .long y := fun y z => by rw [z] at h4; simp [ly_f] at h4
  have hv2 : ∀ y, v ≠ .ref y := fun y z => by
    rw [z] at h4
    simp only [ly_f] at h4
    split at h4 <;> simp at h4
  simp only [uI, Vw, Prod.mk.injEq]
  refine ⟨?_, ?_, ?_, ?_, ?_⟩ <;> funext b j <;> by_cases hb : b = a
  all_goals first
    | (simp only [vI, vJ, vR, vB, vA, key b hb, up2, hb, false_and, if_false]; done)
    | skip
  · subst hb
    simp only [vI, key2, h1, up2, true_and]
    by_cases hj : j = k
    · subst hj; simp [hkl]
    · rw [if_neg hj, List.getElem?_set_ne (Ne.symm hj)]
  · subst hb
    simp only [vA, key2, h1]
  · subst hb
    simp only [vB, key2, h1]
  · subst hb
    simp only [vJ, key2, h1]
    by_cases hj : j = k
    · subst hj
      rw [List.getElem?_set_self hkl, h3]
      cases v <;> first | rfl | (exact absurd rfl (hv _))
    · rw [List.getElem?_set_ne (Ne.symm hj)]
  · subst hb
    simp only [vR, key2, h1]
    by_cases hj : j = k
    · subst hj
      rw [List.getElem?_set_self hkl, h3]
      cases v <;> first | rfl | (exact absurd rfl (hv2 _))
    · rw [List.getElem?_set_ne (Ne.symm hj)]
theorem r_pL (hR : Rp h t) {a ci k : Nat} {x : Int64} {ks : List (Nat ⊕ Nat)} (hl : ly_0[a]? = some (.inr (ci, ks))) (hk : ks[k]? = some (.inl 1)) (hf : am_fit (am_fty ci k) (.long x) = true) : ∃ h', am_pF h a ci k (.long x) = some h' ∧ Rp h' (uJ t a k x) := by
  obtain ⟨fs, h1, h2⟩ := hR.1.ob hl
  obtain ⟨v, h3, h4⟩ := ly_fld h2 hk
  have hkl := (List.getElem?_eq_some_iff.mp h3).1
  have hkd : a = 0 → ¬ (9 ≤ k ∧ k ≤ 12) := by
    intro z q
    subst z
    cases hl
    rcases (show k = 9 ∨ k = 10 ∨ k = 11 ∨ k = 12 by omega) with rfl | rfl | rfl | rfl <;> cases hk
  refine ⟨h.set a (.inr (ci, fs.set k (.long x))), by unfold am_pF; rw [h1]; exact if_pos ⟨rfl, hkl, hf⟩, ly_set hR.1 h1 (by simp only [ly_e]; rw [ly_pf h3 (show ly_f ci k (.long x) = _ from h4.symm)]) (ly_o18 hl) (ly_pd hR.1 h1 hkd), ?_⟩
  have hl2 := (List.getElem?_eq_some_iff.mp h1).1
  rw [hR.2]
  have key : ∀ b : Nat, b ≠ a → (h.set a (.inr (ci, fs.set k (.long x))))[b]? = h[b]? := fun b hb => List.getElem?_set_ne (Ne.symm hb)
  have key2 : (h.set a (.inr (ci, fs.set k (.long x))))[a]? = some (.inr (ci, fs.set k (.long x))) := List.getElem?_set_self hl2
  have hv : ∀ y, v ≠ .int y := fun y z => by rw [z] at h4; simp [ly_f] at h4
  have hv2 : ∀ y, v ≠ .ref y := fun y z => by
    rw [z] at h4
    simp only [ly_f] at h4
    split at h4 <;> simp at h4
  simp only [uJ, Vw, Prod.mk.injEq]
  refine ⟨?_, ?_, ?_, ?_, ?_⟩ <;> funext b j <;> by_cases hb : b = a
  all_goals first
    | (simp only [vI, vJ, vR, vB, vA, key b hb, up2, hb, false_and, if_false]; done)
    | skip
  · subst hb
    simp only [vI, key2, h1]
    by_cases hj : j = k
    · subst hj
      rw [List.getElem?_set_self hkl, h3]
      cases v <;> first | rfl | (exact absurd rfl (hv _))
    · rw [List.getElem?_set_ne (Ne.symm hj)]
  · subst hb
    simp only [vA, key2, h1]
  · subst hb
    simp only [vB, key2, h1]
  · subst hb
    simp only [vJ, key2, h1, up2, true_and]
    by_cases hj : j = k
    · subst hj; simp [hkl]
    · rw [if_neg hj, List.getElem?_set_ne (Ne.symm hj)]
  · subst hb
    simp only [vR, key2, h1]
    by_cases hj : j = k
    · subst hj
      rw [List.getElem?_set_self hkl, h3]
      cases v <;> first | rfl | (exact absurd rfl (hv2 _))
    · rw [List.getElem?_set_ne (Ne.symm hj)]
theorem r_pD (hR : Rp h t) {k x : Nat} (g1 : 9 ≤ k) (g2 : k ≤ 12) (hx : ly_Is (ly_D k) x) : ∃ h', am_pF h 0 8 k (.ref x) = some h' ∧ Rp h' (uR t 0 k x) := by
  obtain ⟨fs, h1, h2⟩ := hR.1.ob (lc8 (a := 0) (by decide))
  have hks : ∃ v, fs[k]? = some v ∧ ly_f 8 k v = .inl 2 := by
    rcases (show k = 9 ∨ k = 10 ∨ k = 11 ∨ k = 12 by omega) with rfl | rfl | rfl | rfl <;> exact ly_fld h2 rfl
  obtain ⟨v, h3, h4⟩ := hks
  have hkl := (List.getElem?_eq_some_iff.mp h3).1
  have hl2 := (List.getElem?_eq_some_iff.mp h1).1
  have hf : am_fit (am_fty 8 k) (.ref x) = true := by
    rcases (show k = 9 ∨ k = 10 ∨ k = 11 ∨ k = 12 by omega) with rfl | rfl | rfl | rfl <;> rfl
  have key2 : (h.set 0 (.inr (8, fs.set k (.ref x))))[0]? = some (.inr (8, fs.set k (.ref x))) := List.getElem?_set_self hl2
  have hfx : ly_f 8 k (.ref x) = .inl 2 := by simp [ly_f, g1, g2]
  refine ⟨h.set 0 (.inr (8, fs.set k (.ref x))), by unfold am_pF; rw [h1]; exact if_pos ⟨rfl, hkl, hf⟩, ly_set hR.1 h1 (by simp only [ly_e]; rw [ly_pf h3 (hfx.trans h4.symm)]) ⟨by decide, by decide⟩ (fun _ k' q1 q2 => ?_), ?_⟩
  · by_cases hkk : k = k'
    · subst hkk
      refine ⟨x, ?_, hx⟩
      unfold am_gR am_gF
      rw [key2]
      simp [hkl]
    · obtain ⟨r, h5, h6⟩ := hR.1.2.2.2 k' q1 q2
      refine ⟨r, ?_, h6⟩
      have h7 := am_gR_ok h5
      unfold am_gR am_gF
      unfold am_gF at h7
      rw [key2]
      rw [h1] at h7
      simp only at h7 ⊢
      rw [List.getElem?_set_ne hkk, h7]
  · rw [hR.2]
    have key : ∀ b : Nat, b ≠ 0 → (h.set 0 (.inr (8, fs.set k (.ref x))))[b]? = h[b]? := fun b hb => List.getElem?_set_ne (Ne.symm hb)
    have hv : ∀ y, v ≠ .int y := fun y z => by rw [z] at h4; simp [ly_f] at h4
    have hv2 : ∀ y, v ≠ .long y := fun y z => by rw [z] at h4; simp [ly_f] at h4
    simp only [uR, Vw, Prod.mk.injEq]
    refine ⟨?_, ?_, ?_, ?_, ?_⟩ <;> funext b j <;> by_cases hb : b = 0
    all_goals first
      | (simp only [vI, vJ, vR, vB, vA, key b hb, up2, hb, false_and, if_false]; done)
      | skip
    · subst hb
      simp only [vI, key2, h1]
      by_cases hj : j = k
      · subst hj
        rw [List.getElem?_set_self hkl, h3]
        cases v <;> first | rfl | (exact absurd rfl (hv _))
      · rw [List.getElem?_set_ne (Ne.symm hj)]
    · subst hb
      simp only [vA, key2, h1]
    · subst hb
      simp only [vB, key2, h1]
    · subst hb
      simp only [vJ, key2, h1]
      by_cases hj : j = k
      · subst hj
        rw [List.getElem?_set_self hkl, h3]
        cases v <;> first | rfl | (exact absurd rfl (hv2 _))
      · rw [List.getElem?_set_ne (Ne.symm hj)]
    · subst hb
      simp only [vR, key2, h1, up2, true_and]
      by_cases hj : j = k
      · subst hj; simp [hkl]
      · rw [if_neg hj, List.getElem?_set_ne (Ne.symm hj)]
end RP
/-! rows for the typed functions -/
def ex {α : Type} (o : Option α) (P : α → Prop) : Prop := ∃ r, o = some r ∧ P r
section EX
variable {α β γ δ ε ζ : Type} {P : ζ → Prop}
theorem ex.nd {r : ζ} (h : P r) : ex (some r) P := ⟨r, rfl, h⟩
theorem ex.bd {o : Option α} {x : α} {K : α → Option ζ} (e : o = some x) (k : ex (K x) P) : ex (o.bind K) P := by rw [e]; exact k
theorem ex.j1 {o : Option α} {K : α → Option ζ} {Q : α → Prop} (h : ex o Q) (k : ∀ x, Q x → ex (K x) P) : ex (o.bind K) P := by
  obtain ⟨x, rfl, h2⟩ := h
  exact k x h2
theorem ex.j2 {o : Option (α × β)} {K : α → β → Option ζ} {Q : α × β → Prop} (h : ex o Q) (k : ∀ x y, Q (x, y) → ex (K x y) P) : ex (am_b2 o K) P := by
  obtain ⟨⟨x, y⟩, rfl, h2⟩ := h
  exact k x y h2
theorem ex.j3 {o : Option (α × β × γ)} {K : α → β → γ → Option ζ} {Q : α × β × γ → Prop} (h : ex o Q) (k : ∀ x y z, Q (x, y, z) → ex (K x y z) P) : ex (am_b3 o K) P := by
  obtain ⟨⟨x, y, z⟩, rfl, h2⟩ := h
  exact k x y z h2
theorem ex.j4 {o : Option (α × β × γ × δ)} {K : α → β → γ → δ → Option ζ} {Q : α × β × γ × δ → Prop} (h : ex o Q) (k : ∀ x y z w, Q (x, y, z, w) → ex (K x y z w) P) : ex (am_b4 o K) P := by
  obtain ⟨⟨x, y, z, w⟩, rfl, h2⟩ := h
  exact k x y z w h2
theorem ex.j5 {o : Option (α × β × γ × δ × ε)} {K : α → β → γ → δ → ε → Option ζ} {Q : α × β × γ × δ × ε → Prop} (h : ex o Q) (k : ∀ x y z w u, Q (x, y, z, w, u) → ex (K x y z w u) P) : ex (am_b5 o K) P := by
  obtain ⟨⟨x, y, z, w, u⟩, rfl, h2⟩ := h
  exact k x y z w u h2
theorem ex.t {c : Prop} {d : Decidable c} {a b : Option ζ} (h : c) (k : ex a P) : ex (@ite _ c d a b) P := by rw [if_pos h]; exact k
theorem ex.f {c : Prop} {d : Decidable c} {a b : Option ζ} (h : ¬ c) (k : ex b P) : ex (@ite _ c d a b) P := by rw [if_neg h]; exact k
end EX
