/-- an item of the law: the class's code, the reference's two, and how many values lie before and behind it -/
def LI (c o g : Int32) (p q : Nat) : Prop :=
  (∃ k, k < 10000 ∧ c = nI k ∧ o = 1 ∧ g = nI k ∧ p < 32 ∧ q = p + 1) ∨ (∃ k, k < 4 ∧ c = - nI (1 + k) ∧ o = 2 ∧ g = nI k ∧ p < 32 ∧ q = p + 1) ∨ (c = -5 ∧ o = 3 ∧ 1 ≤ p ∧ q = p) ∨ (((c = -6 ∧ o = 9) ∨ (c = -7 ∧ o = 10) ∨ (c = -8 ∧ o = 7) ∨ (c = -9 ∧ o = 8) ∨ (c = -10 ∧ o = 4) ∨ (c = -11 ∧ o = 5) ∨ (c = -12 ∧ o = 6)) ∧ 2 ≤ p ∧ q + 1 = p)
def LR (v : Nat) (t t' : tS) : Prop :=
  (t.1 v 15 = 0 ∧ t'.2.1 224 3 = -1) ∨ (t.1 v 15 = 1 ∧ t'.2.1 224 3 = nI 0 ∧ ∃ (len : Nat) (dp : Nat → Nat), len ≤ 1000 ∧ t.1 (v + 11) 2 = nI len ∧ dp 0 = 0 ∧ dp len = 1 ∧ t'.2.1 225 len = 0 ∧ ∀ i, i < len → LI (t.2.1 (v + 12) i) (t'.2.1 225 i) (t'.2.1 226 i) (dp i) (dp (i + 1)))
/-- what the class may change at a stand -/
def CF (a v : Nat) (t0 t : tS) : Prop :=
  (∀ b k, b ≠ a → t.1 b k = t0.1 b k) ∧ (∀ b i, ¬ (a + 1 ≤ b ∧ b ≤ a + 6) → b ≠ v + 13 → t.2.1 b i = t0.2.1 b i) ∧ t.2.2 = t0.2.2
def MF (b : Nat) (t0 t : tS) : Prop :=
  (∀ c k, ¬ (c = 218 ∧ (k = 28 ∨ k = 29)) → t.1 c k = t0.1 c k) ∧ (∀ c i, c ≠ 232 → c ≠ 233 → ¬ (c = 234 ∧ b ≤ i ∧ i < b + 30) → t.2.1 c i = t0.2.1 c i) ∧ t.2.2 = t0.2.2
theorem CF.rf {a v : Nat} {t : tS} : CF a v t t := ⟨fun _ _ _ => rfl, fun _ _ _ _ => rfl, rfl⟩
theorem CF.tr {a v : Nat} {t t1 t2 : tS} (h : CF a v t t1) (g : CF a v t1 t2) : CF a v t t2 := ⟨fun b k hb => (g.1 b k hb).trans (h.1 b k hb), fun b i h1 h2 => (g.2.1 b i h1 h2).trans (h.2.1 b i h1 h2), g.2.2.trans h.2.2⟩
theorem MF.rf {b : Nat} {t : tS} : MF b t t := ⟨fun _ _ _ => rfl, fun _ _ _ _ _ => rfl, rfl⟩
theorem MF.tr {b : Nat} {t t1 t2 : tS} (h : MF b t t1) (g : MF b t1 t2) : MF b t t2 := ⟨fun c k hc => (g.1 c k hc).trans (h.1 c k hc), fun c i h1 h2 h3 => (g.2.1 c i h1 h2 h3).trans (h.2.1 c i h1 h2 h3), g.2.2.trans h.2.2⟩
theorem CF.wA {a v c i : Nat} {x : Int32} {t : tS} (h : (a + 1 ≤ c ∧ c ≤ a + 6) ∨ c = v + 13) : CF a v t (uA t c i x) := by
  refine ⟨fun _ _ _ => rfl, fun b j h1 h2 => ?_, rfl⟩
  rw [uA_2, if_neg]
  intro z
  omega
theorem CF.wI {a v k : Nat} {x : Int32} {t : tS} : CF a v t (uI t a k x) := by
  refine ⟨fun b j hb => ?_, fun _ _ _ _ => rfl, rfl⟩
  rw [uI_1, if_neg]
  exact fun z => hb z.1
theorem MF.wA {b i : Nat} {x : Int32} {t : tS} (h1 : b ≤ i) (h2 : i < b + 30) : MF b t (uA t 234 i x) := by
  refine ⟨fun _ _ _ => rfl, fun c j g1 g2 g3 => ?_, rfl⟩
  rw [uA_2, if_neg]
  intro z
  omega
theorem MF.w2 {b c i : Nat} {x : Int32} {t : tS} (h : c = 232 ∨ c = 233) : MF b t (uA t c i x) := by
  refine ⟨fun _ _ _ => rfl, fun c' j g1 g2 g3 => ?_, rfl⟩
  rw [uA_2, if_neg]
  intro z
  omega
theorem MF.wI {b k : Nat} {x : Int32} {t : tS} (h : k = 28 ∨ k = 29) : MF b t (uI t 218 k x) := by
  refine ⟨fun c j g => ?_, fun _ _ _ _ _ => rfl, rfl⟩
  rw [uI_1, if_neg]
  intro z
  omega
theorem CV.fr {v nh nd st a : Nat} {V : Nat → Nat → Nat} {t t1 : tS} (h : CV v nh nd st V t) (hf : CF a v t t1) (ha : a + 7 ≤ v) : CV v nh nd st V t1 := by
  obtain ⟨h1, h2, h3, h4, h5, h6, h7, h8, h9, h10, h11⟩ := h
  have e1 : ∀ k, t1.1 v k = t.1 v k := fun k => hf.1 v k (by omega)
  have e2 : ∀ j i, 2 ≤ j → j ≤ 10 → t1.2.1 (v + j) i = t.2.1 (v + j) i := fun j i _ _ => hf.2.1 (v + j) i (by omega) (by omega)
  refine ⟨(e1 _).trans h1, (e1 _).trans h2, (e1 _).trans h3, ?_, ?_, ?_, ?_, ?_, ?_, ?_, ?_⟩
  · exact fun j hj => (e2 2 j (by decide) (by decide)).trans (h4 j hj)
  · exact fun j hj => (e2 3 j (by decide) (by decide)).trans (h5 j hj)
  · exact fun j hj => (e2 5 j (by decide) (by decide)).trans (h6 j hj)
  · exact fun j hj => (e2 6 j (by decide) (by decide)).trans (h7 j hj)
  · exact fun j hj => (e2 7 j (by decide) (by decide)).trans (h8 j hj)
  · exact fun j hj => (e2 8 j (by decide) (by decide)).trans (h9 j hj)
  · exact fun j hj => (e2 9 j (by decide) (by decide)).trans (h10 j hj)
  · exact fun j hj => (e2 10 j (by decide) (by decide)).trans (h11 j hj)
theorem MV.fr {nh nd st b : Nat} {V : Nat → Nat → Nat} {t t1 : tS} (h : MV nh nd st V t) (hf : MF b t t1) : MV nh nd st V t1 := by
  obtain ⟨h1, h2, h3, h4, h5, h6, h7, h8, h9, h10⟩ := h
  have e : ∀ i, t1.2.1 224 i = t.2.1 224 i := fun i => hf.2.1 224 i (by decide) (by decide) (fun z => absurd z.1 (by decide))
  refine ⟨(e _).trans h1, (e _).trans h2, (e _).trans h3, ?_, ?_, ?_, ?_, ?_, ?_, ?_⟩
  · exact fun j hj => (e _).trans (h4 j hj)
  · exact fun j hj => (e _).trans (h5 j hj)
  · exact fun j hj => (e _).trans (h6 j hj)
  · exact fun j hj => (e _).trans (h7 j hj)
  · exact fun j hj => (e _).trans (h8 j hj)
  · exact fun j hj => (e _).trans (h9 j hj)
  · exact fun j hj => (e _).trans (h10 j hj)
theorem LR.fr {v a b : Nat} {t t' t1 t1' : tS} (h : LR v t t') (hf : CF a v t t1) (hf' : MF b t' t1') (ha : a + 7 ≤ v) : LR v t1 t1' := by
  have e1 : t1.1 v 15 = t.1 v 15 := hf.1 v 15 (by omega)
  have e2 : t1.1 (v + 11) 2 = t.1 (v + 11) 2 := hf.1 _ 2 (by omega)
  have e3 : ∀ i, t1.2.1 (v + 12) i = t.2.1 (v + 12) i := fun i => hf.2.1 _ i (by omega) (by omega)
  have e4 : ∀ i, t1'.2.1 224 i = t'.2.1 224 i := fun i => hf'.2.1 224 i (by decide) (by decide) (fun z => absurd z.1 (by decide))
  have e5 : ∀ i, t1'.2.1 225 i = t'.2.1 225 i := fun i => hf'.2.1 225 i (by decide) (by decide) (fun z => absurd z.1 (by decide))
  have e6 : ∀ i, t1'.2.1 226 i = t'.2.1 226 i := fun i => hf'.2.1 226 i (by decide) (by decide) (fun z => absurd z.1 (by decide))
  unfold LR
  simp only [e1, e2, e3, e4, e5, e6]
  exact h
theorem CS.wA {nh nd a n m k d : Nat} {S : Nat → Nat → Int32} {t : tS} {x : Int32} (h : CS nh nd a n m S t) : CS nh nd a n m (up2 S k d x) (uA t (a + k) d x) := by
  obtain ⟨h1, h2, h3, h4, h5, h6, h7, h8, h9⟩ := h
  refine ⟨h1, h2, h3, ?_, ?_, ?_, ?_, ?_, ?_⟩ <;> intro e he <;> simp only [uA_2, up2, Nat.add_left_cancel_iff]
  · rw [h4 e he]
  · rw [h5 e he]
  · rw [h6 e he]
  · rw [h7 e he]
  · rw [h8 e he]
  · rw [h9 e he]
theorem CS.wI {nh nd a n m k : Nat} {S : Nat → Nat → Int32} {t : tS} {x : Int32} (h : CS nh nd a n m S t) (hk : k = 9 ∨ k = 10) : CS nh nd a n m S (uI t a k x) := by
  obtain ⟨h1, h2, h3, h4⟩ := h
  refine ⟨?_, ?_, ?_, h4⟩
  · rw [uI_1, if_neg (by omega)]; exact h1
  · rw [uI_1, if_neg (by omega)]; exact h2
  · rw [uI_1, if_neg (by omega)]; exact h3
theorem CS.wP {nh nd a n m c d : Nat} {S : Nat → Nat → Int32} {t : tS} {x : Int32} (h : CS nh nd a n m S t) (hc : a + 7 ≤ c) : CS nh nd a n m S (uA t c d x) := by
  obtain ⟨h1, h2, h3, h4, h5, h6, h7, h8, h9⟩ := h
  refine ⟨h1, h2, h3, ?_, ?_, ?_, ?_, ?_, ?_⟩ <;> intro e he <;> rw [uA_2, if_neg (by omega)]
  · exact h4 e he
  · exact h5 e he
  · exact h6 e he
  · exact h7 e he
  · exact h8 e he
  · exact h9 e he
theorem MS.wP {nh nd b n m c d : Nat} {S : Nat → Nat → Int32} {t : tS} {x : Int32} (h : MS nh nd b n m S t) (hc : c ≠ 234 ∧ c ≠ 236) : MS nh nd b n m S (uA t c d x) := by
  obtain ⟨h1, h2, h4, h5, h6, h7, h8, h9⟩ := h
  refine ⟨?_, ?_, ?_, ?_, ?_, ?_, ?_, ?_⟩
  · rw [uA_2, if_neg (by omega)]; exact h1
  · rw [uA_2, if_neg (by omega)]; exact h2
  all_goals intro e he; rw [uA_2, if_neg (by omega)]
  · exact h4 e he
  · exact h5 e he
  · exact h6 e he
  · exact h7 e he
  · exact h8 e he
  · exact h9 e he
theorem MS.wI {nh nd b n m c k : Nat} {S : Nat → Nat → Int32} {t : tS} {x : Int32} (h : MS nh nd b n m S t) : MS nh nd b n m S (uI t c k x) := h
theorem MS.w1 {nh nd b n m d : Nat} {S : Nat → Nat → Int32} {t : tS} {x : Int32} (h : MS nh nd b n m S t) (h4 : nh ≤ 4) (h6 : nd ≤ 6) (hd : d < nh) : MS nh nd b n m (up2 S 1 d x) (uA t 234 (b + 2 + d) x) := by
  obtain ⟨g1, g2, g3, g4, g5, g6, g7, g8⟩ := h
  refine ⟨?_, ?_, ?_, ?_, ?_, ?_, ?_, ?_⟩
  · rw [uA_2, if_neg (by omega)]; exact g1
  · rw [uA_2, if_neg (by omega)]; exact g2
  · intro e he
    by_cases c : e = d
    · subst c
      rw [uA_2, if_pos ⟨rfl, rfl⟩]
      unfold up2
      rw [if_pos ⟨rfl, rfl⟩]
    · rw [uA_2, if_neg (by omega)]
      unfold up2
      rw [if_neg (fun z => c z.2)]
      exact g3 e he
  · intro e he
    rw [uA_2, if_neg (by omega)]
    unfold up2
    rw [if_neg (by omega)]
    exact g4 e he
  · intro e he
    rw [uA_2, if_neg (by omega)]
    unfold up2
    rw [if_neg (by omega)]
    exact g5 e he
  · intro e he
    rw [uA_2, if_neg (by omega)]
    unfold up2
    rw [if_neg (by omega)]
    exact g6 e he
  · intro e he
    rw [uA_2, if_neg (by omega)]
    unfold up2
    rw [if_neg (by omega)]
    exact g7 e he
  · intro e he
    rw [uA_2, if_neg (by omega)]
    unfold up2
    rw [if_neg (by omega)]
    exact g8 e he
theorem MS.w3 {nh nd b n m d : Nat} {S : Nat → Nat → Int32} {t : tS} {x : Int32} (h : MS nh nd b n m S t) (h4 : nh ≤ 4) (h6 : nd ≤ 6) (hd : d < nd) : MS nh nd b n m (up2 S 3 d x) (uA t 234 (b + 18 + d) x) := by
  obtain ⟨g1, g2, g3, g4, g5, g6, g7, g8⟩ := h
  refine ⟨?_, ?_, ?_, ?_, ?_, ?_, ?_, ?_⟩
  · rw [uA_2, if_neg (by omega)]; exact g1
  · rw [uA_2, if_neg (by omega)]; exact g2
  · intro e he
    rw [uA_2, if_neg (by omega)]
    unfold up2
    rw [if_neg (by omega)]
    exact g3 e he
  · intro e he
    rw [uA_2, if_neg (by omega)]
    unfold up2
    rw [if_neg (by omega)]
    exact g4 e he
  · intro e he
    by_cases c : e = d
    · subst c
      rw [uA_2, if_pos ⟨rfl, rfl⟩]
      unfold up2
      rw [if_pos ⟨rfl, rfl⟩]
    · rw [uA_2, if_neg (by omega)]
      unfold up2
      rw [if_neg (fun z => c z.2)]
      exact g5 e he
  · intro e he
    rw [uA_2, if_neg (by omega)]
    unfold up2
    rw [if_neg (by omega)]
    exact g6 e he
  · intro e he
    rw [uA_2, if_neg (by omega)]
    unfold up2
    rw [if_neg (by omega)]
    exact g7 e he
  · intro e he
    rw [uA_2, if_neg (by omega)]
    unfold up2
    rw [if_neg (by omega)]
    exact g8 e he
theorem MS.w4 {nh nd b n m d : Nat} {S : Nat → Nat → Int32} {t : tS} {x : Int32} (h : MS nh nd b n m S t) (h4 : nh ≤ 4) (h6 : nd ≤ 6) (hd : d < nd) : MS nh nd b n m (up2 S 4 d x) (uA t 234 (b + 6 + d) x) := by
  obtain ⟨g1, g2, g3, g4, g5, g6, g7, g8⟩ := h
  refine ⟨?_, ?_, ?_, ?_, ?_, ?_, ?_, ?_⟩
  · rw [uA_2, if_neg (by omega)]; exact g1
  · rw [uA_2, if_neg (by omega)]; exact g2
  · intro e he
    rw [uA_2, if_neg (by omega)]
    unfold up2
    rw [if_neg (by omega)]
    exact g3 e he
  · intro e he
    rw [uA_2, if_neg (by omega)]
    unfold up2
    rw [if_neg (by omega)]
    exact g4 e he
  · intro e he
    rw [uA_2, if_neg (by omega)]
    unfold up2
    rw [if_neg (by omega)]
    exact g5 e he
  · intro e he
    by_cases c : e = d
    · subst c
      rw [uA_2, if_pos ⟨rfl, rfl⟩]
      unfold up2
      rw [if_pos ⟨rfl, rfl⟩]
    · rw [uA_2, if_neg (by omega)]
      unfold up2
      rw [if_neg (fun z => c z.2)]
      exact g6 e he
  · intro e he
    rw [uA_2, if_neg (by omega)]
    unfold up2
    rw [if_neg (by omega)]
    exact g7 e he
  · intro e he
    rw [uA_2, if_neg (by omega)]
    unfold up2
    rw [if_neg (by omega)]
    exact g8 e he
theorem MS.w5 {nh nd b n m d : Nat} {S : Nat → Nat → Int32} {t : tS} {x : Int32} (h : MS nh nd b n m S t) (h4 : nh ≤ 4) (h6 : nd ≤ 6) (hd : d < nd) : MS nh nd b n m (up2 S 5 d x) (uA t 234 (b + 12 + d) x) := by
  obtain ⟨g1, g2, g3, g4, g5, g6, g7, g8⟩ := h
  refine ⟨?_, ?_, ?_, ?_, ?_, ?_, ?_, ?_⟩
  · rw [uA_2, if_neg (by omega)]; exact g1
  · rw [uA_2, if_neg (by omega)]; exact g2
  · intro e he
    rw [uA_2, if_neg (by omega)]
    unfold up2
    rw [if_neg (by omega)]
    exact g3 e he
  · intro e he
    rw [uA_2, if_neg (by omega)]
    unfold up2
    rw [if_neg (by omega)]
    exact g4 e he
  · intro e he
    rw [uA_2, if_neg (by omega)]
    unfold up2
    rw [if_neg (by omega)]
    exact g5 e he
  · intro e he
    rw [uA_2, if_neg (by omega)]
    unfold up2
    rw [if_neg (by omega)]
    exact g6 e he
  · intro e he
    by_cases c : e = d
    · subst c
      rw [uA_2, if_pos ⟨rfl, rfl⟩]
      unfold up2
      rw [if_pos ⟨rfl, rfl⟩]
    · rw [uA_2, if_neg (by omega)]
      unfold up2
      rw [if_neg (fun z => c z.2)]
      exact g7 e he
  · intro e he
    rw [uA_2, if_neg (by omega)]
    unfold up2
    rw [if_neg (by omega)]
    exact g8 e he
theorem MS.w6 {nh nd b n m d : Nat} {S : Nat → Nat → Int32} {t : tS} {x : Int32} (h : MS nh nd b n m S t) (h4 : nh ≤ 4) (h6 : nd ≤ 6) (hd : d < nd) : MS nh nd b n m (up2 S 6 d x) (uA t 234 (b + 24 + d) x) := by
  obtain ⟨g1, g2, g3, g4, g5, g6, g7, g8⟩ := h
  refine ⟨?_, ?_, ?_, ?_, ?_, ?_, ?_, ?_⟩
  · rw [uA_2, if_neg (by omega)]; exact g1
  · rw [uA_2, if_neg (by omega)]; exact g2
  · intro e he
    rw [uA_2, if_neg (by omega)]
    unfold up2
    rw [if_neg (by omega)]
    exact g3 e he
  · intro e he
    rw [uA_2, if_neg (by omega)]
    unfold up2
    rw [if_neg (by omega)]
    exact g4 e he
  · intro e he
    rw [uA_2, if_neg (by omega)]
    unfold up2
    rw [if_neg (by omega)]
    exact g5 e he
  · intro e he
    rw [uA_2, if_neg (by omega)]
    unfold up2
    rw [if_neg (by omega)]
    exact g6 e he
  · intro e he
    rw [uA_2, if_neg (by omega)]
    unfold up2
    rw [if_neg (by omega)]
    exact g7 e he
  · intro e he
    by_cases c : e = d
    · subst c
      rw [uA_2, if_pos ⟨rfl, rfl⟩]
      unfold up2
      rw [if_pos ⟨rfl, rfl⟩]
    · rw [uA_2, if_neg (by omega)]
      unfold up2
      rw [if_neg (fun z => c z.2)]
      exact g8 e he
/-- class and reference stand alike: vale v, stand a against offset b; t0 t0' the states at the begin -/
def PR (v nh nd st : Nat) (V : Nat → Nat → Nat) (a b n m : Nat) (S : Nat → Nat → Int32) (t0 t0' t t' : tS) : Prop :=
  VK nh nd st V ∧ (182 ≤ v ∧ v ≤ 196 ∧ a + 7 ≤ 182 ∧ b + 47 ≤ 1081) ∧ CV v nh nd st V t ∧ MV nh nd st V t' ∧ LR v t t' ∧ CS nh nd a n m S t ∧ MS nh nd b n m S t' ∧ CF a v t0 t ∧ MF b t0' t'
section
variable {v nh nd st a b n m : Nat} {V : Nat → Nat → Nat} {S : Nat → Nat → Int32} {t0 t0' t t' : tS}
theorem PR.h4 (h : PR v nh nd st V a b n m S t0 t0' t t') : nh ≤ 4 := h.1.1
theorem PR.h6 (h : PR v nh nd st V a b n m S t0 t0' t t') : nd ≤ 6 := h.1.2.1
theorem PR.av (h : PR v nh nd st V a b n m S t0 t0' t t') : a + 7 ≤ v := by have := h.2.1; omega
theorem PR.b1 (h : PR v nh nd st V a b n m S t0 t0' t t') : b + 47 ≤ 1081 := h.2.1.2.2.2
theorem PR.go {n1 m1 : Nat} {S1 : Nat → Nat → Int32} {t1 t1' : tS} (h : PR v nh nd st V a b n m S t0 t0' t t') (hf : CF a v t t1) (hf' : MF b t' t1') (hc : CS nh nd a n1 m1 S1 t1) (hm : MS nh nd b n1 m1 S1 t1') : PR v nh nd st V a b n1 m1 S1 t0 t0' t1 t1' := by
  have hav := h.av
  obtain ⟨h1, h2, h3, h4, h5, h6, h7, h8, h9⟩ := h
  exact ⟨h1, h2, h3.fr hf hav, h4.fr hf', h5.fr hf hf' hav, hc, hm, h8.tr hf, h9.tr hf'⟩
theorem PR.bs (h : PR v nh nd st V a b n m S t0 t0' t t') : PR v nh nd st V a b n m S t t' t t' := by
  obtain ⟨h1, h2, h3, h4, h5, h6, h7, h8, h9⟩ := h
  exact ⟨h1, h2, h3, h4, h5, h6, h7, CF.rf, MF.rf⟩
theorem PR.cI (h : PR v nh nd st V a b n m S t0 t0' t t') {k : Nat} {x : Int32} (hk : k = 9 ∨ k = 10) : PR v nh nd st V a b n m S t0 t0' (uI t a k x) t' := h.go CF.wI MF.rf (h.2.2.2.2.2.1.wI hk) h.2.2.2.2.2.2.1
theorem PR.mI (h : PR v nh nd st V a b n m S t0 t0' t t') {k : Nat} {x : Int32} (hk : k = 28 ∨ k = 29) : PR v nh nd st V a b n m S t0 t0' t (uI t' 218 k x) := h.go CF.rf (MF.wI hk) h.2.2.2.2.2.1 h.2.2.2.2.2.2.1.wI
theorem PR.cP (h : PR v nh nd st V a b n m S t0 t0' t t') {i : Nat} {x : Int32} : PR v nh nd st V a b n m S t0 t0' (uA t (v + 13) i x) t' := h.go (CF.wA (.inr rfl)) MF.rf (h.2.2.2.2.2.1.wP (by have := h.av; omega)) h.2.2.2.2.2.2.1
theorem PR.mP (h : PR v nh nd st V a b n m S t0 t0' t t') {c i : Nat} {x : Int32} (hc : c = 232 ∨ c = 233) : PR v nh nd st V a b n m S t0 t0' t (uA t' c i x) := h.go CF.rf (MF.w2 hc) h.2.2.2.2.2.1 (h.2.2.2.2.2.2.1.wP (by omega))
theorem PR.w1 (h : PR v nh nd st V a b n m S t0 t0' t t') {d : Nat} {x : Int32} (hd : d < nh) : PR v nh nd st V a b n m (up2 S 1 d x) t0 t0' (uA t (a + 1) d x) (uA t' 234 (b + 2 + d) x) := h.go (CF.wA (.inl (by omega))) (MF.wA (by omega) (by have := h.h4; have := h.h6; omega)) h.2.2.2.2.2.1.wA (h.2.2.2.2.2.2.1.w1 h.h4 h.h6 hd)
theorem PR.w3 (h : PR v nh nd st V a b n m S t0 t0' t t') {d : Nat} {x : Int32} (hd : d < nd) : PR v nh nd st V a b n m (up2 S 3 d x) t0 t0' (uA t (a + 3) d x) (uA t' 234 (b + 18 + d) x) := h.go (CF.wA (.inl (by omega))) (MF.wA (by omega) (by have := h.h4; have := h.h6; omega)) h.2.2.2.2.2.1.wA (h.2.2.2.2.2.2.1.w3 h.h4 h.h6 hd)
theorem PR.w4 (h : PR v nh nd st V a b n m S t0 t0' t t') {d : Nat} {x : Int32} (hd : d < nd) : PR v nh nd st V a b n m (up2 S 4 d x) t0 t0' (uA t (a + 4) d x) (uA t' 234 (b + 6 + d) x) := h.go (CF.wA (.inl (by omega))) (MF.wA (by omega) (by have := h.h4; have := h.h6; omega)) h.2.2.2.2.2.1.wA (h.2.2.2.2.2.2.1.w4 h.h4 h.h6 hd)
theorem PR.w5 (h : PR v nh nd st V a b n m S t0 t0' t t') {d : Nat} {x : Int32} (hd : d < nd) : PR v nh nd st V a b n m (up2 S 5 d x) t0 t0' (uA t (a + 5) d x) (uA t' 234 (b + 12 + d) x) := h.go (CF.wA (.inl (by omega))) (MF.wA (by omega) (by have := h.h4; have := h.h6; omega)) h.2.2.2.2.2.1.wA (h.2.2.2.2.2.2.1.w5 h.h4 h.h6 hd)
theorem PR.w6 (h : PR v nh nd st V a b n m S t0 t0' t t') {d : Nat} {x : Int32} (hd : d < nd) : PR v nh nd st V a b n m (up2 S 6 d x) t0 t0' (uA t (a + 6) d x) (uA t' 234 (b + 24 + d) x) := h.go (CF.wA (.inl (by omega))) (MF.wA (by omega) (by have := h.h4; have := h.h6; omega)) h.2.2.2.2.2.1.wA (h.2.2.2.2.2.2.1.w6 h.h4 h.h6 hd)
theorem PR.ch (h : PR v nh nd st V a b n m S t0 t0' t t') : t.1 v 11 = nI nh := h.2.2.1.1
theorem PR.cd (h : PR v nh nd st V a b n m S t0 t0' t t') : t.1 v 12 = nI nd := h.2.2.1.2.1
theorem PR.cst (h : PR v nh nd st V a b n m S t0 t0' t t') : t.1 v 13 = nI st := h.2.2.1.2.2.1
theorem PR.v2 (h : PR v nh nd st V a b n m S t0 t0' t t') {j : Nat} (hj : j < nh) : t.2.1 (v + 2) j = nI (V 2 j) := h.2.2.1.2.2.2.1 j hj
theorem PR.v3 (h : PR v nh nd st V a b n m S t0 t0' t t') {j : Nat} (hj : j < nh) : t.2.1 (v + 3) j = nI (V 3 j) := h.2.2.1.2.2.2.2.1 j hj
theorem PR.v5 (h : PR v nh nd st V a b n m S t0 t0' t t') {j : Nat} (hj : j < nd) : t.2.1 (v + 5) j = nI (V 5 j) := h.2.2.1.2.2.2.2.2.1 j hj
theorem PR.v6 (h : PR v nh nd st V a b n m S t0 t0' t t') {j : Nat} (hj : j < nd) : t.2.1 (v + 6) j = nI (V 6 j) := h.2.2.1.2.2.2.2.2.2.1 j hj
theorem PR.v7 (h : PR v nh nd st V a b n m S t0 t0' t t') {j : Nat} (hj : j < nd) : t.2.1 (v + 7) j = nI (V 7 j) := h.2.2.1.2.2.2.2.2.2.2.1 j hj
theorem PR.v8 (h : PR v nh nd st V a b n m S t0 t0' t t') {j : Nat} (hj : j < nd) : t.2.1 (v + 8) j = nI (V 8 j) := h.2.2.1.2.2.2.2.2.2.2.2.1 j hj
theorem PR.v9 (h : PR v nh nd st V a b n m S t0 t0' t t') {j : Nat} (hj : j < nd) : t.2.1 (v + 9) j = nI (V 9 j) := h.2.2.1.2.2.2.2.2.2.2.2.2.1 j hj
theorem PR.v10 (h : PR v nh nd st V a b n m S t0 t0' t t') {j : Nat} (hj : j < nd) : t.2.1 (v + 10) j = nI (if V 5 j = 1 then 2 else 1) := h.2.2.1.2.2.2.2.2.2.2.2.2.2 j hj
theorem PR.mh (h : PR v nh nd st V a b n m S t0 t0' t t') : t'.2.1 224 0 = nI nh := h.2.2.2.1.1
theorem PR.md (h : PR v nh nd st V a b n m S t0 t0' t t') : t'.2.1 224 1 = nI nd := h.2.2.2.1.2.1
theorem PR.mst (h : PR v nh nd st V a b n m S t0 t0' t t') : t'.2.1 224 2 = nI st := h.2.2.2.1.2.2.1
theorem PR.u2 (h : PR v nh nd st V a b n m S t0 t0' t t') {j : Nat} (hj : j < nh) : t'.2.1 224 (4 + 2 * j) = nI (V 2 j) := h.2.2.2.1.2.2.2.1 j hj
theorem PR.u3 (h : PR v nh nd st V a b n m S t0 t0' t t') {j : Nat} (hj : j < nh) : t'.2.1 224 (4 + 2 * j + 1) = nI (V 3 j) := h.2.2.2.1.2.2.2.2.1 j hj
theorem PR.u5 (h : PR v nh nd st V a b n m S t0 t0' t t') {j : Nat} (hj : j < nd) : t'.2.1 224 (12 + 5 * j) = nI (V 5 j) := h.2.2.2.1.2.2.2.2.2.1 j hj
theorem PR.u6 (h : PR v nh nd st V a b n m S t0 t0' t t') {j : Nat} (hj : j < nd) : t'.2.1 224 (12 + 5 * j + 1) = nI (V 6 j) := h.2.2.2.1.2.2.2.2.2.2.1 j hj
theorem PR.u7 (h : PR v nh nd st V a b n m S t0 t0' t t') {j : Nat} (hj : j < nd) : t'.2.1 224 (12 + 5 * j + 2) = nI (V 7 j) := h.2.2.2.1.2.2.2.2.2.2.2.1 j hj
theorem PR.u8 (h : PR v nh nd st V a b n m S t0 t0' t t') {j : Nat} (hj : j < nd) : t'.2.1 224 (12 + 5 * j + 3) = nI (V 8 j) := h.2.2.2.1.2.2.2.2.2.2.2.2.1 j hj
theorem PR.u9 (h : PR v nh nd st V a b n m S t0 t0' t t') {j : Nat} (hj : j < nd) : t'.2.1 224 (12 + 5 * j + 4) = nI (V 9 j) := h.2.2.2.1.2.2.2.2.2.2.2.2.2 j hj
theorem PR.cn (h : PR v nh nd st V a b n m S t0 t0' t t') : t.1 a 6 = nI (n % 12) := h.2.2.2.2.2.1.1
theorem PR.cy (h : PR v nh nd st V a b n m S t0 t0' t t') : t.1 a 7 = nI (n / 12) := h.2.2.2.2.2.1.2.1
theorem PR.co (h : PR v nh nd st V a b n m S t0 t0' t t') : t.1 a 8 = nI m := h.2.2.2.2.2.1.2.2.1
theorem PR.c1 (h : PR v nh nd st V a b n m S t0 t0' t t') {j : Nat} (hj : j < nh) : t.2.1 (a + 1) j = S 1 j := h.2.2.2.2.2.1.2.2.2.1 j hj
theorem PR.c2 (h : PR v nh nd st V a b n m S t0 t0' t t') {j : Nat} (hj : j < nd) : t.2.1 (a + 2) j = S 2 j := h.2.2.2.2.2.1.2.2.2.2.1 j hj
theorem PR.c3 (h : PR v nh nd st V a b n m S t0 t0' t t') {j : Nat} (hj : j < nd) : t.2.1 (a + 3) j = S 3 j := h.2.2.2.2.2.1.2.2.2.2.2.1 j hj
theorem PR.c4 (h : PR v nh nd st V a b n m S t0 t0' t t') {j : Nat} (hj : j < nd) : t.2.1 (a + 4) j = S 4 j := h.2.2.2.2.2.1.2.2.2.2.2.2.1 j hj
theorem PR.c5 (h : PR v nh nd st V a b n m S t0 t0' t t') {j : Nat} (hj : j < nd) : t.2.1 (a + 5) j = S 5 j := h.2.2.2.2.2.1.2.2.2.2.2.2.2.1 j hj
theorem PR.c6 (h : PR v nh nd st V a b n m S t0 t0' t t') {j : Nat} (hj : j < nd) : t.2.1 (a + 6) j = S 6 j := h.2.2.2.2.2.1.2.2.2.2.2.2.2.2 j hj
theorem PR.mn (h : PR v nh nd st V a b n m S t0 t0' t t') : t'.2.1 234 b = nI n := h.2.2.2.2.2.2.1.1
theorem PR.mo (h : PR v nh nd st V a b n m S t0 t0' t t') : t'.2.1 234 (b + 1) = nI m := h.2.2.2.2.2.2.1.2.1
theorem PR.m1 (h : PR v nh nd st V a b n m S t0 t0' t t') {j : Nat} (hj : j < nh) : t'.2.1 234 (b + 2 + j) = S 1 j := h.2.2.2.2.2.2.1.2.2.1 j hj
theorem PR.m2 (h : PR v nh nd st V a b n m S t0 t0' t t') {j : Nat} (hj : j < nd) : t'.2.1 236 j = S 2 j := h.2.2.2.2.2.2.1.2.2.2.1 j hj
theorem PR.m3 (h : PR v nh nd st V a b n m S t0 t0' t t') {j : Nat} (hj : j < nd) : t'.2.1 234 (b + 18 + j) = S 3 j := h.2.2.2.2.2.2.1.2.2.2.2.1 j hj
theorem PR.m4 (h : PR v nh nd st V a b n m S t0 t0' t t') {j : Nat} (hj : j < nd) : t'.2.1 234 (b + 6 + j) = S 4 j := h.2.2.2.2.2.2.1.2.2.2.2.2.1 j hj
theorem PR.m5 (h : PR v nh nd st V a b n m S t0 t0' t t') {j : Nat} (hj : j < nd) : t'.2.1 234 (b + 12 + j) = S 5 j := h.2.2.2.2.2.2.1.2.2.2.2.2.2.1 j hj
theorem PR.m6 (h : PR v nh nd st V a b n m S t0 t0' t t') {j : Nat} (hj : j < nd) : t'.2.1 234 (b + 24 + j) = S 6 j := h.2.2.2.2.2.2.1.2.2.2.2.2.2.2 j hj
end
