/-! ===== PURE: all that lasts between calls, in both ===== -/
section
variable {v nh nd st a b n m : Nat} {V : Nat → Nat → Nat} {S : Nat → Nat → Int32} {t0 t0' t t' : tS}
theorem CS.ag {a2 : Nat} {t1 : tS} (h : CS nh nd a n m S t) (e6 : t1.1 a2 6 = t.1 a 6) (e7 : t1.1 a2 7 = t.1 a 7) (e8 : t1.1 a2 8 = t.1 a 8) (e : ∀ j i, 1 ≤ j → j ≤ 6 → t1.2.1 (a2 + j) i = t.2.1 (a + j) i) : CS nh nd a2 n m S t1 := by
  obtain ⟨h1, h2, h3, h4, h5, h6, h7, h8, h9⟩ := h
  refine ⟨e6.trans h1, e7.trans h2, e8.trans h3, ?_, ?_, ?_, ?_, ?_, ?_⟩
  · exact fun j hj => (e 1 j (by decide) (by decide)).trans (h4 j hj)
  · exact fun j hj => (e 2 j (by decide) (by decide)).trans (h5 j hj)
  · exact fun j hj => (e 3 j (by decide) (by decide)).trans (h6 j hj)
  · exact fun j hj => (e 4 j (by decide) (by decide)).trans (h7 j hj)
  · exact fun j hj => (e 5 j (by decide) (by decide)).trans (h8 j hj)
  · exact fun j hj => (e 6 j (by decide) (by decide)).trans (h9 j hj)
theorem ST.to {N N1 a2 b2 : Nat} {t1 t1' : tS} (h : ST nh nd st V a b N t t') (hN : N ≤ N1) (hc : ∀ n m S, CS nh nd a n m S t → CS nh nd a2 n m S t1) (hm : ∀ n m S, MS nh nd b n m S t' → MS nh nd b2 n m S t1') : ST nh nd st V a2 b2 N1 t1 t1' := by
  obtain ⟨n, m, S, s1, s2, s3, s4, s5, s6, s7⟩ := h
  exact ⟨n, m, S, hc _ _ _ s1, hm _ _ _ s2, s3, s4, s5, by omega, by omega⟩
theorem BR.ag {t1 t1' : tS} (h : BR v nh nd st V t t') (e1 : ∀ k, t1.1 v k = t.1 v k) (e2 : ∀ j i, 2 ≤ j → j ≤ 10 → t1.2.1 (v + j) i = t.2.1 (v + j) i) (e3 : t1.1 (v + 11) 2 = t.1 (v + 11) 2) (e4 : ∀ i, t1.2.1 (v + 12) i = t.2.1 (v + 12) i) (e5 : ∀ i, t1'.2.1 224 i = t'.2.1 224 i) (e6 : ∀ i, t1'.2.1 225 i = t'.2.1 225 i) (e7 : ∀ i, t1'.2.1 226 i = t'.2.1 226 i) : BR v nh nd st V t1 t1' := by
  obtain ⟨k1, k2, ⟨h1, h2, h3, h4, h5, h6, h7, h8, h9, h10, h11⟩, ⟨g1, g2, g3, g4, g5, g6, g7, g8, g9, g10⟩, k5⟩ := h
  refine ⟨k1, k2, ⟨(e1 _).trans h1, (e1 _).trans h2, (e1 _).trans h3, ?_, ?_, ?_, ?_, ?_, ?_, ?_, ?_⟩, ⟨(e5 _).trans g1, (e5 _).trans g2, (e5 _).trans g3, ?_, ?_, ?_, ?_, ?_, ?_, ?_⟩, ?_⟩
  · exact fun j hj => (e2 2 j (by decide) (by decide)).trans (h4 j hj)
  · exact fun j hj => (e2 3 j (by decide) (by decide)).trans (h5 j hj)
  · exact fun j hj => (e2 5 j (by decide) (by decide)).trans (h6 j hj)
  · exact fun j hj => (e2 6 j (by decide) (by decide)).trans (h7 j hj)
  · exact fun j hj => (e2 7 j (by decide) (by decide)).trans (h8 j hj)
  · exact fun j hj => (e2 8 j (by decide) (by decide)).trans (h9 j hj)
  · exact fun j hj => (e2 9 j (by decide) (by decide)).trans (h10 j hj)
  · exact fun j hj => (e2 10 j (by decide) (by decide)).trans (h11 j hj)
  · exact fun j hj => (e5 _).trans (g4 j hj)
  · exact fun j hj => (e5 _).trans (g5 j hj)
  · exact fun j hj => (e5 _).trans (g6 j hj)
  · exact fun j hj => (e5 _).trans (g7 j hj)
  · exact fun j hj => (e5 _).trans (g8 j hj)
  · exact fun j hj => (e5 _).trans (g9 j hj)
  · exact fun j hj => (e5 _).trans (g10 j hj)
  · unfold LR
    simp only [e1, e3, e4, e5, e6, e7]
    exact k5
/-- what is seen: the class's at a, the reference's at b -/
def SE (nh a b : Nat) (t t' : tS) : Prop := ∃ k, k ≤ 8 ∧ t.1 a 2 = nI k ∧ t'.2.1 234 (b + 30) = nI k ∧ ∀ i, i < k → t'.2.1 234 (b + (31 + 2 * i)) = t.2.1 (a + 1) i ∧ t'.2.1 234 (b + (32 + 2 * i)) = t.2.1 (a + 2) i ∧ (t.2.1 (a + 1) i = -1 ∨ NN (t.2.1 (a + 1) i) nh) ∧ NN (t.2.1 (a + 2) i) 25
theorem SE.ag {a2 b2 : Nat} {t1 t1' : tS} (h : SE nh a b t t') (e1 : t1.1 a2 2 = t.1 a 2) (e2 : ∀ i, i < 8 → t1.2.1 (a2 + 1) i = t.2.1 (a + 1) i) (e3 : ∀ i, i < 8 → t1.2.1 (a2 + 2) i = t.2.1 (a + 2) i) (e4 : ∀ j, 30 ≤ j → j < 47 → t1'.2.1 234 (b2 + j) = t'.2.1 234 (b + j)) : SE nh a2 b2 t1 t1' := by
  obtain ⟨k, h1, h2, h3, h4⟩ := h
  refine ⟨k, h1, e1.trans h2, (e4 30 (by omega) (by omega)).trans h3, ?_⟩
  intro i hi
  obtain ⟨g1, g2, g3, g4⟩ := h4 i hi
  rw [e2 i (by omega), e3 i (by omega), e4 _ (by omega) (by omega), e4 _ (by omega) (by omega)]
  exact ⟨g1, g2, g3, g4⟩
/-- what was ahead of the last things done, the newest first -/
def HI (nh nd st : Nat) (V : Nat → Nat → Nat) (N : Nat) (t t' : tS) : Prop := ∃ e k, e < 16 ∧ k ≤ 16 ∧ t.1 17 1 = nI e ∧ t.1 17 2 = nI k ∧ t'.1 218 25 = nI k ∧ ∀ i, i < k → ST nh nd st V (19 + 7 * ((e + 16 - i) % 16)) (47 * (5 + (k - 1 - i))) N t t'
/-- the marks -/
def MK (nh nd st : Nat) (V : Nat → Nat → Nat) (N : Nat) (t t' : tS) : Prop := ∀ m, m < 4 → (t.1 (132 + 11 * m) 2 = 0 ∧ t'.2.1 235 m = 0) ∨ (t.1 (132 + 11 * m) 2 = 1 ∧ t'.2.1 235 m = 1 ∧ ST nh nd st V (133 + 11 * m) (47 * (1 + m)) N t t' ∧ SE nh (140 + 11 * m) (47 * (1 + m)) t t')
/-- a line of a year: the class's act, day, house; the reference's row -/
def LN (nh nd : Nat) (c d h a x y : Int32) : Prop := (c = 0 ∧ a = 0) ∨ (∃ e g, e < nd ∧ g < nh ∧ c = 1 ∧ d = nI e ∧ h = nI g ∧ a = 1 ∧ x = nI e ∧ y = nI g) ∨ (∃ e, e < nd ∧ c = 2 ∧ d = nI e ∧ a = 2 ∧ x = nI e) ∨ (∃ g, g < nh ∧ c = 3 ∧ h = nI g ∧ a = 3 ∧ x = nI g)
def PL (nh nd p : Nat) (t t' : tS) : Prop := ∃ L, L ≤ 40 ∧ t.1 p 3 = nI L ∧ t'.2.1 231 0 = nI L ∧ ∀ i, i < L → LN nh nd (t.2.1 (p + 1) i) (t.2.1 (p + 2) i) (t.2.1 (p + 3) i) (t'.2.1 231 (1 + 3 * i)) (t'.2.1 231 (2 + 3 * i)) (t'.2.1 231 (3 + 3 * i))
theorem PL.ag {p : Nat} {t1 t1' : tS} (h : PL nh nd p t t') (e1 : ∀ k, t1.1 p k = t.1 p k) (e2 : ∀ j i, 1 ≤ j → j ≤ 3 → t1.2.1 (p + j) i = t.2.1 (p + j) i) (e3 : ∀ i, t1'.2.1 231 i = t'.2.1 231 i) : PL nh nd p t1 t1' := by
  have f1 : ∀ i, t1.2.1 (p + 1) i = t.2.1 (p + 1) i := fun i => e2 1 i (by decide) (by decide)
  have f2 : ∀ i, t1.2.1 (p + 2) i = t.2.1 (p + 2) i := fun i => e2 2 i (by decide) (by decide)
  have f3 : ∀ i, t1.2.1 (p + 3) i = t.2.1 (p + 3) i := fun i => e2 3 i (by decide) (by decide)
  unfold PL
  simp only [e1, f1, f2, f3, e3]
  exact h
/-- the tape -/
def TP (t t' : tS) : Prop := ∃ (L : Nat) (c : Nat → Nat), L ≤ 1000 ∧ t.1 1 1 = nI L ∧ t'.1 218 2 = nI L ∧ ∀ i, i < L → (c i = 10 ∨ (32 ≤ c i ∧ c i ≤ 126)) ∧ t.2.1 2 i = nI (c i) ∧ t'.2.1 219 i = nI (c i)
theorem TP.ag {t1 t1' : tS} (h : TP t t') (e1 : t1.1 1 1 = t.1 1 1) (e2 : ∀ i, t1.2.1 2 i = t.2.1 2 i) (e3 : t1'.1 218 2 = t'.1 218 2) (e4 : ∀ i, t1'.2.1 219 i = t'.2.1 219 i) : TP t1 t1' := by
  unfold TP
  simp only [e1, e2, e3, e4]
  exact h
/-- letters as digits -/
def enc (b : Nat) : List Nat → Nat → Nat
  | [], k => k
  | x :: l, k => enc b l (b * k + x)
/-- a word: 1 to 8 letters -/
def IW (w : List Nat) : Prop := 1 ≤ w.length ∧ w.length ≤ 8 ∧ ∀ x ∈ w, 1 ≤ x ∧ x ≤ 26
/-- the words that are kept, letter by letter -/
def kw : List (List Nat) := [[8, 15, 21, 19, 5], [2, 5, 4, 19], [12, 5, 14, 4, 19], [4, 1, 25], [15, 6], [15, 14], [19, 1, 25, 19], [3, 12, 1, 19, 8], [19, 20, 1, 25, 19], [6, 1, 4, 5, 19], [4, 1, 20, 5], [13, 15, 22, 5], [19, 5, 14, 4], [2, 21, 9, 12, 4], [16, 12, 1, 9, 14], [2, 9, 7], [5, 1, 18, 12, 25], [12, 5, 1, 16], [14, 15, 20], [1, 14, 4], [15, 18], [12, 15, 21, 4], [6, 21, 12, 12], [13, 15, 14, 20, 8], [20, 9, 13, 5, 19]]
/-- the names told: the k-th, and what it is the name of (a house, or 20 and a day) -/
def NM (v nh nd : Nat) (bn bo bm : Nat) (ns : Nat → List Nat) (kd : Nat → Nat) (t t' : tS) : Prop :=
  t'.1 218 bm = nI (nh + nd) ∧ (∀ k, k < nh + nd → IW (ns k) ∧ t'.2.2.1 bn k = Int64.ofNat (enc 37 (ns k) 0) ∧ t'.2.1 bo k = nI (kd k) ∧ ((kd k < nh ∧ t.2.2.1 (v + 1) (kd k) = Int64.ofNat (enc 32 (ns k) 0)) ∨ (20 ≤ kd k ∧ kd k < 20 + nd ∧ t.2.2.1 (v + 4) (kd k - 20) = Int64.ofNat (enc 32 (ns k) 0)))) ∧ (∀ j, j < nh → ∃ k, k < nh + nd ∧ kd k = j) ∧ (∀ j, j < nd → ∃ k, k < nh + nd ∧ kd k = 20 + j) ∧ (∀ i j, i < nh + nd → j < nh + nd → ns i = ns j → i = j)
theorem NM.ag {bn bo bm : Nat} {ns : Nat → List Nat} {kd : Nat → Nat} {t1 t1' : tS} (h : NM v nh nd bn bo bm ns kd t t') (e1 : ∀ i, t1.2.2.1 (v + 1) i = t.2.2.1 (v + 1) i) (e2 : ∀ i, t1.2.2.1 (v + 4) i = t.2.2.1 (v + 4) i) (e3 : t1'.1 218 bm = t'.1 218 bm) (e4 : ∀ i, t1'.2.2.1 bn i = t'.2.2.1 bn i) (e5 : ∀ i, t1'.2.1 bo i = t'.2.1 bo i) : NM v nh nd bn bo bm ns kd t1 t1' := by
  unfold NM
  simp only [e1, e2, e3, e4, e5]
  exact h
/-- the reference's words -/
def WD (t' : tS) : Prop := ∀ i, i < 25 → t'.2.2.1 223 i = Int64.ofNat (enc 37 (kw.getD i []) 0)
theorem WD.ag {t1' : tS} (h : WD t') (e : ∀ i, t1'.2.2.1 223 i = t'.2.2.1 223 i) : WD t1' := fun i hi => (e i).trans (h i hi)
/-- all that lasts -/
def GP (v w p q nh nd st : Nat) (V : Nat → Nat → Nat) (N : Nat) (t t' : tS) : Prop :=
  ((v = 182 ∧ w = 196) ∨ (v = 196 ∧ w = 182)) ∧ ((p = 210 ∧ q = 214) ∨ (p = 214 ∧ q = 210)) ∧ (t.2.2.2.2 0 9 = v ∧ t.2.2.2.2 0 10 = w ∧ t.2.2.2.2 0 11 = p ∧ t.2.2.2.2 0 12 = q) ∧ BR v nh nd st V t t' ∧ ST nh nd st V 3 0 N t t' ∧ HI nh nd st V N t t' ∧ MK nh nd st V N t t' ∧ SE nh 176 0 t t' ∧ PL nh nd p t t' ∧ TP t t' ∧ (∃ ns kd, NM v nh nd 227 229 18 ns kd t t') ∧ WD t' ∧ N ≤ 1000
def GR (N : Nat) (t t' : tS) : Prop := ∃ v w p q nh nd st V, GP v w p q nh nd st V N t t'
/-- what the things done may change -/
def YK (t t1 : tS) : Prop := (∀ b k, b ≠ 3 → b ≠ 10 → ¬ (17 ≤ b ∧ b ≤ 130) → t1.1 b k = t.1 b k) ∧ (∀ b i, ¬ (4 ≤ b ∧ b ≤ 16) → ¬ (17 ≤ b ∧ b ≤ 130) → b ≠ 195 → b ≠ 209 → ¬ (179 ≤ b ∧ b ≤ 181) → t1.2.1 b i = t.2.1 b i) ∧ t1.2.2.1 = t.2.2.1 ∧ t1.2.2.2.2 = t.2.2.2.2
def ZK (t t1 : tS) : Prop := (∀ c k, ¬ (c = 218 ∧ (k = 0 ∨ k = 25 ∨ k = 28 ∨ k = 29)) → t1.1 c k = t.1 c k) ∧ (∀ c i, c ≠ 232 → c ≠ 233 → c ≠ 237 → ¬ (c = 234 ∧ (i < 30 ∨ 235 ≤ i)) → t1.2.1 c i = t.2.1 c i) ∧ t1.2.2.1 = t.2.2.1 ∧ t1.2.2.2.2 = t.2.2.2.2
theorem YK.rf : YK t t := ⟨fun _ _ _ _ _ => rfl, fun _ _ _ _ _ _ _ => rfl, rfl, rfl⟩
theorem YK.tr {t1 t2 : tS} (h : YK t t1) (g : YK t1 t2) : YK t t2 := ⟨fun b k h1 h2 h3 => (g.1 b k h1 h2 h3).trans (h.1 b k h1 h2 h3), fun b i h1 h2 h3 h4 h5 => (g.2.1 b i h1 h2 h3 h4 h5).trans (h.2.1 b i h1 h2 h3 h4 h5), g.2.2.1.trans h.2.2.1, g.2.2.2.trans h.2.2.2⟩
theorem ZK.rf : ZK t t := ⟨fun _ _ _ => rfl, fun _ _ _ _ _ _ => rfl, rfl, rfl⟩
theorem ZK.tr {t1 t2 : tS} (h : ZK t t1) (g : ZK t1 t2) : ZK t t2 := ⟨fun b k hb => (g.1 b k hb).trans (h.1 b k hb), fun b i h1 h2 h3 h4 => (g.2.1 b i h1 h2 h3 h4).trans (h.2.1 b i h1 h2 h3 h4), g.2.2.1.trans h.2.2.1, g.2.2.2.trans h.2.2.2⟩
theorem YQ.yk {t1 : tS} (h : YQ t t1) : YK t t1 := ⟨fun b k _ h2 _ => h.1 b k h2, fun b i h1 _ h3 h4 h5 => h.2.1 b i (by omega) h3 h4 h5, h.2.2.1, h.2.2.2⟩
theorem ZQ.zk {t1 : tS} (h : ZQ t t1) : ZK t t1 := ⟨fun c k hc => h.1 c k (by omega), fun c i h1 h2 h3 h4 => h.2.1 c i h1 h2 h3 (by omega), h.2.2.1, h.2.2.2⟩
theorem ZK.th {k : Nat} {x : Int32} (hk : k = 0 ∨ k = 25 ∨ k = 28 ∨ k = 29) : ZK t (uI t 218 k x) := by
  refine ⟨fun c j hc => ?_, fun _ _ _ _ _ _ => rfl, rfl, rfl⟩
  rw [uI_1, if_neg (by omega)]
theorem GP.h4 {w p q N : Nat} (h : GP v w p q nh nd st V N t t') : nh ≤ 4 := h.2.2.2.1.1.1
theorem GP.h6 {w p q N : Nat} (h : GP v w p q nh nd st V N t t') : nd ≤ 6 := h.2.2.2.1.1.2.1
theorem GP.qr {w p q N : Nat} (h : GP v w p q nh nd st V N t t') : QR v nh nd st V N t t' := ⟨by have := h.1; omega, h.2.2.1.1, h.2.2.2.1, h.2.2.2.2.1, h.2.2.2.2.2.2.2.2.2.2.2.2⟩
theorem YK.br {w p q N : Nat} {t1 t1' : tS} (h : GP v w p q nh nd st V N t t') (hy : YK t t1) (hz : ZK t' t1') : BR v nh nd st V t1 t1' := by
  have hv := h.1
  refine h.2.2.2.1.ag (fun k => hy.1 _ _ (by omega) (by omega) (by omega)) (fun j i h1 h2 => hy.2.1 _ _ (by omega) (by omega) (by omega) (by omega) (by omega)) (hy.1 _ _ (by omega) (by omega) (by omega)) (fun i => hy.2.1 _ _ (by omega) (by omega) (by omega) (by omega) (by omega)) (fun i => hz.2.1 _ _ (by omega) (by omega) (by omega) (by omega)) (fun i => hz.2.1 _ _ (by omega) (by omega) (by omega) (by omega)) (fun i => hz.2.1 _ _ (by omega) (by omega) (by omega) (by omega))
theorem YK.mk {N N1 : Nat} {t1 t1' : tS} (h : MK nh nd st V N t t') (h4 : nh ≤ 4) (h6 : nd ≤ 6) (hN : N ≤ N1) (hy : YK t t1) (hz : ZK t' t1') : MK nh nd st V N1 t1 t1' := by
  intro m hm
  have e1 : t1.1 (132 + 11 * m) 2 = t.1 (132 + 11 * m) 2 := hy.1 _ _ (by omega) (by omega) (by omega)
  have e2 : t1'.2.1 235 m = t'.2.1 235 m := hz.2.1 _ _ (by omega) (by omega) (by omega) (by omega)
  rw [e1, e2]
  rcases h m hm with g | ⟨g1, g2, g3, g4⟩
  · exact .inl g
  · refine .inr ⟨g1, g2, g3.to hN ?_ ?_, ?_⟩
    · intro n m S hc
      exact hc.ag (hy.1 _ _ (by omega) (by omega) (by omega)) (hy.1 _ _ (by omega) (by omega) (by omega)) (hy.1 _ _ (by omega) (by omega) (by omega)) (fun j i _ _ => hy.2.1 _ _ (by omega) (by omega) (by omega) (by omega) (by omega))
    · intro n m S hc
      exact hc.copy h4 h6 (fun j hj => hz.2.1 _ _ (by omega) (by omega) (by omega) (by omega)) (fun j => hz.2.1 _ _ (by omega) (by omega) (by omega) (by omega))
    · exact g4.ag (hy.1 _ _ (by omega) (by omega) (by omega)) (fun i _ => hy.2.1 _ _ (by omega) (by omega) (by omega) (by omega) (by omega)) (fun i _ => hy.2.1 _ _ (by omega) (by omega) (by omega) (by omega) (by omega)) (fun j _ _ => hz.2.1 _ _ (by omega) (by omega) (by omega) (by omega))
theorem YK.se {t1 t1' : tS} (h : SE nh 176 0 t t') (hy : YK t t1) (hz : ZK t' t1') : SE nh 176 0 t1 t1' := h.ag (hy.1 _ _ (by omega) (by omega) (by omega)) (fun i _ => hy.2.1 _ _ (by omega) (by omega) (by omega) (by omega) (by omega)) (fun i _ => hy.2.1 _ _ (by omega) (by omega) (by omega) (by omega) (by omega)) (fun j _ _ => hz.2.1 _ _ (by omega) (by omega) (by omega) (by omega))
theorem YK.pl {p : Nat} {t1 t1' : tS} (h : PL nh nd p t t') (hp : p = 210 ∨ p = 214) (hy : YK t t1) (hz : ZK t' t1') : PL nh nd p t1 t1' := h.ag (fun k => hy.1 _ _ (by omega) (by omega) (by omega)) (fun j i _ _ => hy.2.1 _ _ (by omega) (by omega) (by omega) (by omega) (by omega)) (fun i => hz.2.1 _ _ (by omega) (by omega) (by omega) (by omega))
theorem YK.tp {t1 t1' : tS} (h : TP t t') (hy : YK t t1) (hz : ZK t' t1') : TP t1 t1' := h.ag (hy.1 _ _ (by omega) (by omega) (by omega)) (fun i => hy.2.1 _ _ (by omega) (by omega) (by omega) (by omega) (by omega)) (hz.1 _ _ (by omega)) (fun i => hz.2.1 _ _ (by omega) (by omega) (by omega) (by omega))
theorem YK.nm {t1 t1' : tS} (h : ∃ ns kd, NM v nh nd 227 229 18 ns kd t t') (hy : YK t t1) (hz : ZK t' t1') : ∃ ns kd, NM v nh nd 227 229 18 ns kd t1 t1' := by
  obtain ⟨ns, kd, h⟩ := h
  exact ⟨ns, kd, h.ag (fun i => by rw [hy.2.2.1]) (fun i => by rw [hy.2.2.1]) (hz.1 _ _ (by omega)) (fun i => by rw [hz.2.2.1]) (fun i => hz.2.1 _ _ (by omega) (by omega) (by omega) (by omega))⟩
/-- what is done keeps the rest -/
theorem GP.k {w p q N N1 : Nat} {t1 t1' : tS} (h : GP v w p q nh nd st V N t t') (hy : YK t t1) (hz : ZK t' t1') (hs : ST nh nd st V 3 0 N1 t1 t1') (hh : HI nh nd st V N1 t1 t1') (hN : N ≤ N1) (hN1 : N1 ≤ 1000) : GP v w p q nh nd st V N1 t1 t1' := by
  have h4 := h.h4
  have h6 := h.h6
  have hbr := YK.br h hy hz
  obtain ⟨k1, k2, k3, k4, k5, k6, k7, k8, k9, k10, k11, k12, k13⟩ := h
  refine ⟨k1, k2, ?_, hbr, hs, hh, YK.mk k7 h4 h6 hN hy hz, YK.se k8 hy hz, YK.pl k9 (by omega) hy hz, YK.tp k10 hy hz, YK.nm k11 hy hz, k12.ag (fun i => by rw [hz.2.2.1]), hN1⟩
  rw [hy.2.2.2]
  exact k3
theorem HI.to {N N1 : Nat} {t1 t1' : tS} (h : HI nh nd st V N t t') (hN : N ≤ N1) (e1 : t1.1 17 1 = t.1 17 1) (e2 : t1.1 17 2 = t.1 17 2) (e3 : t1'.1 218 25 = t'.1 218 25) (hs : ∀ s r, s < 16 → r < 16 → ST nh nd st V (19 + 7 * s) (47 * (5 + r)) N t t' → ST nh nd st V (19 + 7 * s) (47 * (5 + r)) N1 t1 t1') : HI nh nd st V N1 t1 t1' := by
  obtain ⟨e, k, h1, h2, h3, h4, h5, h6⟩ := h
  exact ⟨e, k, h1, h2, e1.trans h3, e2.trans h4, e3.trans h5, fun i hi => hs _ _ (Nat.mod_lt _ (by decide)) (by omega) (h6 i hi)⟩
/-- a question keeps all -/
theorem GP.q {w p q N : Nat} {t1 t1' : tS} (h : GP v w p q nh nd st V N t t') (hy : YQ t t1) (hz : ZQ t' t1') : GP v w p q nh nd st V N t1 t1' := by
  have h4 := h.h4
  have h6 := h.h6
  refine h.k hy.yk hz.zk ?_ ?_ (Nat.le_refl _) h.2.2.2.2.2.2.2.2.2.2.2.2
  · refine h.2.2.2.2.1.to (Nat.le_refl _) ?_ ?_
    · intro n m S hc
      exact hc.ag (hy.1 _ _ (by omega)) (hy.1 _ _ (by omega)) (hy.1 _ _ (by omega)) (fun j i _ _ => hy.2.1 _ _ (by omega) (by omega) (by omega) (by omega))
    · intro n m S hc
      exact hc.copy h4 h6 (fun j hj => hz.2.1 _ _ (by omega) (by omega) (by omega) (by omega)) (fun j => hz.2.1 _ _ (by omega) (by omega) (by omega) (by omega))
  · refine h.2.2.2.2.2.1.to (Nat.le_refl _) (hy.1 _ _ (by omega)) (hy.1 _ _ (by omega)) (hz.1 _ _ (by omega)) ?_
    intro s r hs hr h0
    refine h0.to (Nat.le_refl _) ?_ ?_
    · intro n m S hc
      exact hc.ag (hy.1 _ _ (by omega)) (hy.1 _ _ (by omega)) (hy.1 _ _ (by omega)) (fun j i _ _ => hy.2.1 _ _ (by omega) (by omega) (by omega) (by omega))
    · intro n m S hc
      exact hc.copy h4 h6 (fun j hj => hz.2.1 _ _ (by omega) (by omega) (by omega) (by omega)) (fun j => hz.2.1 _ _ (by omega) (by omega) (by omega) (by omega))
theorem GP.mo {w p q N N1 : Nat} (h : GP v w p q nh nd st V N t t') (hN : N ≤ N1) (hN1 : N1 ≤ 1000) : GP v w p q nh nd st V N1 t t' := by
  refine h.k YK.rf ZK.rf (h.2.2.2.2.1.to hN (fun _ _ _ => id) (fun _ _ _ => id)) ?_ hN hN1
  exact h.2.2.2.2.2.1.to hN rfl rfl rfl (fun s r _ _ h0 => h0.to hN (fun _ _ _ => id) (fun _ _ _ => id))
/-- a call's answers are alike, and all that lasts is alike behind it -/
def QG (N : Nat) (o o' : Option (Int32 × tS)) : Prop := ∃ r t1 t1', o = some (r, t1) ∧ o' = some (r, t1') ∧ GR N t1 t1'
theorem QA.g {N : Nat} {o o' : Option (Int32 × tS)} (h : GR N t t') (q : QA o o' t t') (hN : N + 1 ≤ 1000) : QG (N + 1) o o' := by
  obtain ⟨v, w, p, q', nh, nd, st, V, h⟩ := h
  obtain ⟨r, t1, t1', e1, e2, e3, e4⟩ := q
  exact ⟨r, t1, t1', e1, e2, v, w, p, q', nh, nd, st, V, (h.q e3 e4).mo (by omega) hN⟩
theorem QB.g {N : Nat} {o : Option Int32} {o' : Option (Int32 × tS)} (h : GR N t t') (q : QB o o' t') (hN : N + 1 ≤ 1000) : ∃ r t1', o = some r ∧ o' = some (r, t1') ∧ GR (N + 1) t t1' := by
  obtain ⟨v, w, p, q', nh, nd, st, V, h⟩ := h
  obtain ⟨r, e1, e2⟩ := q
  exact ⟨r, _, e1, e2, v, w, p, q', nh, nd, st, V, (h.q YQ.rf (ZQ.th (.inl rfl))).mo (by omega) hN⟩
end
