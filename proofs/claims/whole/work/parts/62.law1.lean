/-! ===== PURE: the law of fading is read: states, one operator's loop ===== -/
section
variable {v nh nd st a b n m : Nat} {V : Nat → Nat → Nat} {S : Nat → Nat → Int32} {t0 t0' t t' : tS}
variable {c so pl bh : Nat → Nat} {L M k w : Nat}
/-- what the class, and the reference, change while a law is read -/
def LC (w : Nat) (t t1 : tS) : Prop := (∀ b j, b ≠ 1 → ¬ (b = w + 11 ∧ j = 2) → t1.1 b j = t.1 b j) ∧ (∀ b i, b ≠ w + 12 → t1.2.1 b i = t.2.1 b i) ∧ t1.2.2.1 = t.2.2.1 ∧ t1.2.2.2.2 = t.2.2.2.2
def LM (t t1 : tS) : Prop := (∀ b j, ¬ (b = 218 ∧ (j = 7 ∨ j = 8 ∨ j = 13)) → t1.1 b j = t.1 b j) ∧ (∀ b i, ¬ ((b = 225 ∨ b = 226) ∧ 1100 ≤ i) → t1.2.1 b i = t.2.1 b i) ∧ t1.2.2 = t.2.2
theorem LC.rf : LC w t t := ⟨fun _ _ _ _ => rfl, fun _ _ _ => rfl, rfl, rfl⟩
theorem LC.tr {t1 t2 : tS} (h : LC w t t1) (g : LC w t1 t2) : LC w t t2 := ⟨fun b j h1 h2 => (g.1 b j h1 h2).trans (h.1 b j h1 h2), fun b i h1 => (g.2.1 b i h1).trans (h.2.1 b i h1), g.2.2.1.trans h.2.2.1, g.2.2.2.trans h.2.2.2⟩
theorem LM.rf : LM t t := ⟨fun _ _ _ => rfl, fun _ _ _ => rfl, rfl⟩
theorem LM.tr {t1 t2 : tS} (h : LM t t1) (g : LM t1 t2) : LM t t2 := ⟨fun b j h1 => (g.1 b j h1).trans (h.1 b j h1), fun b i h1 => (g.2.1 b i h1).trans (h.2.1 b i h1), g.2.2.trans h.2.2⟩
theorem CO1.lc {t1 : tS} (h : CO1 t t1) : LC w t t1 := ⟨fun b j h1 _ => h.1 b j h1, fun b i _ => by rw [h.2.1], h.2.2.1, h.2.2.2.2⟩
theorem RO1.lm {t1 : tS} (h : RO1 t t1) : LM t t1 := ⟨fun b j h1 => h.1 b j (by omega), fun b i _ => by rw [h.2], by rw [h.2]⟩
/-- a law being read: len items, p values waiting -/
def LST (c : Nat → Nat) (L M : Nat) (so pl bh : Nat → Nat) (w k len p : Nat) (t t' : tS) : Prop := PC c L M so pl bh k t t' ∧ t.1 (w + 11) 2 = nI len ∧ t'.1 218 13 = nI len ∧ len + 1 ≤ k ∧ ∃ dp : Nat → Nat, dp 0 = 0 ∧ dp len = p ∧ ∀ i, i < len → LI (t.2.1 (w + 12) i) (t'.2.1 225 (1100 + i)) (t'.2.1 226 (1100 + i)) (dp i) (dp (i + 1))
theorem LST.go {k1 len p : Nat} {t1 t1' : tS} (h : LST c L M so pl bh w k len p t t') (hw : w = 182 ∨ w = 196) (hp : PC c L M so pl bh k1 t1 t1') (hk : k ≤ k1) (hc : CO1 t t1) (hr : RO1 t' t1') : LST c L M so pl bh w k1 len p t1 t1' := by
  obtain ⟨h1, h2, h3, h4, dp, h5, h6, h7⟩ := h
  refine ⟨hp, (hc.1 _ _ (by omega)).trans h2, (hr.1 _ _ (by omega)).trans h3, by omega, dp, h5, h6, fun i hi => ?_⟩
  rw [hc.2.1, hr.2]
  exact h7 i hi
theorem emit_e {len : Nat} {o g : Int32} (h : t'.1 218 13 = nI len) (hl : len < 1100) : tX10_emit o g t' = some (uI (uA (uA t' 225 (1100 + len) o) 226 (1100 + len) g) 218 13 (nI (len + 1))) := by
  have w1 : (uA t' 225 (1100 + len) o).1 218 13 = nI len := h
  have w2 : (uA (uA t' 225 (1100 + len) o) 226 (1100 + len) g).1 218 13 = nI len := h
  unfold tX10_emit
  simp (disch := omega) only [tA_e, tA_l, tW0_e, tW0_l, nN_al, nN_la, nN_ad, nN_lm, nN_ml, nN_le, nN_lt, nN_eq, nN_lel, nN_lle, nN_ltl, nN_llt, nN_eql, nN_rm, nN_dv, ob_s, ob_2, ob_3, ite_true, ite_false, not_true_eq_false, not_false_eq_true, ite_self, eq_self, Nat.add_zero, h, w1, w2]
theorem LM.em {len : Nat} {o g : Int32} : LM t' (uI (uA (uA t' 225 (1100 + len) o) 226 (1100 + len) g) 218 13 (nI (len + 1))) := by
  refine ⟨fun b j h1 => uI_o (by omega), fun b i h1 => ?_, rfl⟩
  show (uA (uA t' 225 (1100 + len) o) 226 (1100 + len) g).2.1 b i = _
  rw [uA_o (by omega), uA_o (by omega)]
theorem add1_e {len : Nat} {x : Int32} (h : t.1 (w + 11) 2 = nI len) (hl : len < 1000) : tX1_add (w + 11) x t = some (uI (uA t (w + 12) len x) (w + 11) 2 (nI (len + 1))) := by
  have w1 : (uA t (w + 11 + 1) len x).1 (w + 11) 2 = nI len := h
  have c1 : ¬ 1000 ≤ len := by omega
  unfold tX1_add
  rw [nN_of]
  simp (disch := omega) only [tA_e, tA_l, tW0_e, tW0_l, nN_al, nN_la, nN_ad, nN_lm, nN_ml, nN_le, nN_lt, nN_eq, nN_lel, nN_lle, nN_ltl, nN_llt, nN_eql, nN_rm, nN_dv, ob_s, ob_2, ob_3, ite_true, ite_false, not_true_eq_false, not_false_eq_true, ite_self, eq_self, Nat.add_zero, h, c1, w1]
theorem LC.ad {len : Nat} {x : Int32} : LC w t (uI (uA t (w + 12) len x) (w + 11) 2 (nI (len + 1))) := by
  refine ⟨fun b j h1 h2 => uI_o (by omega), fun b i h1 => ?_, rfl, rfl⟩
  show (uA t (w + 12) len x).2.1 b i = _
  rw [uA_o (by omega)]
/-- one more item -/
theorem LST.add {len p q : Nat} {x o g : Int32} (h : LST c L M so pl bh w k len p t t') (hT : TK c L M so pl bh) (hw : w = 182 ∨ w = 196) (hl : len + 2 ≤ k) (hi : LI x o g p q) : ∃ t1 t1', tX1_add (w + 11) x t = some t1 ∧ tX10_emit o g t' = some t1' ∧ LST c L M so pl bh w k (len + 1) q t1 t1' ∧ LC w t t1 ∧ LM t' t1' := by
  have hM := hT.2.2.1
  have hL := hT.1
  obtain ⟨h1, h2, h3, h4, dp, h5, h6, h7⟩ := h
  have hk := h1.1
  refine ⟨_, _, add1_e h2 (by omega), emit_e h3 (by omega), ⟨?_, uI_s, uI_s, by omega, fun i => if i ≤ len then dp i else q, ?_, ?_, fun i hi2 => ?_⟩, LC.ad, LM.em⟩
  · refine h1.ag (fun j _ => uI_o (by omega)) (fun i => ?_) rfl (uI_o (by omega)) (uI_o (by omega)) (fun i => ?_) (fun i => ?_) (fun _ => rfl) (fun _ => rfl)
    · show (uA t (w + 12) len x).2.1 2 i = _
      rw [uA_o (by omega)]
    · show (uA (uA t' 225 (1100 + len) o) 226 (1100 + len) g).2.1 220 i = _
      rw [uA_o (by omega), uA_o (by omega)]
    · show (uA (uA t' 225 (1100 + len) o) 226 (1100 + len) g).2.1 221 i = _
      rw [uA_o (by omega), uA_o (by omega)]
  · show (if 0 ≤ len then dp 0 else q) = 0
    rw [if_pos (by omega)]; exact h5
  · show (if len + 1 ≤ len then dp (len + 1) else q) = q
    rw [if_neg (by omega)]
  · show LI ((uA t (w + 12) len x).2.1 (w + 12) i) ((uA (uA t' 225 (1100 + len) o) 226 (1100 + len) g).2.1 225 (1100 + i)) ((uA (uA t' 225 (1100 + len) o) 226 (1100 + len) g).2.1 226 (1100 + i)) (if i ≤ len then dp i else q) (if i + 1 ≤ len then dp (i + 1) else q)
    by_cases e : i = len
    · subst e
      rw [uA_s, uA_o (by omega), uA_s, uA_s, if_pos (Nat.le_refl _), if_neg (by omega), h6]
      exact hi
    · rw [uA_o (by omega), uA_o (by omega), uA_o (by omega), uA_o (by omega), uA_o (by omega), if_pos (by omega), if_pos (by omega)]
      exact h7 i (by omega)
/-- how a piece of a law ends, in both -/
def OUT (c : Nat → Nat) (L M : Nat) (so pl bh : Nat → Nat) (w k len p B : Nat) (oc : Option (Int32 × tS)) (om : Option tS) (t t' : tS) : Prop :=
  (∃ k1 len1 t1 t1', oc = some (1, t1) ∧ om = some t1' ∧ LST c L M so pl bh w k1 len1 p t1 t1' ∧ len1 + k ≤ len + k1 ∧ k ≤ k1 ∧ LC w t t1 ∧ LM t' t1') ∨ (∃ F cd t1 t1', oc = some (0, t1) ∧ om = some t1' ∧ 0 < F ∧ F < 100000 ∧ t1.1 1 7 = nI F ∧ t1'.1 218 8 = nI F ∧ t1'.1 218 13 = nI cd ∧ cd ≤ 1000 + B ∧ LC w t t1 ∧ LM t' t1')
theorem NOx.out {F len p B : Nat} {t1 t1' : tS} (h : LST c L M so pl bh w k len p t t') (hT : TK c L M so pl bh) (g : NOx F t t' t1 t1') {q : Nat} : OUT c L M so pl bh w k len q B (some (0, t1)) (some t1') t t' := by
  obtain ⟨g1, g2, g3, g4, g5, g6⟩ := g
  have hk := h.1.1
  have hM := hT.2.2.1
  have hL := hT.1
  have hl := h.2.2.2.1
  exact .inr ⟨F, len, t1, t1', rfl, rfl, g1, g2, g3, g4, (g6.1 _ _ (by omega)).trans h.2.2.1, by omega, g5.lc, g6.lm⟩
/-- the operators of a level at a token: the class's and the reference's words for it -/
def OPS (x m : Int32) : Prop := (x = -6 ∧ m = 9) ∨ (x = -7 ∧ m = 10) ∨ (x = -8 ∧ m = 7) ∨ (x = -9 ∧ m = 8) ∨ (x = -10 ∧ m = 4) ∨ (x = -11 ∧ m = 5) ∨ (x = -12 ∧ m = 6)
theorem OPS.n0 {x m : Int32} (h : OPS x m) : ¬ x = 0 := by
  rcases h with ⟨rfl, _⟩ | ⟨rfl, _⟩ | ⟨rfl, _⟩ | ⟨rfl, _⟩ | ⟨rfl, _⟩ | ⟨rfl, _⟩ | ⟨rfl, _⟩ <;> decide
/-- a level's loop in the reference -/
def LOOPS (c : Nat → Nat) (L M : Nat) (so pl bh : Nat → Nat) (lv : Nat) (op : Nat → Option (Int32 × Int32)) (G : tS → Option tS) (R : Nat → tS → Option tS) : Prop :=
  (∀ k t t', PC c L M so pl bh k t t' → op k = none → tX1_operatorOf (nI lv) t = some 0 ∧ ∀ f, R (f + 1) t' = some t') ∧ (∀ k t t' x m, PC c L M so pl bh k t t' → op k = some (x, m) → k < M ∧ OPS x m ∧ tX1_operatorOf (nI lv) t = some x ∧ ∀ f, R (f + 1) t' = (G (uI t' 218 7 (nI (k + 1)))).bind fun t3 => (tX10_emit m 0 t3).bind fun t4 => R f t4) ∧ (∀ t', FT t' → ∀ f, R (f + 1) t' = some t')
/-- what is read at a level, by the next one -/
def NXT (c : Nat → Nat) (L M : Nat) (so pl bh : Nat → Nat) (w P B : Nat) (C : tS → Option (Int32 × tS)) (G : tS → Option tS) : Prop := ∀ k len p t t', LST c L M so pl bh w k len p t t' → p ≤ P → OUT c L M so pl bh w k len (p + 1) B (C t) (G t') t t'
theorem lvL {lv de P B : Nat} {op : Nat → Option (Int32 × Int32)} {rc : Nat → Nat → Int32 → Int32 → tS → Option (Int32 × tS)} {G : tS → Option tS} {R : Nat → tS → Option tS} (hT : TK c L M so pl bh) (hw : w = 182 ∨ w = 196) (hlv : lv < 4) (h1 : lv ≠ 1) (hB : B ≤ 50) (hR : LOOPS c L M so pl bh lv op G R) (hN : NXT c L M so pl bh w (P + 1) B (fun t => rc 0 (w + 11) (nI (lv + 1)) (nI de) t) G) : ∀ (r k len p j f f' : Nat) (t t' : tS), LST c L M so pl bh w k len (p + 1) t t' → M - k ≤ r → j + 1 ≤ k → p ≤ P → r < f → r < f' → ∃ o om, tX1_readLevel_L29 rc f (w + 11) (nI lv) (nI de) (nI j) t = some (.inr o) ∧ R f' t' = some om ∧ OUT c L M so pl bh w k len (p + 1) (B + 1) (some o) (some om) t t' := by
  have hM := hT.2.2.1
  have hL := hT.1
  intro r
  induction r with
  | zero =>
    intro k len p j f f' t t' h hr hj hp hf hf'
    obtain ⟨f, rfl⟩ : ∃ g, f = g + 1 := ⟨f - 1, by omega⟩
    obtain ⟨f', rfl⟩ : ∃ g, f' = g + 1 := ⟨f' - 1, by omega⟩
    have hk := h.1.1
    have hop : op k = none := by
      cases e : op k with
      | none => rfl
      | some xm =>
        obtain ⟨x, m⟩ := xm
        have := (hR.2.1 k t t' x m h.1 e).1
        omega
    obtain ⟨a1, a2⟩ := hR.1 k t t' h.1 hop
    rw [tX1_readLevel_L29, if_neg (by rw [nN_lle (by omega) (by decide)]; omega), a1, ob_s, if_neg (by decide), a2 f']
    exact ⟨_, _, rfl, rfl, .inl ⟨k, len, t, t', rfl, rfl, h, Nat.le_refl _, Nat.le_refl _, LC.rf, LM.rf⟩⟩
  | succ r ih =>
    intro k len p j f f' t t' h hr hj hp hf hf'
    obtain ⟨f, rfl⟩ : ∃ g, f = g + 1 := ⟨f - 1, by omega⟩
    obtain ⟨f', rfl⟩ : ∃ g, f' = g + 1 := ⟨f' - 1, by omega⟩
    have hk := h.1.1
    have hl := h.2.2.2.1
    rw [tX1_readLevel_L29, if_neg (by rw [nN_lle (by omega) (by decide)]; omega)]
    cases e : op k with
    | none =>
      obtain ⟨a1, a2⟩ := hR.1 k t t' h.1 e
      rw [a1, ob_s, if_neg (by decide), a2 f']
      exact ⟨_, _, rfl, rfl, .inl ⟨k, len, t, t', rfl, rfl, h, Nat.le_refl _, Nat.le_refl _, LC.rf, LM.rf⟩⟩
    | some xm =>
      obtain ⟨x, m⟩ := xm
      obtain ⟨a1, a2, a3, a4⟩ := hR.2.1 k t t' x m h.1 e
      obtain ⟨T, e1, e2, e3⟩ := h.1.step hT a1
      have h2 := h.go hw e2 (by omega) e3.co (RO1.wI (.inl rfl))
      have n1 : ¬ nI lv = (1 : Int32) := by rw [nN_eql (by omega) (by decide)]; exact h1
      rw [a3, ob_s, if_pos a2.n0, e1, ob_s, nN_al, a4 f', nN_al]
      rcases hN (k + 1) len (p + 1) T _ h2 (by omega) with ⟨k1, len1, t1, t1', b1, b2, b3, b4, b5, b6, b7⟩ | ⟨F, cd, t1, t1', b1, b2, b3, b4, b5, b6, b7, b8, b9, b10⟩
      · have b1' : rc 0 (w + 11) (nI (lv + 1)) (nI de) T = some (1, t1) := b1
        obtain ⟨t2, t2', d1, d2, d3, d4, d5⟩ := b3.add hT hw (x := x) (o := m) (g := 0) (q := p + 1) (by have := b3.2.2.2.1; omega) (.inr (.inr (.inr ⟨a2, by omega, rfl⟩)))
        rw [b1', b2, ob_2, if_pos (by decide), d1, ob_s, ob_s, if_pos n1, d2, ob_s]
        obtain ⟨o, om, f1, f2, f3⟩ := ih k1 (len1 + 1) p (j + 1) f f' t2 t2' d3 (by omega) (by omega) hp (by omega) (by omega)
        refine ⟨o, om, f1, f2, ?_⟩
        have fc : LC w t t2 := (e3.co.lc.tr b6).tr d4
        have fm : LM t' t2' := ((RO1.wI (.inl rfl)).lm.tr b7).tr d5
        rcases f3 with ⟨k2, len2, t3, t3', g1, g2, g3, g4, g5, g6, g7⟩ | ⟨F, cd, t3, t3', g1, g2, g3, g4, g5, g6, g7, g8, g9, g10⟩
        · exact .inl ⟨k2, len2, t3, t3', g1, g2, g3, by omega, by omega, fc.tr g6, fm.tr g7⟩
        · exact .inr ⟨F, cd, t3, t3', g1, g2, g3, g4, g5, g6, g7, g8, fc.tr g9, fm.tr g10⟩
      · have b1' : rc 0 (w + 11) (nI (lv + 1)) (nI de) T = some (0, t1) := b1
        have ft : FT (uI (uA (uA t1' 225 (1100 + cd) m) 226 (1100 + cd) 0) 218 13 (nI (cd + 1))) := ⟨F, b3, b4, by rw [uI_o (by omega)]; exact b6⟩
        rw [b1', b2, ob_2, if_neg (by decide), ob_s, emit_e b7 (by omega), ob_s]
        obtain ⟨f', rfl⟩ : ∃ g, f' = g + 1 := ⟨f' - 1, by omega⟩
        rw [hR.2.2 _ ft f']
        exact ⟨_, _, rfl, rfl, .inr ⟨F, cd + 1, t1, _, rfl, rfl, b3, b4, b5, by rw [uI_o (by omega)]; exact b6, uI_s, by omega, e3.co.lc.tr b9, ((RO1.wI (.inl rfl)).lm.tr b10).tr LM.em⟩⟩
end
