/-! ===== PURE: vale, the call ===== -/
section
variable {v nh nd st a b n m : Nat} {V : Nat → Nat → Nat} {S : Nat → Nat → Int32} {t0 t0' t t' : tS}
variable {c so pl bh : Nat → Nat} {L M k w : Nat}
theorem MVR.cp {R R1 : Nat → Int32} (h : MVR nh nd st V R) (h4 : nh ≤ 4) (h6 : nd ≤ 6) (e : ∀ i, i < 50 → R1 i = R i) : MVR nh nd st V R1 := by
  obtain ⟨g1, g2, g3, g4, g5, g6, g7, g8, g9, g10⟩ := h
  exact ⟨(e _ (by omega)).trans g1, (e _ (by omega)).trans g2, (e _ (by omega)).trans g3, fun j hj => (e _ (by omega)).trans (g4 j hj), fun j hj => (e _ (by omega)).trans (g5 j hj), fun j hj => (e _ (by omega)).trans (g6 j hj), fun j hj => (e _ (by omega)).trans (g7 j hj), fun j hj => (e _ (by omega)).trans (g8 j hj), fun j hj => (e _ (by omega)).trans (g9 j hj), fun j hj => (e _ (by omega)).trans (g10 j hj)⟩
theorem NM.cp {ns : Nat → List Nat} {kd : Nat → Nat} {t1 t1' : tS} (h : NM w nh nd 228 230 19 ns kd t t') (e1 : ∀ i, t1.2.2.1 (w + 1) i = t.2.2.1 (w + 1) i) (e2 : ∀ i, t1.2.2.1 (w + 4) i = t.2.2.1 (w + 4) i) (m1 : t1'.1 218 18 = t'.1 218 19) (m2 : ∀ i, i < nh + nd → t1'.2.2.1 227 i = t'.2.2.1 228 i) (m3 : ∀ i, i < nh + nd → t1'.2.1 229 i = t'.2.1 230 i) : NM w nh nd 227 229 18 ns kd t1 t1' := by
  obtain ⟨h1, h2, h3⟩ := h
  refine ⟨m1.trans h1, fun i hi => ?_, h3⟩
  obtain ⟨g1, g2, g3, g4⟩ := h2 i hi
  rw [e1, e2]
  exact ⟨g1, (m2 i hi).trans g2, (m3 i hi).trans g3, g4⟩
/-- the reference takes a vale over -/
theorem vtake {k1 sb fb : Nat} {ns : Nat → List Nat} {kd : Nat → Nat} {t1 t1' : tS} (hT : TK c L M so pl bh) (hw : w = 182 ∨ w = 196) (hp : PC c L M so pl bh k1 t1 t1') (hb : VB w nh nd st V t1 t1') (hn : NM w nh nd 228 230 19 ns kd t1 t1') (hl : VL w k1 sb fb t1 t1') (h2 : t1'.1 218 2 = nI 0) : ∃ R, ((tX10_vale_L76 4000 0 t1').bind fun tt51 => (tX10_vale_L105 4000 0 tt51).bind fun tt72 => (tX10_vale_L153 4000 0 tt72).bind fun tt93 => (tX10_begins (uI tt93 218 18 (tt93.1 218 19))).bind fun tt102 => some ((0 : Int32), tt102)) = some (0, R) ∧ BR w nh nd st V t1 R ∧ MS nh nd 0 0 0 (S0 V) R ∧ R.1 218 25 = nI 0 ∧ R.1 218 2 = nI 0 ∧ (∀ m, m < 4 → R.2.1 235 m = 0) ∧ R.2.1 234 30 = nI 0 ∧ R.2.1 231 0 = nI 0 ∧ NM w nh nd 227 229 18 ns kd t1 R ∧ WD R ∧ FM t1' R := by
  have hM := hT.2.2.1
  have hL := hT.1
  have hk := hp.1
  have h4 := hb.1.1
  have h6 := hb.1.2.1
  obtain ⟨C, hC, c13⟩ : ∃ C, C ≤ 1001 ∧ t1'.1 218 13 = nI C := by
    rcases hl.2.2.2.2 with ⟨_, _, g⟩ | ⟨_, _, len, dp, g1, _, g3, _⟩
    · exact ⟨0, by omega, g⟩
    · exact ⟨len + 1, by omega, g3⟩
  obtain ⟨R1, a1, a2, a3, a4, a5⟩ := v76 50 0 4000 t1' (by omega) (by omega)
  obtain ⟨R2, b1, b2, b3, b4, b5⟩ := v105 (C := C) (by omega) C 0 4000 R1 (by rw [a2]; exact c13) (by omega) (by omega)
  obtain ⟨R3, d1, d2, d3, d4, d5, d6⟩ := v153 (C := nh + nd) (by omega) (nh + nd) 0 4000 R2 (by rw [b2, a2]; exact hn.1) (by omega) (by omega)
  have a1' : tX10_vale_L76 4000 0 t1' = some R1 := a1
  have b1' : tX10_vale_L105 4000 0 R1 = some R2 := b1
  have d1' : tX10_vale_L153 4000 0 R2 = some R3 := d1
  have r3 : R3.1 = t1'.1 := by rw [d2, b2, a2]
  have r19 : R3.1 218 19 = nI (nh + nd) := by rw [r3]; exact hn.1
  have c224 : ∀ i, i < 50 → R3.2.1 224 i = t1'.2.1 224 (50 + i) := by
    intro i hi
    rw [d3 _ _ (by omega), b3 _ _ (by omega), a5 i (by omega) hi]
  have c225 : ∀ i, i < C → R3.2.1 225 i = t1'.2.1 225 (1100 + i) ∧ R3.2.1 226 i = t1'.2.1 226 (1100 + i) := by
    intro i hi
    obtain ⟨g1, g2⟩ := b5 i (by omega) hi
    rw [d3 _ _ (by omega), d3 _ _ (by omega), g1, g2, a3 _ _ (by omega), a3 _ _ (by omega)]
    exact ⟨rfl, rfl⟩
  have c229 : ∀ i, i < nh + nd → R3.2.1 229 i = t1'.2.1 230 i ∧ R3.2.2.1 227 i = t1'.2.2.1 228 i := by
    intro i hi
    obtain ⟨g1, g2⟩ := d6 i (by omega) hi
    rw [g1, g2, b3 _ _ (by omega), a3 _ _ (by omega), b4, a4]
    exact ⟨rfl, rfl⟩
  have mv3 : MVR nh nd st V (fun i => R3.2.1 224 i) := MVR.cp (R := fun i => t1'.2.1 224 (50 + i)) hb.2.2.1 h4 h6 c224
  have mv4 : MV nh nd st V (uI R3 218 18 (R3.1 218 19)) := mv3
  obtain ⟨R5, e1, e2, e3, e4, e5⟩ := daL nd 0 4000 (uI R3 218 18 (R3.1 218 19)) mv4 h6 (by omega) (by omega)
  have e1' : tX10_datesAsTold_L2 4000 0 (uI R3 218 18 (R3.1 218 19)) = some R5 := e1
  have mv5 : MV nh nd st V R5 := mv4.ag (fun i => e3 _ _ (by omega))
  obtain ⟨R6, f1, f2, f3⟩ := starts_e (b := 0) mv5 h4 h6 (by omega) (fun d hd => e4 d (by omega) hd)
  have f1' : tX10_starts 0 R5 = some R6 := f1
  obtain ⟨R9, g1, g2, g3, g4, g5⟩ := b31 4 0 4000 (uI (uA (uA R6 234 30 0) 231 0 0) 218 25 0) (by omega) (by omega)
  have g1' : tX10_begins_L31 4000 0 (uI (uA (uA R6 234 30 0) 231 0 0) 218 25 0) = some R9 := g1
  have x0 : ∀ b j, ¬ (b = 235) → R9.2.1 b j = (uA (uA R6 234 30 0) 231 0 0).2.1 b j := fun b j hb => by
    rw [g3 b j (by omega)]; rfl
  have x1 : ∀ b j, b ≠ 235 → b ≠ 234 → b ≠ 231 → b ≠ 236 → R9.2.1 b j = R3.2.1 b j := by
    intro b j h1 h2 h3 h4
    rw [x0 b j h1, uA_o (by omega), uA_o (by omega), f3.2.1 b j (by omega), e3 b j (by omega)]
    rfl
  have y1 : ∀ j, j ≠ 25 → j ≠ 18 → R9.1 218 j = t1'.1 218 j := by
    intro j h1 h2
    rw [g2, uI_o (by omega)]
    show R6.1 218 j = _
    rw [f3.1, e2, uI_o (by omega), r3]
  have y18 : R9.1 218 18 = nI (nh + nd) := by
    rw [g2, uI_o (by omega)]
    show R6.1 218 18 = _
    rw [f3.1, e2, uI_s, r19]
  have z1 : R9.2.2 = R3.2.2 := by
    rw [g4]
    show R6.2.2 = _
    rw [f3.2.2, e5]
    rfl
  refine ⟨R9, ?_, ⟨hb.1, by omega, hb.2.1, ?_, ?_⟩, ?_, ?_, ?_, ?_, ?_, ?_, ?_, ?_, ?_⟩
  · rw [a1']
    simp only [ob_s]
    rw [b1']
    simp only [ob_s]
    rw [d1']
    simp only [ob_s]
    unfold tX10_begins tX10_datesAsTold
    rw [e1']
    simp only [ob_s]
    rw [f1']
    simp only [ob_s]
    rw [show (30 : Int32) = nI 30 from rfl, tW0_e (by omega) (by omega)]
    simp only [ob_s]
    have w0 : tWA (uA R6 234 30 0) 0 231 250 0 0 = some (uA (uA R6 234 30 0) 231 0 0) := tW0_e (k := 0) (by omega) (by omega)
    rw [w0]
    simp only [ob_s]
    rw [g1']
    rfl
  · exact (MVR.cp (R := fun i => R3.2.1 224 i) mv3 h4 h6 (fun i _ => x1 _ _ (by omega) (by omega) (by omega) (by omega))).mv
  · have w53 : R9.2.1 224 3 = t1'.2.1 224 53 := (x1 _ _ (by omega) (by omega) (by omega) (by omega)).trans (c224 3 (by omega))
    obtain ⟨l1, l2, l3, l4, l5⟩ := hl
    rcases l5 with ⟨rfl, q2, q3⟩ | ⟨rfl, q2, len, dp, q3, q4, q5, q6, q7, q8, q9⟩
    · exact .inl ⟨l2, w53.trans q2⟩
    · have hCl : C = len + 1 := by
        rw [c13] at q5
        exact (nN_eq (by omega) (by omega)).1 q5
      refine .inr ⟨l2, w53.trans q2, len, dp, by omega, q4, q6, q7, ?_, fun i hi => ?_⟩
      · rw [x1 _ _ (by omega) (by omega) (by omega) (by omega), (c225 len (by omega)).1]
        exact q8
      · rw [x1 _ _ (by omega) (by omega) (by omega) (by omega), x1 _ _ (by omega) (by omega) (by omega) (by omega), (c225 i (by omega)).1, (c225 i (by omega)).2]
        exact q9 i hi
  · refine f2.copy h4 h6 (fun j hj => ?_) (fun j => ?_)
    · rw [x0 _ _ (by omega), uA_o (by omega), uA_o (by omega)]
    · rw [x0 _ _ (by omega), uA_o (by omega), uA_o (by omega)]
  · rw [g2, uI_s]; rfl
  · rw [y1 _ (by omega) (by omega)]; exact h2
  · intro m hm
    exact g5 m (by omega) hm
  · rw [x0 _ _ (by omega), uA_o (by omega), uA_s]; rfl
  · rw [x0 _ _ (by omega), uA_s]; rfl
  · refine hn.cp (fun _ => rfl) (fun _ => rfl) (y18.trans hn.1.symm) (fun i hi => ?_) (fun i hi => ?_)
    · rw [z1]; exact (c229 i hi).2
    · rw [x1 _ _ (by omega) (by omega) (by omega) (by omega)]; exact (c229 i hi).1
  · refine hp.2.2.2.1.ag (fun i => ?_)
    rw [z1, d4 _ _ (by omega), b4, a4]
  · refine ⟨fun b j hb => ?_, fun b i hb => ?_, fun b i hb => ?_, fun b _ => ?_⟩
    · rw [g2, uI_o (by omega)]
      show R6.1 b j = _
      rw [f3.1, e2, uI_o (by omega), r3]
    · rw [x1 _ _ (by omega) (by omega) (by omega) (by omega), d3 _ _ (by omega), b3 _ _ (by omega), a3 _ _ (by omega)]
    · rw [z1, d4 _ _ (by omega), b4, a4]
    · rw [z1, d5, b4, a4]
/-- the class begins anew -/
theorem anew {p q : Nat} {t1 : tS} (hw : w = 182 ∨ w = 196) (hpq : (p = 210 ∧ q = 214) ∨ (p = 214 ∧ q = 210)) (hk : VK nh nd st V) (hc : CV w nh nd st V t1) (r1 : t1.2.2.2.2 0 9 = w) (r2 : t1.2.2.2.2 0 11 = p) : ∃ Z, tX9_startAnew t1 = some Z ∧ CS nh nd 3 0 0 (S0 V) Z ∧ (∀ b j, b ≠ 3 → ¬ (b = p ∧ j = 3) → ¬ (b = 176 ∧ j = 2) → ¬ (b = 17 ∧ j = 2) → ¬ (132 ≤ b ∧ b < 176) → Z.1 b j = t1.1 b j) ∧ (∀ b i, ¬ (4 ≤ b ∧ b ≤ 9) → Z.2.1 b i = t1.2.1 b i) ∧ Z.2.2 = t1.2.2 ∧ Z.1 p 3 = nI 0 ∧ Z.1 176 2 = nI 0 ∧ Z.1 17 2 = nI 0 ∧ ∀ m, m < 4 → Z.1 (132 + 11 * m) 2 = 0 := by
  obtain ⟨T, e1, e2, e3⟩ := begin_e (a := 3) hc hk.1 hk.2.1 (by omega)
  obtain ⟨Z, f1, f2, f3, f4⟩ := s37 4 0 4000 (uI (uI (uI T p 3 0) 176 2 0) 17 2 0) (by omega) (by omega)
  have f1' : tX9_startAnew_L37 4000 0 (uI (uI (uI T p 3 0) 176 2 0) 17 2 0) = some Z := f1
  have rT : T.2.2.2.2 0 11 = p := by rw [e3.2.2]; exact r2
  have z2 : Z.2 = T.2 := f2
  refine ⟨Z, ?_, ?_, ?_, ?_, ?_, ?_, ?_, ?_, fun m hm => f4 m (by omega) hm⟩
  · unfold tX9_startAnew
    rw [r1, e1]
    simp only [ob_s]
    rw [rT, f1']
    rfl
  · refine e2.ag ?_ ?_ ?_ (fun j i _ _ => by rw [z2])
    · rw [f3 _ _ (fun z => by omega), uI_o (by omega), uI_o (by omega), uI_o (by omega)]
    · rw [f3 _ _ (fun z => by omega), uI_o (by omega), uI_o (by omega), uI_o (by omega)]
    · rw [f3 _ _ (fun z => by omega), uI_o (by omega), uI_o (by omega), uI_o (by omega)]
  · intro b j h1 h2 h3 h4 h5
    rw [f3 _ _ (fun z => z.2.elim fun m g => by omega), uI_o (by omega), uI_o (by omega), uI_o (by omega), e3.1 _ _ h1]
  · intro b i h1
    rw [z2]
    exact e3.2.1 b i (by omega)
  · rw [z2]; exact e3.2.2
  · rw [f3 _ _ (fun z => by omega), uI_o (by omega), uI_o (by omega), uI_s]; rfl
  · rw [f3 _ _ (fun z => z.2.elim fun m g => by omega), uI_o (by omega), uI_s]; rfl
  · rw [f3 _ _ (fun z => z.2.elim fun m g => by omega), uI_s]; rfl
end
