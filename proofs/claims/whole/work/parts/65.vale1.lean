/-! ===== PURE: a vale is read: states, names ===== -/
section
variable {v nh nd st a b n m : Nat} {V : Nat → Nat → Nat} {S : Nat → Nat → Int32} {t0 t0' t t' : tS}
variable {c so pl bh : Nat → Nat} {L M k w : Nat}
/-- the reference's rows of a vale, wherever they lie -/
def MVR (nh nd st : Nat) (V : Nat → Nat → Nat) (R : Nat → Int32) : Prop :=
  R 0 = nI nh ∧ R 1 = nI nd ∧ R 2 = nI st ∧ (∀ j, j < nh → R (4 + 2 * j) = nI (V 2 j)) ∧ (∀ j, j < nh → R (4 + 2 * j + 1) = nI (V 3 j)) ∧ (∀ d, d < nd → R (12 + 5 * d) = nI (V 5 d)) ∧ (∀ d, d < nd → R (12 + 5 * d + 1) = nI (V 6 d)) ∧ (∀ d, d < nd → R (12 + 5 * d + 2) = nI (V 7 d)) ∧ (∀ d, d < nd → R (12 + 5 * d + 3) = nI (V 8 d)) ∧ (∀ d, d < nd → R (12 + 5 * d + 4) = nI (V 9 d))
theorem MVR.mv (h : MVR nh nd st V (fun i => t'.2.1 224 i)) : MV nh nd st V t' := h
def VC (w : Nat) (t t1 : tS) : Prop := (∀ b j, b ≠ 1 → b ≠ w → b ≠ w + 11 → t1.1 b j = t.1 b j) ∧ (∀ b i, ¬ (w + 2 ≤ b ∧ b ≤ w + 12) → t1.2.1 b i = t.2.1 b i) ∧ (∀ b i, b ≠ w + 1 → b ≠ w + 4 → t1.2.2.1 b i = t.2.2.1 b i) ∧ t1.2.2.2.2 = t.2.2.2.2
def VM (t t1 : tS) : Prop := (∀ b j, ¬ (b = 218 ∧ (j = 7 ∨ j = 8 ∨ j = 13 ∨ j = 19 ∨ j = 20)) → t1.1 b j = t.1 b j) ∧ (∀ b i, ¬ (b = 224 ∧ 50 ≤ i) → ¬ ((b = 225 ∨ b = 226) ∧ 1100 ≤ i) → b ≠ 230 → t1.2.1 b i = t.2.1 b i) ∧ (∀ b i, b ≠ 228 → t1.2.2.1 b i = t.2.2.1 b i) ∧ t1.2.2.2 = t.2.2.2
theorem VC.rf : VC w t t := ⟨fun _ _ _ _ _ => rfl, fun _ _ _ => rfl, fun _ _ _ _ => rfl, rfl⟩
theorem VC.tr {t1 t2 : tS} (h : VC w t t1) (g : VC w t1 t2) : VC w t t2 := ⟨fun b j h1 h2 h3 => (g.1 b j h1 h2 h3).trans (h.1 b j h1 h2 h3), fun b i h1 => (g.2.1 b i h1).trans (h.2.1 b i h1), fun b i h1 h2 => (g.2.2.1 b i h1 h2).trans (h.2.2.1 b i h1 h2), g.2.2.2.trans h.2.2.2⟩
theorem VM.rf : VM t t := ⟨fun _ _ _ => rfl, fun _ _ _ _ _ => rfl, fun _ _ _ => rfl, rfl⟩
theorem VM.tr {t1 t2 : tS} (h : VM t t1) (g : VM t1 t2) : VM t t2 := ⟨fun b j h1 => (g.1 b j h1).trans (h.1 b j h1), fun b i h1 h2 h3 => (g.2.1 b i h1 h2 h3).trans (h.2.1 b i h1 h2 h3), fun b i h1 => (g.2.2.1 b i h1).trans (h.2.2.1 b i h1), g.2.2.2.trans h.2.2.2⟩
theorem CO1.vc {t1 : tS} (h : CO1 t t1) : VC w t t1 := ⟨fun b j h1 _ _ => h.1 b j h1, fun b i _ => by rw [h.2.1], fun b i _ _ => by rw [h.2.2.1], h.2.2.2.2⟩
theorem RO1.vm {t1 : tS} (h : RO1 t t1) : VM t t1 := ⟨fun b j h1 => h.1 b j (by omega), fun b i _ _ _ => by rw [h.2], fun b i _ => by rw [h.2], by rw [h.2]⟩
theorem LC.vc {t1 : tS} (h : LC w t t1) : VC w t t1 := ⟨fun b j h1 _ h3 => h.1 b j h1 (by omega), fun b i h1 => h.2.1 b i (by omega), fun b i _ _ => by rw [h.2.2.1], h.2.2.2⟩
theorem LM.vm {t1 : tS} (h : LM t t1) : VM t t1 := ⟨fun b j h1 => h.1 b j (by omega), fun b i _ h2 _ => h.2.1 b i h2, fun b i _ => by rw [h.2.2], by rw [h.2.2]⟩
theorem VC.wI {j : Nat} {x : Int32} : VC w t (uI t w j x) := ⟨fun b k _ h2 _ => uI_o (by omega), fun _ _ _ => rfl, fun _ _ _ _ => rfl, rfl⟩
theorem VC.wL {j : Nat} {x : Int32} : VC w t (uI t (w + 11) j x) := ⟨fun b k _ _ h3 => uI_o (by omega), fun _ _ _ => rfl, fun _ _ _ _ => rfl, rfl⟩
theorem VC.wA {b i : Nat} {x : Int32} (h : w + 2 ≤ b ∧ b ≤ w + 12) : VC w t (uA t b i x) := ⟨fun _ _ _ _ _ => rfl, fun b k h2 => uA_o (by omega), fun _ _ _ _ => rfl, rfl⟩
theorem uB_2 {a i b j : Nat} {x : Int64} : (uB t a i x).2.2.1 b j = if b = a ∧ j = i then x else t.2.2.1 b j := rfl
theorem uB_s {a i : Nat} {x : Int64} : (uB t a i x).2.2.1 a i = x := by rw [uB_2, if_pos ⟨rfl, rfl⟩]
theorem uB_o {a i b j : Nat} {x : Int64} (h : ¬ (b = a ∧ j = i)) : (uB t a i x).2.2.1 b j = t.2.2.1 b j := by rw [uB_2, if_neg h]
theorem VC.wB {b i : Nat} {x : Int64} (h : b = w + 1 ∨ b = w + 4) : VC w t (uB t b i x) := ⟨fun _ _ _ _ _ => rfl, fun _ _ _ => rfl, fun b k h1 h2 => uB_o (by omega), rfl⟩
theorem VM.wI {j : Nat} {x : Int32} (h : j = 7 ∨ j = 8 ∨ j = 13 ∨ j = 19 ∨ j = 20) : VM t (uI t 218 j x) := ⟨fun b k h1 => uI_o (by omega), fun _ _ _ _ _ => rfl, fun _ _ _ => rfl, rfl⟩
theorem VM.wA {b i : Nat} {x : Int32} (h : (b = 224 ∧ 50 ≤ i) ∨ b = 230) : VM t (uA t b i x) := ⟨fun _ _ _ => rfl, fun b k h1 h2 h3 => uA_o (by omega), fun _ _ _ => rfl, rfl⟩
theorem VM.wB {i : Nat} {x : Int64} : VM t (uB t 228 i x) := ⟨fun _ _ _ => rfl, fun _ _ _ _ _ => rfl, fun b k h1 => uB_o (by omega), rfl⟩
/-- houses and days told so far -/
def VB (w nh nd st : Nat) (V : Nat → Nat → Nat) (t t' : tS) : Prop := VK nh nd st V ∧ CV w nh nd st V t ∧ MVR nh nd st V (fun i => t'.2.1 224 (50 + i)) ∧ (∀ j, nh ≤ j → j < 4 → t.2.1 (w + 3) j = nI 0 ∧ t'.2.1 224 (50 + (4 + 2 * j + 1)) = nI 0) ∧ (∀ d, nd ≤ d → d < 6 → t.2.1 (w + 9) d = nI 0 ∧ t'.2.1 224 (50 + (12 + 5 * d + 4)) = nI 0)
/-- what is told once -/
def VL (w k sb fb : Nat) (t t' : tS) : Prop := t.1 w 14 = nI sb ∧ t.1 w 15 = nI fb ∧ t'.1 218 20 = nI (sb + 2 * fb) ∧ sb ≤ 1 ∧ ((fb = 0 ∧ t'.2.1 224 53 = -1 ∧ t'.1 218 13 = nI 0) ∨ (fb = 1 ∧ t'.2.1 224 53 = nI 0 ∧ ∃ (len : Nat) (dp : Nat → Nat), len + 1 ≤ k ∧ t.1 (w + 11) 2 = nI len ∧ t'.1 218 13 = nI (len + 1) ∧ dp 0 = 0 ∧ dp len = 1 ∧ t'.2.1 225 (1100 + len) = 0 ∧ ∀ i, i < len → LI (t.2.1 (w + 12) i) (t'.2.1 225 (1100 + i)) (t'.2.1 226 (1100 + i)) (dp i) (dp (i + 1))))
theorem VB.go {t1 t1' : tS} (h : VB w nh nd st V t t') (hw : w ≠ 1) (hc : CO1 t t1) (hr : RO1 t' t1') : VB w nh nd st V t1 t1' := by
  obtain ⟨h1, h2, h3, h4, h5⟩ := h
  unfold VB CV
  rw [hc.2.1, hr.2, hc.1 _ _ hw, hc.1 _ _ hw, hc.1 _ _ hw]
  exact ⟨h1, h2, h3, h4, h5⟩
theorem VL.go {sb fb k1 : Nat} {t1 t1' : tS} (h : VL w k sb fb t t') (hw : w ≠ 1) (h11 : w + 11 ≠ 1) (hk : k ≤ k1) (hc : CO1 t t1) (hr : RO1 t' t1') : VL w k1 sb fb t1 t1' := by
  obtain ⟨h1, h2, h3, h4, h5⟩ := h
  unfold VL
  rw [hc.2.1, hr.2, hc.1 _ _ hw, hc.1 _ _ hw, hc.1 _ _ h11, hr.1 _ _ (by omega), hr.1 _ _ (by omega)]
  refine ⟨h1, h2, h3, h4, ?_⟩
  rcases h5 with h | ⟨g1, g2, len, dp, g3, g4⟩
  · exact .inl h
  · exact .inr ⟨g1, g2, len, dp, by omega, g4⟩
theorem NM.go {ns : Nat → List Nat} {kd : Nat → Nat} {t1 t1' : tS} (h : NM w nh nd 228 230 19 ns kd t t') (hc : CO1 t t1) (hr : RO1 t' t1') : NM w nh nd 228 230 19 ns kd t1 t1' := h.ag (fun i => by rw [hc.2.2.1]) (fun i => by rw [hc.2.2.1]) (hr.1 _ _ (by omega)) (fun i => by rw [hr.2]) (fun i => by rw [hr.2])
/-- a vale being read -/
def VST (c : Nat → Nat) (L M : Nat) (so pl bh : Nat → Nat) (w k : Nat) (t t' : tS) : Prop := PC c L M so pl bh k t t' ∧ ∃ nh nd st V sb fb, VB w nh nd st V t t' ∧ (∃ ns kd, NM w nh nd 228 230 19 ns kd t t') ∧ VL w k sb fb t t'
/-- how a line ends, in both -/
def VOUT (c : Nat → Nat) (L M : Nat) (so pl bh : Nat → Nat) (w k : Nat) (oc : Option (Int32 × tS)) (om : Option tS) (t t' : tS) : Prop :=
  (∃ k1 t1 t1', k < k1 ∧ oc = some (1, t1) ∧ om = some t1' ∧ VST c L M so pl bh w k1 t1 t1' ∧ VC w t t1 ∧ VM t' t1') ∨ (∃ F t1 t1', oc = some (0, t1) ∧ om = some t1' ∧ 0 < F ∧ F < 100000 ∧ t1.1 1 7 = nI F ∧ t1'.1 218 8 = nI F ∧ VC w t t1 ∧ VM t' t1')
theorem VOUT.z {oc : Option (Int32 × tS)} {om : Option tS} (h : VOUT c L M so pl bh w k oc om t t') : VOUT c L M so pl bh w k (am_b2 oc fun x tt => (am_z01 x).bind fun b => some (b, tt)) om t t' := by
  rcases h with ⟨k1, t1, t1', h0, h1, h2⟩ | ⟨F, t1, t1', h1, h2⟩
  · rw [h1]
    exact .inl ⟨k1, t1, t1', h0, rfl, h2⟩
  · rw [h1]
    exact .inr ⟨F, t1, t1', rfl, h2⟩
theorem NOx.vo {F : Nat} {T T' t1 t1' : tS} (h : NOx F T T' t1 t1') (hc : VC w t T) (hm : VM t' T') : VOUT c L M so pl bh w k (some (0, t1)) (tX10_takeSign 59 t1') t t' := by
  rw [h.ft.takeSign]
  obtain ⟨g1, g2, g3, g4, g5, g6⟩ := h
  exact .inr ⟨F, t1, t1', rfl, rfl, g1, g2, g3, g4, hc.tr g5.vc, hm.tr g6.vm⟩
theorem vend {k1 sb fb : Nat} {T T' : tS} {ns : Nat → List Nat} {kd : Nat → Nat} (hT : TK c L M so pl bh) (hw : w = 182 ∨ w = 196) (hp : PC c L M so pl bh k1 T T') (hk : k ≤ k1) (hb : VB w nh nd st V T T') (hn : NM w nh nd 228 230 19 ns kd T T') (hl : VL w k1 sb fb T T') (hc : VC w t T) (hm : VM t' T') : VOUT c L M so pl bh w k (am_b2 (tX7_passSign 59 T) fun x tt => (am_z01 x).bind fun b => some (b, tt)) (tX10_takeSign 59 T') t t' := by
  rcases hp.pSign hT (x := 59) (by omega) with ⟨t1, t1', e1, e2, e3, e4, e5, _⟩ | ⟨F, t1, t1', e1, e2, e3⟩
  · have e1' : tX7_passSign 59 T = some (1, t1) := e1
    have e2' : tX10_takeSign 59 T' = some t1' := e2
    rw [e1', e2']
    exact .inl ⟨k1 + 1, t1, t1', by omega, rfl, rfl, ⟨e3, nh, nd, st, V, sb, fb, hb.go (by omega) e4 e5, ⟨ns, kd, hn.go e4 e5⟩, hl.go (by omega) (by omega) (by omega) e4 e5⟩, hc.tr e4.vc, hm.tr e5.vm⟩
  · have e1' : tX7_passSign 59 T = some (0, t1) := e1
    have e2' : tX10_takeSign 59 T' = some t1' := e2
    rw [e1', e2']
    obtain ⟨g1, g2, g3, g4, g5, g6⟩ := e3
    exact .inr ⟨F, t1, t1', rfl, rfl, g1, g2, g3, g4, hc.tr g5.vc, hm.tr g6.vm⟩
theorem uI_uI {b j : Nat} {x y : Int32} : uI (uI t b j x) b j y = uI t b j y := by
  refine Prod.ext ?_ rfl
  funext d l
  show (uI (uI t b j x) b j y).1 d l = (uI t b j y).1 d l
  rw [uI_1, uI_1, uI_1]
  by_cases h1 : d = b ∧ l = j
  · rw [if_pos h1, if_pos h1]
  · rw [if_neg h1, if_neg h1, if_neg h1]
/-- a new name, as the reference keeps it -/
def nmS (t' : tS) (N : Nat) (x : Int64) (y : Int32) (k i cn : Nat) : tS := uA (uI (uI (uA (uB t' 228 N x) 230 N y) 218 19 (nI (N + 1))) 218 7 (nI k)) 224 i (nI cn)
theorem VM.nm {N k i cn : Nat} {x : Int64} {y : Int32} (hi : 50 ≤ i) : VM t' (nmS t' N x y k i cn) := (((VM.wB.tr (VM.wA (.inr rfl))).tr (VM.wI (by omega))).tr (VM.wI (by omega))).tr (VM.wA (.inl ⟨rfl, hi⟩))
theorem PC.nm {t1 : tS} {N k1 i cn : Nat} {x : Int64} {y : Int32} (h : PC c L M so pl bh k1 t1 (uI t' 218 7 (nI k1))) : PC c L M so pl bh k1 t1 (nmS t' N x y k1 i cn) := by
  refine h.ag (fun _ _ => rfl) (fun _ => rfl) rfl ?_ ?_ (fun j => ?_) (fun j => ?_) (fun j => ?_) (fun j => ?_)
  · show (uI (uI (uA (uB t' 228 N x) 230 N y) 218 19 (nI (N + 1))) 218 7 (nI k1)).1 218 7 = _
    rw [uI_s, uI_s]
  · show (uI (uI (uA (uB t' 228 N x) 230 N y) 218 19 (nI (N + 1))) 218 7 (nI k1)).1 218 8 = _
    rw [uI_o (by omega), uI_o (by omega), uI_o (by omega)]
    rfl
  · show (uA (uI (uI (uA (uB t' 228 N x) 230 N y) 218 19 (nI (N + 1))) 218 7 (nI k1)) 224 i (nI cn)).2.1 220 j = t'.2.1 220 j
    rw [uA_o (by omega)]
    show (uA (uB t' 228 N x) 230 N y).2.1 220 j = _
    rw [uA_o (by omega)]
    rfl
  · show (uA (uI (uI (uA (uB t' 228 N x) 230 N y) 218 19 (nI (N + 1))) 218 7 (nI k1)) 224 i (nI cn)).2.1 221 j = t'.2.1 221 j
    rw [uA_o (by omega)]
    show (uA (uB t' 228 N x) 230 N y).2.1 221 j = _
    rw [uA_o (by omega)]
    rfl
  · show (uB t' 228 N x).2.2.1 222 j = t'.2.2.1 222 j
    rw [uB_o (by omega)]
  · show (uB t' 228 N x).2.2.1 223 j = t'.2.2.1 223 j
    rw [uB_o (by omega)]
theorem nname {a1 lim ad cn : Nat} {ns : Nat → List Nat} {kd : Nat → Nat} (hT : TK c L M so pl bh) (hw : w = 182 ∨ w = 196) (h : PC c L M so pl bh k t t') (hkM : k < M) (hn : NM w nh nd 228 230 19 ns kd t t') (h4 : nh ≤ 4) (h6 : nd ≤ 6) (c1 : t.1 w 11 = nI nh) (c2 : t.1 w 12 = nI nd) (ha : a1 ≤ 1) (had : ad ≤ 20) (hcn : cn < lim) (hlim : lim ≤ 6) (hN : nh + nd < 10) (m1 : t'.2.1 224 (50 + a1) = nI cn) : ∃ T, tX7_step t = some T ∧ PC c L M so pl bh (k + 1) T (uI t' 218 7 (nI (k + 1))) ∧ STF t T ∧ ((∃ t1, so (k + 1) = 1 ∧ T.2.2.2.1 1 6 = nL (enc 32 (tw c pl bh (k + 1)) 0) ∧ IW (tw c pl bh (k + 1)) ∧ (∀ i, i < nh + nd → ¬ ns i = tw c pl bh (k + 1)) ∧ tX4_passNewName w T = some (1, t1) ∧ tX10_readName (nI a1) (nI lim) (nI ad) t' = some (nmS t' (nh + nd) (nL (enc 37 (tw c pl bh (k + 1)) 0)) (nI (ad + cn)) (k + 2) (50 + a1) (cn + 1)) ∧ PC c L M so pl bh (k + 2) t1 (nmS t' (nh + nd) (nL (enc 37 (tw c pl bh (k + 1)) 0)) (nI (ad + cn)) (k + 2) (50 + a1) (cn + 1)) ∧ CO1 T t1) ∨ (∃ F t1 t1', tX4_passNewName w T = some (0, t1) ∧ tX10_readName (nI a1) (nI lim) (nI ad) t' = some t1' ∧ NOx F T t' t1 t1')) := by
  have hM := hT.2.2.1
  have hL := hT.1
  obtain ⟨T, e1, e2, e3⟩ := h.step hT hkM
  refine ⟨T, e1, e2, e3, ?_⟩
  have tA0 : tA t' 224 100 (50 + nI a1) = some (nI cn) := by rw [show (50 : Int32) = nI 50 from rfl, nN_ad, tA_e (by omega) (by omega), m1]
  have nl : ¬ nI cn = nI lim := by rw [nN_eq (by omega) (by omega)]; omega
  have hn1 : NM w nh nd 228 230 19 ns kd T (uI t' 218 7 (nI (k + 1))) := hn.go e3.co (RO1.wI (.inl rfl))
  have d1 : T.1 w 11 = nI nh := (e3.1 _ _ (by omega)).trans c1
  have d2 : T.1 w 12 = nI nd := (e3.1 _ _ (by omega)).trans c2
  have no : ∀ kd0, 1 ≤ kd0 → kd0 ≤ 5 → ∃ F t1 t1', tX7_refuse (nI kd0) T = some (0, t1) ∧ tX10_wrong (nI kd0) (uI t' 218 7 (nI (k + 1))) = some t1' ∧ ¬ t1'.1 218 8 = 0 ∧ NOx F T t' t1 t1' := by
    intro kd0 g1 g2
    obtain ⟨F, f1, f1', g1, g2, g3⟩ := e2.no hT g1 g2
    have n0 := g3.ft.n0
    obtain ⟨b1, b2, b3, b4, b5, b6⟩ := g3
    exact ⟨F, f1, f1', g1, g2, n0, b1, b2, b3, b4, b5, (RO1.wI (.inl rfl)).tr b6⟩
  unfold tX4_passNewName tX10_readName
  rw [tA0]
  simp only [ob_s]
  rw [if_pos nl, h.at1, e2.cName hT, e2.mName hT]
  simp only [ob_s]
  cases hb : nmb c so pl bh (k + 1)
  · obtain ⟨F, f1, f1', g1, g2, g3, g4⟩ := no 1 (by omega) (by omega)
    have g1' : tX7_refuse 1 T = some (0, f1) := g1
    have g2' : tX10_wrong 1 (uI t' 218 7 (nI (k + 1))) = some f1' := g2
    rw [if_neg (show ¬ ¬ bI false = 0 by decide), if_neg (show ¬ ¬ bI false = 0 by decide), g1', g2']
    simp only [ob_s, ob_2, z01_0]
    rw [if_pos g3]
    exact .inr ⟨F, f1, f1', rfl, rfl, g4⟩
  · have hs := nmb_1 hb
    have hk2 : k + 1 < M := hT.mlt e2.1 (by omega)
    rw [if_pos (show ¬ bI true = 0 by decide), if_pos (show ¬ bI true = 0 by decide)]
    have bad : ∀ (x y : Int32), ((∃ j, j < 10 ∧ x = nI j) ∨ (x = -1 ∧ ∃ j, j < 10 ∧ y = nI j)) → tX8_houseNamed w (T.2.2.2.1 1 6) T = some x → tX8_dayNamed w (T.2.2.2.1 1 6) T = some y → (am_b2 (tX7_refuse 3 T) fun x tt => (am_z01 x).bind fun b => some (b, tt)) = ((tX8_houseNamed w (T.2.2.2.1 1 6) T).bind fun x7 => if ¬ x7 = ((-1 : Int32)) then am_b2 (tX7_refuse ((3 : Int32)) T) fun x11 tt13 => (am_z01 x11).bind fun b15 => some (b15, tt13) else (tX8_dayNamed w (T.2.2.2.1 1 6) T).bind fun x19 => if x19 = ((-1 : Int32)) then (tX7_step T).bind fun tt24 => some ((1 : Int32), tt24) else am_b2 (tX7_refuse ((3 : Int32)) T) fun x26 tt28 => (am_z01 x26).bind fun b30 => some (b30, tt28)) := by
      intro x y hxy hx hy
      rw [hx, hy]
      simp only [ob_s]
      rcases hxy with ⟨j, j1, rfl⟩ | ⟨rfl, j, j1, rfl⟩
      · rw [if_pos (nN_ne1 (by omega))]
      · rw [if_neg (by decide), if_neg (nN_ne1 (by omega))]
    obtain ⟨F, f1, f1', g1, g2, g3, g4⟩ := no 3 (by omega) (by omega)
    have g1' : tX7_refuse 3 T = some (0, f1) := g1
    have g2' : tX10_wrong 3 (uI t' 218 7 (nI (k + 1))) = some f1' := g2
    have nonneg : ∀ j, j < 100 → ¬ nI j < (0 : Int32) := by
      intro j hj
      rw [show (0 : Int32) = nI 0 from rfl, nN_lt (by omega) (by omega)]
      omega
    rcases hn1.look (fl := 1) (.inl ⟨rfl, rfl, rfl, rfl⟩) h4 h6 d1 d2 e2 hT hs with ⟨j, b1, b2, b3, b4⟩ | ⟨j, b1, b2, b3, b4⟩ | ⟨b1, b2, b3, b4⟩
    · rw [← bad _ _ (.inl ⟨j, by omega, rfl⟩) b2 b3, g1', b4]
      simp only [ob_s]
      rw [if_neg (nonneg j (by omega)), g2']
      simp only [ob_s, ob_2, z01_0]
      rw [if_pos g3]
      exact .inr ⟨F, f1, f1', rfl, rfl, g4⟩
    · rw [← bad _ _ (.inr ⟨rfl, j, by omega, rfl⟩) b2 b3, g1', b4]
      simp only [ob_s]
      rw [if_neg (nonneg (20 + j) (by omega)), g2']
      simp only [ob_s, ob_2, z01_0]
      rw [if_pos g3]
      exact .inr ⟨F, f1, f1', rfl, rfl, g4⟩
    · obtain ⟨t1, s1, s2, s3⟩ := e2.step hT hk2
      obtain ⟨r1, r2, r3, r4, r5⟩ := e2.2.2.1 (k + 1) e2.1
      have iw := (hT.w e2.1 hs).2.2.2.2.2.2
      have u8 : ¬ ¬ (uI t' 218 7 (nI (k + 1))).1 218 8 = 0 := by rw [e2.2.2.2.2.2]; decide
      have tB0 : tB (uI t' 218 7 (nI (k + 1))) 222 1002 (nI (k + 1)) = some (nL (enc 37 (tw c pl bh (k + 1)) 0)) := by rw [tB_e (by omega) (by omega), r3 hs]; rfl
      have v19 : (uI t' 218 7 (nI (k + 1))).1 218 19 = nI (nh + nd) := by rw [uI_o (by omega)]; exact hn.1
      rw [b2, b3, b4]
      have l1 : (-1 : Int32) < 0 := by decide
      simp only [ob_s, not_true_eq_false, if_false, if_true, l1, s1]
      rw [if_neg u8, uI_s, tB0]
      simp only [ob_s]
      rw [v19, tWB_e (by omega) (by omega)]
      simp only [ob_s]
      have w19 : (uB (uI t' 218 7 (nI (k + 1))) 228 (nh + nd) (nL (enc 37 (tw c pl bh (k + 1)) 0))).1 218 19 = nI (nh + nd) := v19
      rw [w19, tW0_e (by omega) (by omega), nN_ad]
      simp only [ob_s]
      have x19 : (uA (uB (uI t' 218 7 (nI (k + 1))) 228 (nh + nd) (nL (enc 37 (tw c pl bh (k + 1)) 0))) 230 (nh + nd) (nI (ad + cn))).1 218 19 = nI (nh + nd) := v19
      have x7 : (uI (uA (uB (uI t' 218 7 (nI (k + 1))) 228 (nh + nd) (nL (enc 37 (tw c pl bh (k + 1)) 0))) 230 (nh + nd) (nI (ad + cn))) 218 19 (nI (nh + nd + 1))).1 218 7 = nI (k + 1) := by
        rw [uI_o (by omega)]
        show (uI t' 218 7 (nI (k + 1))).1 218 7 = _
        exact uI_s
      rw [x19, nN_al, x7, nN_al, show (50 : Int32) = nI 50 from rfl, nN_ad, tA_e (by omega) (by omega)]
      simp only [ob_s]
      have x50 : (uI (uI (uA (uB (uI t' 218 7 (nI (k + 1))) 228 (nh + nd) (nL (enc 37 (tw c pl bh (k + 1)) 0))) 230 (nh + nd) (nI (ad + cn))) 218 19 (nI (nh + nd + 1))) 218 7 (nI (k + 1 + 1))).2.1 224 (50 + a1) = nI cn := by
        show (uA (uB (uI t' 218 7 (nI (k + 1))) 228 (nh + nd) (nL (enc 37 (tw c pl bh (k + 1)) 0))) 230 (nh + nd) (nI (ad + cn))).2.1 224 (50 + a1) = nI cn
        rw [uA_o (by omega)]
        exact m1
      rw [x50, nN_al, tW0_e (by omega) (by omega)]
      simp only [ob_s]
      have eq : uA (uI (uI (uA (uB (uI t' 218 7 (nI (k + 1))) 228 (nh + nd) (nL (enc 37 (tw c pl bh (k + 1)) 0))) 230 (nh + nd) (nI (ad + cn))) 218 19 (nI (nh + nd + 1))) 218 7 (nI (k + 1 + 1))) 224 (50 + a1) (nI (cn + 1)) = nmS t' (nh + nd) (nL (enc 37 (tw c pl bh (k + 1)) 0)) (nI (ad + cn)) (k + 2) (50 + a1) (cn + 1) := by
        unfold nmS
        congr 1
        show uI (uI (uI (uA (uB t' 228 (nh + nd) (nL (enc 37 (tw c pl bh (k + 1)) 0))) 230 (nh + nd) (nI (ad + cn))) 218 7 (nI (k + 1))) 218 19 (nI (nh + nd + 1))) 218 7 (nI (k + 1 + 1)) = _
        rw [uI_cm (by omega), uI_uI]
        exact uI_cm (by omega)
      rw [eq]
      refine .inl ⟨t1, hs, e2.2.1.2.2.2.2.1 hs, iw, b1, rfl, rfl, ?_, s3.co⟩
      have s2' : PC c L M so pl bh (k + 2) t1 (uI t' 218 7 (nI (k + 2))) := by
        have : uI (uI t' 218 7 (nI (k + 1))) 218 7 (nI (k + 1 + 1)) = uI t' 218 7 (nI (k + 2)) := uI_uI
        rw [this] at s2
        exact s2
      exact s2'.nm
end
