/-! ===== PURE: vale, the call, whole ===== -/
section
variable {v nh nd st a b n m : Nat} {V : Nat → Nat → Nat} {S : Nat → Nat → Int32} {t0 t0' t t' : tS}
theorem g_vale {N : Nat} (h : GR N t t') (hN : N + 1 ≤ 1000) : QH (N + 1) (tX9_vale t) (tX10_vale t') t t' := by
  obtain ⟨v, w, p, q, nh, nd, st, V, h⟩ := h
  have hvw := h.1
  have hw : w = 182 ∨ w = 196 := by omega
  have hpq := h.2.1
  obtain ⟨rv, rw', rp, rq⟩ := h.2.2.1
  have tp : TP t (uI t' 218 0 0) := h.2.2.2.2.2.2.2.2.2.1.ag rfl (fun _ => rfl) (uI_o (by omega)) (fun _ => rfl)
  obtain ⟨c, L, M, so, pl, bh, T', a1, a2, a3, a4, a5, a6, a7, a8, a9, a10, a11, a12⟩ := cut_e tp
  have hM := a2.2.2.1
  have hL := a2.1
  -- the reference's rows
  obtain ⟨S', s1, s2, s3, s4, s5, s6, s7⟩ := sa_e (t' := uI (uI (uI T' 218 13 0) 218 19 0) 218 20 0)
  have s3' : ∀ b j, ¬ (b = 224 ∧ 50 ≤ j ∧ j < 100) → S'.2.1 b j = T'.2.1 b j := s3
  have s4' : S'.2.2 = T'.2.2 := s4
  -- the class's
  obtain ⟨C1, b1, b2, b3, b4, b5⟩ := fi_e (a := w + 3) (x := (0 : Int32)) (N := 4) (t := uI (uI (uI (uI (uI t w 11 0) w 12 0) w 13 1) w 14 0) w 15 0) (by omega)
  obtain ⟨C2, c1, c2, c3, c4, c5⟩ := fi_e (a := w + 9) (x := (0 : Int32)) (N := 6) (t := C1) (by omega)
  have d2 : C2.1 = (uI (uI (uI (uI (uI t w 11 0) w 12 0) w 13 1) w 14 0) w 15 0).1 := by rw [c2, b2]
  have d3 : ∀ b i, ¬ (b = w + 3 ∧ i < 4) → ¬ (b = w + 9 ∧ i < 6) → C2.2.1 b i = t.2.1 b i := by
    intro b i h1 h2
    rw [c3 _ _ h2, b3 _ _ h1]
    rfl
  have d4 : C2.2.2 = t.2.2 := by rw [c5, b5]; rfl
  have d1 : ∀ b j, b ≠ w → C2.1 b j = t.1 b j := by
    intro b j hb
    rw [d2, uI_o (by omega), uI_o (by omega), uI_o (by omega), uI_o (by omega), uI_o (by omega)]
  have hctx : CTX c L (uI (uI C2 1 7 0) 1 3 0) := by
    refine ⟨?_, fun i hi => ?_⟩
    · rw [uI_o (by omega), uI_o (by omega), d1 _ _ (by omega)]; exact a11
    · show C2.2.1 2 i = _
      rw [d3 _ _ (by omega) (by omega)]; exact a12 i hi
  have w3 : (uI (uI C2 1 7 0) 1 3 0).1 1 3 = nI (bh 0) := by rw [uI_s, a2.2.2.2.1]; rfl
  obtain ⟨T, e1, e2, e3⟩ := stp a2 (k := 0) (by omega) hctx w3
  have tc : ∀ b j, b ≠ 1 → T.1 b j = C2.1 b j := by
    intro b j hb
    rw [e3.1 _ _ (by omega), uI_o (by omega), uI_o (by omega)]
  have tw2 : ∀ j, T.1 w j = (uI (uI (uI (uI (uI t w 11 0) w 12 0) w 13 1) w 14 0) w 15 0).1 w j := fun j => by rw [tc _ _ (by omega), d2]
  have ta : T.2.1 = C2.2.1 := by rw [e3.2.1]; rfl
  have tb : T.2.2.1 = t.2.2.1 := by
    rw [e3.2.2.1]
    show C2.2.2.1 = _
    rw [d4]
  have tr : T.2.2.2.2 = t.2.2.2.2 := by
    rw [e3.2.2.2.2]
    show C2.2.2.2.2 = _
    rw [d4]
  have vc0 : VC w t T := by
    refine ⟨fun b j h1 h2 h3 => ?_, fun b i h1 => ?_, fun b i _ _ => by rw [tb], tr⟩
    · rw [tc _ _ h1, d1 _ _ h2]
    · rw [ta, d3 _ _ (by omega) (by omega)]
  have m1 : ∀ j, j ≠ 13 → j ≠ 19 → j ≠ 20 → S'.1 218 j = T'.1 218 j := by
    intro j h1 h2 h3
    rw [s2, uI_o (by omega), uI_o (by omega), uI_o (by omega)]
  have m13 : S'.1 218 13 = nI 0 := by rw [s2, uI_o (by omega), uI_o (by omega), uI_s]; rfl
  have m19 : S'.1 218 19 = nI 0 := by rw [s2, uI_o (by omega), uI_s]; rfl
  have m20 : S'.1 218 20 = nI 0 := by rw [s2, uI_s]; rfl
  have zv0 : ZV t' S' := by
    refine ⟨fun b j h1 => ?_, fun b i h1 h2 h3 h4 h5 => ?_, fun b i h1 h2 => ?_⟩
    · rw [s2, uI_o (by omega), uI_o (by omega), uI_o (by omega), a7 _ _ (by omega), uI_o (by omega)]
    · rw [s3' _ _ (by omega), a8 _ _ h1 h2]; rfl
    · rw [s4', a9 _ _ h1]; rfl
  have wdS : WD S' := h.2.2.2.2.2.2.2.2.2.2.2.1.ag (fun i => zv0.2.2 _ _ (by omega) (by omega))
  have pc0 : PC c L M so pl bh 0 T S' := by
    refine ⟨by omega, e2, ?_, wdS, (m1 _ (by omega) (by omega) (by omega)).trans a4, (m1 _ (by omega) (by omega) (by omega)).trans a5⟩
    intro i hi
    rw [s3' _ _ (by omega), s3' _ _ (by omega), s4']
    exact a3 i hi
  have vst : VST c L M so pl bh w 0 T S' := by
    refine ⟨pc0, 0, 0, 1, fun _ _ => 0, 0, 0, ⟨⟨by omega, by omega, by omega, by omega, fun j hj => by omega, fun d hd => by omega, fun d e hd => by omega, fun d hd => by omega⟩, ⟨?_, ?_, ?_, fun j hj => by omega, fun j hj => by omega, fun j hj => by omega, fun j hj => by omega, fun j hj => by omega, fun j hj => by omega, fun j hj => by omega, fun j hj => by omega⟩, ⟨?_, ?_, ?_, fun j hj => by omega, fun j hj => by omega, fun j hj => by omega, fun j hj => by omega, fun j hj => by omega, fun j hj => by omega, fun j hj => by omega⟩, fun j h1 h2 => ⟨?_, ?_⟩, fun d h1 h2 => ⟨?_, ?_⟩⟩, ⟨fun _ => [], fun _ => 0, m19, fun i hi => by omega, fun j hj => by omega, fun j hj => by omega, fun i j hi => by omega⟩, ?_, ?_, m20, by omega, .inl ⟨rfl, s6, m13⟩⟩
    · rw [tw2, uI_o (by omega), uI_o (by omega), uI_o (by omega), uI_o (by omega), uI_s]; rfl
    · rw [tw2, uI_o (by omega), uI_o (by omega), uI_o (by omega), uI_s]; rfl
    · rw [tw2, uI_o (by omega), uI_o (by omega), uI_s]; rfl
    · exact s7 0 (by omega) (by omega) (by omega)
    · exact s7 1 (by omega) (by omega) (by omega)
    · exact s5
    · rw [ta, c3 _ _ (by omega), b4 j h2]; rfl
    · exact s7 _ (by omega) (by omega) (by omega)
    · rw [ta, c4 d h2]; rfl
    · exact s7 _ (by omega) (by omega) (by omega)
    · rw [tw2, uI_o (by omega), uI_s]; rfl
    · rw [tw2, uI_s]; rfl
  have zz : ∀ T1', VM S' T1' → ZV t' T1' := by
    intro T1' g
    exact ⟨fun b j h1 => (g.1 _ _ (by omega)).trans (zv0.1 _ _ h1), fun b i h1 h2 h3 h4 h5 => (g.2.1 _ _ h3 h4 h5).trans (zv0.2.1 _ _ h1 h2 h3 h4 h5), fun b i h1 h2 => (g.2.2.1 _ _ h2).trans (zv0.2.2 _ _ h1 h2)⟩
  have rrS : ∀ T1', VM S' T1' → T1'.2.2.2.2 = t'.2.2.2.2 := by
    intro T1' g
    rw [g.2.2.2, s4', a10]
    rfl
  have s11 : ∀ T1', VM S' T1' → T1'.1 218 2 = nI 0 := fun T1' g => (g.1 _ _ (by omega)).trans ((m1 _ (by omega) (by omega) (by omega)).trans a6)
  have rp0 : tX4_readVale w t = ((tX4_readVale_L10 4000 w 0 T).bind fun o22 => match o22 with | .inl tt20 => some ((0 : Int32), tt20) | .inr y23 => some y23) := by
    unfold tX4_readVale tX8_clear tX7_begin
    simp only [ob_s, b1, c1, e1]
    rfl
  have s1' : tX10_standsAsAlways 50 (uI (uI (uI T' 218 13 0) 218 19 0) 218 20 0) = some S' := s1
  unfold tX9_vale tX10_vale
  rw [rw', rp0]
  simp only [ob_s, a1, s1']
  rcases vloop a2 hw M 0 0 4000 4000 T S' vst (by omega) (by omega) (by omega) (by omega) with ⟨k1, t1, t1', g1, g2, g3, g4, g5⟩ | ⟨F, t1, t1', g1, g2, g3, g4, g5, g6, g7⟩
  · have g1' : tX4_readVale_L10 4000 w 0 T = some (.inl t1) := g1
    obtain ⟨hp1, nh2, nd2, st2, V2, sb, fb, hb, ⟨ns, kd, hn⟩, hl⟩ := g3
    have h4 := hb.1.1
    have h6 := hb.1.2.1
    have vc1 : VC w t t1 := vc0.tr g4
    obtain ⟨R, y1, y2, y3, y4, y5, y6, y7, y8, y9, y10, y11⟩ := vtake a2 hw hp1 hb hn hl (s11 t1' g5)
    have r9 : (uI t1 1 1 0).2.2.2.2 0 9 = v := by
      show t1.2.2.2.2 0 9 = v
      rw [vc1.2.2.2]; exact rv
    have r10 : (uI t1 1 1 0).2.2.2.2 0 10 = w := by
      show t1.2.2.2.2 0 10 = w
      rw [vc1.2.2.2]; exact rw'
    obtain ⟨B, hB⟩ : ∃ X, X = uR (uR (uI t1 1 1 0) 0 9 w) 0 10 v := ⟨_, rfl⟩
    have Br : B.2.2.2.2 0 9 = w ∧ B.2.2.2.2 0 10 = v ∧ B.2.2.2.2 0 11 = p ∧ B.2.2.2.2 0 12 = q := by
      rw [hB]
      show up2 (up2 t1.2.2.2.2 0 9 w) 0 10 v 0 9 = w ∧ up2 (up2 t1.2.2.2.2 0 9 w) 0 10 v 0 10 = v ∧ up2 (up2 t1.2.2.2.2 0 9 w) 0 10 v 0 11 = p ∧ up2 (up2 t1.2.2.2.2 0 9 w) 0 10 v 0 12 = q
      refine ⟨?_, up2_s, ?_, ?_⟩
      · rw [up2_d (by decide), up2_s]
      · rw [up2_d (by decide), up2_d (by decide), vc1.2.2.2]; exact rp
      · rw [up2_d (by decide), up2_d (by decide), vc1.2.2.2]; exact rq
    have Bc : ∀ b j, ¬ (b = 1 ∧ j = 1) → B.1 b j = t1.1 b j := by
      intro b j hb
      rw [hB]
      show (uI t1 1 1 0).1 b j = _
      exact uI_o hb
    have B1 : B.1 1 1 = nI 0 := by
      rw [hB]
      show (uI t1 1 1 0).1 1 1 = _
      exact uI_s
    have Ba : B.2.1 = t1.2.1 := by rw [hB]; rfl
    have Bb : B.2.2.1 = t1.2.2.1 := by rw [hB]; rfl
    obtain ⟨v1, v2, v3, v4⟩ := hb.2.1
    have cvB : CV w nh2 nd2 st2 V2 B := ⟨(Bc _ _ (by omega)).trans v1, (Bc _ _ (by omega)).trans v2, (Bc _ _ (by omega)).trans v3, by rw [Ba]; exact v4⟩
    obtain ⟨Z, z1, z2, z3, z4, z5, z6, z7, z8, z9⟩ := anew hw hpq hb.1 cvB Br.1 Br.2.2.1
    rw [g1', g2]
    simp only [ob_s, ob_2]
    rw [hp1.2.2.2.2.2, if_pos (show (nI 0 : Int32) ≤ 0 by decide), r10, r9, ← hB, z1, y1]
    simp only [ob_s, not_true_eq_false, if_false]
    have zv1 := zz t1' g5
    have Fx : FX t Z := by
      refine ⟨fun b j hb => ?_, fun b i hb => ?_, fun b i hb => ?_⟩
      · rw [z3 _ _ (by omega) (by omega) (by omega) (by omega) (by omega), Bc _ _ (by omega), vc1.1 _ _ (by omega) (by omega) (by omega)]
      · rw [z4 _ _ (by omega), Ba, vc1.2.1 _ _ (by omega)]
      · rw [z5, Bb, vc1.2.2.1 _ _ (by omega) (by omega)]
    have Fm : FM t' R := by
      refine ⟨fun b j hb => ?_, fun b i hb => ?_, fun b i hb => ?_, fun b hb => ?_⟩
      · rw [y11.1 _ _ hb, zv1.1 _ _ (by omega)]
      · rw [y11.2.1 _ _ hb, zv1.2.1 _ _ (by omega) (by omega) (by omega) (by omega) (by omega)]
      · rw [y11.2.2.1 _ _ hb, zv1.2.2 _ _ (by omega) (by omega)]
      · rw [y11.2.2.2 b hb, rrS t1' g5]
    refine ⟨0, Z, R, rfl, rfl, ⟨w, v, p, q, nh2, nd2, st2, V2, by omega, hpq, ?_, ?_, ?_, ?_, ?_, ?_, ?_, ?_, ⟨ns, kd, ?_⟩, y10, hN⟩, Fx, Fm⟩
    · rw [z5]; exact Br
    · refine y2.ag2 (fun k => ?_) (fun j i _ _ => ?_) ?_ (fun i => ?_) (fun _ _ => rfl) (fun _ _ => rfl) (fun _ _ => rfl)
      · rw [z3 _ _ (by omega) (by omega) (by omega) (by omega) (by omega), Bc _ _ (by omega)]
      · rw [z4 _ _ (by omega), Ba]
      · rw [z3 _ _ (by omega) (by omega) (by omega) (by omega) (by omega), Bc _ _ (by omega)]
      · rw [z4 _ _ (by omega), Ba]
    · exact ⟨0, 0, S0 V2, z2, y3, S0.sk hb.1, S0.b10 hb.1, fun d hd => rfl, by omega, by omega⟩
    · obtain ⟨e, k, x1, x2, x3, x4, x5, x6⟩ := h.2.2.2.2.2.1
      refine ⟨e, 0, x1, by omega, ?_, z8, y4, fun i hi => by omega⟩
      rw [z3 _ _ (by omega) (by omega) (by omega) (by omega) (by omega), Bc _ _ (by omega), vc1.1 _ _ (by omega) (by omega) (by omega)]
      exact x3
    · intro m hm
      exact .inl ⟨z9 m hm, y6 m hm⟩
    · exact ⟨0, by omega, z7, y7, fun i hi => by omega⟩
    · exact ⟨0, by omega, z6, y8, fun i hi => by omega⟩
    · refine ⟨0, fun _ => 0, by omega, ?_, y5, fun i hi => by omega⟩
      rw [z3 _ _ (by omega) (by omega) (by omega) (by omega) (by omega)]
      exact B1
    · exact y9.ag (fun i => by rw [z5, Bb]) (fun i => by rw [z5, Bb]) rfl (fun _ => rfl) (fun _ => rfl)
  · have g1' : tX4_readVale_L10 4000 w 0 T = some (.inr (nI F, t1)) := g1
    have ft : FT t1' := ⟨F, g3, g4, g5⟩
    have nF : ¬ nI F = 0 := by rw [← g5]; exact ft.n0
    rw [g1', g2]
    simp only [ob_s, ob_2]
    rw [if_neg ft.nl, if_pos nF, g5]
    simp only [ob_s]
    have vc1 : VC w t (uI t1 1 1 0) := by
      obtain ⟨u1, u2, u3, u4⟩ := vc0.tr g6
      exact ⟨fun b j k1 k2 k3 => (uI_o (by omega)).trans (u1 b j k1 k2 k3), u2, u3, u4⟩
    have zv1 := zz t1' g7
    refine ⟨nI F, _, _, rfl, rfl, ⟨v, w, p, q, nh, nd, st, V, h.vl vc1 zv1 ?_ (by omega) hN⟩, ⟨fun b j hb => vc1.1 _ _ (by omega) (by omega) (by omega), fun b i hb => vc1.2.1 _ _ (by omega), fun b i hb => vc1.2.2.1 _ _ (by omega) (by omega)⟩, ⟨fun b j hb => zv1.1 _ _ (by omega), fun b i hb => zv1.2.1 _ _ (by omega) (by omega) (by omega) (by omega) (by omega), fun b i hb => zv1.2.2 _ _ (by omega) (by omega), fun b _ => by rw [rrS t1' g7]⟩⟩
    · exact ⟨0, fun _ => 0, by omega, by rw [uI_s]; rfl, s11 t1' g7, fun i hi => by omega⟩
end
