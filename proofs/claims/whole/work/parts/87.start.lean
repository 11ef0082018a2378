/-! ===== the start: all that lasts holds of a new object ===== -/
theorem h0_ok : ∃ h, h0o = some h ∧ LSt 0 h ∧ h.length = 239 ∧ am_sl h ≤ 100000 := by
  have H := h0_1
  cases e : h0o with
  | none => rw [e] at H; cases H
  | some h =>
    rw [e] at H
    have H : (h0c h && h0v h) = true := H
    simp only [h0c, h0v, Bool.and_eq_true, decide_eq_true_eq, List.all_eq_true, List.mem_range, List.any_eq_true] at H
    obtain ⟨⟨⟨⟨⟨⟨⟨⟨⟨c1, c2⟩, c3⟩, c4⟩, c5⟩, c6⟩, c7⟩, c8⟩, c9⟩, ⟨⟨⟨⟨⟨⟨v1, v2⟩, v3⟩, v4⟩, v5⟩, v6⟩, v7⟩⟩ := H
    obtain ⟨u1, u2, u3, u4, u5, u6, u7, u8⟩ := v1
    obtain ⟨w1, w2, w3, w4, w5⟩ := v2
    obtain ⟨x1, x2, x3, x4, x5, x6, x7, x8, x9⟩ := v3
    obtain ⟨ee, y1, y2⟩ := v6
    have lay : Lay h := by
      refine ⟨fun j s hs => ?_, c4, c5, fun k h1 h2 => ?_⟩
      · rw [← List.getElem?_map, c2]
        exact hs
      · obtain rfl | rfl | rfl | rfl : k = 9 ∨ k = 10 ∨ k = 11 ∨ k = 12 := by omega
        · exact ⟨182, c6, by unfold ly_Is; decide⟩
        · exact ⟨196, c7, by unfold ly_Is; decide⟩
        · exact ⟨210, c8, by unfold ly_Is; decide⟩
        · exact ⟨214, c9, by unfold ly_Is; decide⟩
    refine ⟨h, rfl, ⟨Vw h, ⟨lay, rfl⟩, 182, 196, 210, 214, 0, 0, 1, fun _ _ => 0, .inl ⟨rfl, rfl⟩, .inl ⟨rfl, rfl⟩, v7, ?_, ?_, ?_, ?_, ?_, ?_, ?_, ⟨fun _ => [], fun _ => 0, ?_⟩, ?_, by omega⟩, Nat.eq_of_beq_eq_true c1, Nat.le_of_ble_eq_true c3⟩
    · refine ⟨⟨by omega, by omega, by omega, by omega, fun j hj => by omega, fun d hd => by omega, fun d e hd => by omega, fun d hd => by omega⟩, by omega, ⟨u1, u2, u3, fun j hj => by omega, fun j hj => by omega, fun j hj => by omega, fun j hj => by omega, fun j hj => by omega, fun j hj => by omega, fun j hj => by omega, fun j hj => by omega⟩, ⟨u5, u6, u7, fun j hj => by omega, fun j hj => by omega, fun j hj => by omega, fun j hj => by omega, fun j hj => by omega, fun j hj => by omega, fun j hj => by omega⟩, .inl ⟨u4, u8⟩⟩
    · exact ⟨0, 0, fun _ _ => 0, ⟨w1, w2, w3, fun j hj => by omega, fun j hj => by omega, fun j hj => by omega, fun j hj => by omega, fun j hj => by omega, fun j hj => by omega⟩, ⟨w4, w5, fun j hj => by omega, fun j hj => by omega, fun j hj => by omega, fun j hj => by omega, fun j hj => by omega, fun j hj => by omega⟩, fun d hd => by omega, fun j hj => by omega, fun d hd => by omega, by omega, by omega⟩
    · exact ⟨ee, 0, y1, by omega, y2, x1, x2, fun i hi => by omega⟩
    · intro m hm
      exact .inl (v4 m hm)
    · exact ⟨0, by omega, x3, x4, fun i hi => by omega⟩
    · exact ⟨0, by omega, x5, x6, fun i hi => by omega⟩
    · exact ⟨0, fun _ => 0, by omega, x7, x8, fun i hi => by omega⟩
    · exact ⟨x9, fun i hi => by omega, fun j hj => by omega, fun j hj => by omega, fun i j hi => by omega⟩
    · exact v5
/-- the law comes to its end with true, and makes few cells -/
theorem law_end {sc : Nat × (Nat → Int32)} (hs3 : sc.1 ≤ 3584) : ∃ h', fL_law sc [] = some (1, h') ∧ h'.length ≤ 752 ∧ am_sl h' ≤ 103078 := by
  obtain ⟨h, H, hs, hl, hsl⟩ := h0_ok
  obtain ⟨h', k1, k2, k3⟩ := lawL hs3 513 4000 0 0 h hs (by omega) (by omega) (by omega) (by omega) (by omega)
  refine ⟨h', ?_, by omega, by omega⟩
  unfold h0o at H
  obtain ⟨a1, hh2, e1, H1⟩ := am_bd2 H
  obtain ⟨hh5, e2, H2⟩ := am_bd H1
  obtain ⟨a6, hh7, e3, H3⟩ := am_bd2 H2
  obtain ⟨hh10, e4, H4⟩ := am_bd H3
  obtain ⟨a11, hh12, e5, H5⟩ := am_bd2 H4
  clear H H1 H2 H3 H4
  by_cases hc : a1 = 0 ∧ a6 = 218 ∧ a11 = 238
  · have H6 : some hh12 = some h := by
      rw [if_pos hc] at H5
      exact H5
    obtain ⟨rfl, rfl, rfl⟩ := hc
    obtain rfl := Option.some.inj H6
    have k1' : fL_law_L23 sc 4000 0 218 238 ((0 : Int32)) hh12 = some (.inl h') := k1
    unfold fL_law
    rw [e1, ob_2, e2, ob_s, e3, ob_2, e4, ob_s, e5, ob_2, k1', ob_s]
  · rw [if_neg hc] at H5
    cases H5
