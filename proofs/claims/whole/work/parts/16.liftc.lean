/-! lifted methods -/
def fX9_send (a0 : Nat) (a1 : Int32) (h : am_H) : Option (Int32 × am_H) :=
  (am_isO h a0 8).bind fun _ =>
  (fX9_isDay a0 a1 h).bind fun x2 =>
  if x2 = 0 then
    some ((0 : Int32), h)
  else
    (am_gR h a0 8 1).bind fun now4 =>
    (am_gR h now4 5 3).bind fun at6 =>
    (am_aI h 0 at6 a1).bind fun x8 =>
    if ¬ x8 = ((-1 : Int32)) then
      (am_gR h a0 8 3).bind fun history11 =>
      (am_gR h a0 8 1).bind fun now13 =>
      (fX0_keep history11 now13 h).bind fun hh16 =>
      (am_gR hh16 a0 8 1).bind fun now17 =>
      (fX6_leave now17 a1 hh16).bind fun hh20 =>
      some ((1 : Int32), hh20)
    else
      some ((0 : Int32), h)
set_option maxHeartbeats 4000000 in
set_option maxRecDepth 100000 in
theorem lX9_send {sc : Nat × (Nat → Int32)} {a0 : Nat} {a1 : Int32} {h : am_H} {r : Int32} {h1 : am_H} (H : fX9_send a0 a1 h = some (r, h1)) : am_Cl am_T am_N sc 3 87 [.ref a0, .int a1] h (some (.int r)) h1 := by
  unfold fX9_send at H
  obtain ⟨_, hO, H⟩ := am_bd H
  obtain ⟨fs0, hO⟩ := am_isO_ok hO
  refine am_mk (q := qX9_send) rfl (fun _ => ⟨_, _, _, _, _, rfl, hO, rfl, rfl⟩) (fun z => absurd z (by decide)) (Nat.le_of_ble_eq_true rfl) rfl ?_
  show am_G sc (am_Cl am_T am_N sc 2) (am_at kX9_send) (fun t => t.2 = h1 ∧ am_ret 2 (am_at kX9_send) t.1 = some (some (.int r))) ((0, [some (.ref a0), some (.int a1)], []), h)
  refine am_G.fr 2 (g := (2, [some (.ref a0), some (.int a1)], [.int a1, .ref a0])) rfl ?_
  obtain ⟨x2, e1, H⟩ := am_bd H
  refine am_G.cl [.ref a0, .int a1] [] (am_Cl.mono (by decide) (lX9_isDay e1)) rfl rfl rfl rfl (Nat.le_of_ble_eq_true rfl) ?_
  by_cases c3 : x2 = 0
  · rw [if_pos c3] at H
    refine am_G.br (tgt := 21) rfl rfl (if_pos c3) rfl ?_
    refine am_G.fr 1 (g := (22, [some (.ref a0), some (.int a1)], [.int ((0 : Int32))])) rfl ?_
    obtain ⟨rfl, rfl⟩ := am_inj2 H
    exact am_G.nd ⟨rfl, am_ret2 rfl (if_pos (by decide))⟩
  · rw [if_neg c3] at H
    refine am_G.br (tgt := 8) rfl rfl (if_neg c3) rfl ?_
    refine am_G.fr 1 (g := (9, [some (.ref a0), some (.int a1)], [.ref a0])) rfl ?_
    obtain ⟨now4, e5, H⟩ := am_bd H
    refine am_G.gR rfl e5 ?_
    obtain ⟨at6, e7, H⟩ := am_bd H
    refine am_G.gR rfl e7 ?_
    refine am_G.fr 1 (g := (16, [some (.ref a0), some (.int a1)], [.int a1, .ref at6])) rfl ?_
    obtain ⟨x8, e9, H⟩ := am_bd H
    refine am_G.aI rfl e9 ?_
    refine am_G.fr 1 (g := (18, [some (.ref a0), some (.int a1)], [.int ((-1 : Int32)), .int x8])) rfl ?_
    by_cases c10 : ¬ x8 = ((-1 : Int32))
    · rw [if_pos c10] at H
      refine am_G.br (tgt := 23) rfl rfl (if_pos c10) rfl ?_
      refine am_G.fr 1 (g := (24, [some (.ref a0), some (.int a1)], [.ref a0])) rfl ?_
      obtain ⟨history11, e12, H⟩ := am_bd H
      refine am_G.gR rfl e12 ?_
      refine am_G.fr 1 (g := (28, [some (.ref a0), some (.int a1)], [.ref a0, .ref history11])) rfl ?_
      obtain ⟨now13, e14, H⟩ := am_bd H
      refine am_G.gR rfl e14 ?_
      obtain ⟨hh16, e15, H⟩ := am_bd H
      refine am_G.cl [.ref history11, .ref now13] [] (am_Cl.mono (by decide) (lX0_keep e15)) rfl rfl rfl rfl (Nat.le_of_ble_eq_true rfl) ?_
      refine am_G.fr 1 (g := (35, [some (.ref a0), some (.int a1)], [.ref a0])) rfl ?_
      obtain ⟨now17, e18, H⟩ := am_bd H
      refine am_G.gR rfl e18 ?_
      refine am_G.fr 1 (g := (39, [some (.ref a0), some (.int a1)], [.int a1, .ref now17])) rfl ?_
      obtain ⟨hh20, e19, H⟩ := am_bd H
      refine am_G.cl [.ref now17, .int a1] [] (am_Cl.mono (by decide) (lX6_leave e19)) rfl rfl rfl rfl (Nat.le_of_ble_eq_true rfl) ?_
      refine am_G.fr 1 (g := (43, [some (.ref a0), some (.int a1)], [.int ((1 : Int32))])) rfl ?_
      obtain ⟨rfl, rfl⟩ := am_inj2 H
      exact am_G.nd ⟨rfl, am_ret2 rfl (if_pos (by decide))⟩
    · rw [if_neg c10] at H
      refine am_G.br (tgt := 21) rfl rfl (if_neg c10) rfl ?_
      refine am_G.fr 1 (g := (22, [some (.ref a0), some (.int a1)], [.int ((0 : Int32))])) rfl ?_
      obtain ⟨rfl, rfl⟩ := am_inj2 H
      exact am_G.nd ⟨rfl, am_ret2 rfl (if_pos (by decide))⟩
def fX9_build (a0 : Nat) (a1 : Int32) (h : am_H) : Option (Int32 × am_H) :=
  (am_isO h a0 8).bind fun _ =>
  (fX9_isHouse a0 a1 h).bind fun x2 =>
  if x2 = 0 then
    some ((-1 : Int32), h)
  else
    (am_gR h a0 8 1).bind fun now4 =>
    (am_gR h now4 5 0).bind fun beds6 =>
    (am_aI h 0 beds6 a1).bind fun x8 =>
    if x8 < ((9 : Int32)) then
      (am_gR h a0 8 3).bind fun history11 =>
      (am_gR h a0 8 1).bind fun now13 =>
      (fX0_keep history11 now13 h).bind fun hh16 =>
      (am_gR hh16 a0 8 1).bind fun now17 =>
      (am_gR hh16 now17 5 0).bind fun beds19 =>
      (am_aI hh16 0 beds19 a1).bind fun x21 =>
      (am_sI hh16 0 beds19 a1 (x21 + ((1 : Int32)))).bind fun hh23 =>
      (am_gR hh23 a0 8 1).bind fun now25 =>
      (am_gR hh23 now25 5 0).bind fun beds27 =>
      (am_aI hh23 0 beds27 a1).bind fun x29 =>
      some (x29, hh23)
    else
      some ((-1 : Int32), h)
set_option maxHeartbeats 4000000 in
set_option maxRecDepth 100000 in
theorem lX9_build {sc : Nat × (Nat → Int32)} {a0 : Nat} {a1 : Int32} {h : am_H} {r : Int32} {h1 : am_H} (H : fX9_build a0 a1 h = some (r, h1)) : am_Cl am_T am_N sc 3 88 [.ref a0, .int a1] h (some (.int r)) h1 := by
  unfold fX9_build at H
  obtain ⟨_, hO, H⟩ := am_bd H
  obtain ⟨fs0, hO⟩ := am_isO_ok hO
  refine am_mk (q := qX9_build) rfl (fun _ => ⟨_, _, _, _, _, rfl, hO, rfl, rfl⟩) (fun z => absurd z (by decide)) (Nat.le_of_ble_eq_true rfl) rfl ?_
  show am_G sc (am_Cl am_T am_N sc 2) (am_at kX9_build) (fun t => t.2 = h1 ∧ am_ret 1 (am_at kX9_build) t.1 = some (some (.int r))) ((0, [some (.ref a0), some (.int a1)], []), h)
  refine am_G.fr 2 (g := (2, [some (.ref a0), some (.int a1)], [.int a1, .ref a0])) rfl ?_
  obtain ⟨x2, e1, H⟩ := am_bd H
  refine am_G.cl [.ref a0, .int a1] [] (am_Cl.mono (by decide) (lX9_isHouse e1)) rfl rfl rfl rfl (Nat.le_of_ble_eq_true rfl) ?_
  by_cases c3 : x2 = 0
  · rw [if_pos c3] at H
    refine am_G.br (tgt := 22) rfl rfl (if_pos c3) rfl ?_
    refine am_G.fr 1 (g := (23, [some (.ref a0), some (.int a1)], [.int ((-1 : Int32))])) rfl ?_
    obtain ⟨rfl, rfl⟩ := am_inj2 H
    exact am_G.nd ⟨rfl, rfl⟩
  · rw [if_neg c3] at H
    refine am_G.br (tgt := 8) rfl rfl (if_neg c3) rfl ?_
    refine am_G.fr 1 (g := (9, [some (.ref a0), some (.int a1)], [.ref a0])) rfl ?_
    obtain ⟨now4, e5, H⟩ := am_bd H
    refine am_G.gR rfl e5 ?_
    obtain ⟨beds6, e7, H⟩ := am_bd H
    refine am_G.gR rfl e7 ?_
    refine am_G.fr 1 (g := (16, [some (.ref a0), some (.int a1)], [.int a1, .ref beds6])) rfl ?_
    obtain ⟨x8, e9, H⟩ := am_bd H
    refine am_G.aI rfl e9 ?_
    refine am_G.fr 1 (g := (19, [some (.ref a0), some (.int a1)], [.int ((9 : Int32)), .int x8])) rfl ?_
    by_cases c10 : x8 < ((9 : Int32))
    · rw [if_pos c10] at H
      refine am_G.br (tgt := 24) rfl rfl (if_pos c10) rfl ?_
      refine am_G.fr 1 (g := (25, [some (.ref a0), some (.int a1)], [.ref a0])) rfl ?_
      obtain ⟨history11, e12, H⟩ := am_bd H
      refine am_G.gR rfl e12 ?_
      refine am_G.fr 1 (g := (29, [some (.ref a0), some (.int a1)], [.ref a0, .ref history11])) rfl ?_
      obtain ⟨now13, e14, H⟩ := am_bd H
      refine am_G.gR rfl e14 ?_
      obtain ⟨hh16, e15, H⟩ := am_bd H
      refine am_G.cl [.ref history11, .ref now13] [] (am_Cl.mono (by decide) (lX0_keep e15)) rfl rfl rfl rfl (Nat.le_of_ble_eq_true rfl) ?_
      refine am_G.fr 1 (g := (36, [some (.ref a0), some (.int a1)], [.ref a0])) rfl ?_
      obtain ⟨now17, e18, H⟩ := am_bd H
      refine am_G.gR rfl e18 ?_
      obtain ⟨beds19, e20, H⟩ := am_bd H
      refine am_G.gR rfl e20 ?_
      refine am_G.fr 2 (g := (44, [some (.ref a0), some (.int a1)], [.int a1, .ref beds19, .int a1, .ref beds19])) rfl ?_
      obtain ⟨x21, e22, H⟩ := am_bd H
      refine am_G.aI rfl e22 ?_
      refine am_G.fr 2 (g := (47, [some (.ref a0), some (.int a1)], [.int (x21 + ((1 : Int32))), .int a1, .ref beds19])) rfl ?_
      obtain ⟨hh23, e24, H⟩ := am_bd H
      refine am_G.sI rfl e24 ?_
      refine am_G.fr 1 (g := (49, [some (.ref a0), some (.int a1)], [.ref a0])) rfl ?_
      obtain ⟨now25, e26, H⟩ := am_bd H
      refine am_G.gR rfl e26 ?_
      obtain ⟨beds27, e28, H⟩ := am_bd H
      refine am_G.gR rfl e28 ?_
      refine am_G.fr 1 (g := (56, [some (.ref a0), some (.int a1)], [.int a1, .ref beds27])) rfl ?_
      obtain ⟨x29, e30, H⟩ := am_bd H
      refine am_G.aI rfl e30 ?_
      obtain ⟨rfl, rfl⟩ := am_inj2 H
      exact am_G.nd ⟨rfl, rfl⟩
    · rw [if_neg c10] at H
      refine am_G.br (tgt := 22) rfl rfl (if_neg c10) rfl ?_
      refine am_G.fr 1 (g := (23, [some (.ref a0), some (.int a1)], [.int ((-1 : Int32))])) rfl ?_
      obtain ⟨rfl, rfl⟩ := am_inj2 H
      exact am_G.nd ⟨rfl, rfl⟩
def fX9_undo (a0 : Nat) (h : am_H) : Option (Int32 × am_H) :=
  (am_isO h a0 8).bind fun _ =>
  (am_gR h a0 8 3).bind fun history1 =>
  (am_gR h a0 8 1).bind fun now3 =>
  am_b2 (fX0_bringBack history1 now3 h) fun x6 hh7 =>
  (am_z01 x6).bind fun b8 =>
  some (b8, hh7)
set_option maxHeartbeats 4000000 in
set_option maxRecDepth 100000 in
theorem lX9_undo {sc : Nat × (Nat → Int32)} {a0 : Nat} {h : am_H} {r : Int32} {h1 : am_H} (H : fX9_undo a0 h = some (r, h1)) : am_Cl am_T am_N sc 3 89 [.ref a0] h (some (.int r)) h1 := by
  unfold fX9_undo at H
  obtain ⟨_, hO, H⟩ := am_bd H
  obtain ⟨fs0, hO⟩ := am_isO_ok hO
  refine am_mk (q := qX9_undo) rfl (fun _ => ⟨_, _, _, _, _, rfl, hO, rfl, rfl⟩) (fun z => absurd z (by decide)) (Nat.le_of_ble_eq_true rfl) rfl ?_
  show am_G sc (am_Cl am_T am_N sc 2) (am_at kX9_undo) (fun t => t.2 = h1 ∧ am_ret 2 (am_at kX9_undo) t.1 = some (some (.int r))) ((0, [some (.ref a0)], []), h)
  refine am_G.fr 1 (g := (1, [some (.ref a0)], [.ref a0])) rfl ?_
  obtain ⟨history1, e2, H⟩ := am_bd H
  refine am_G.gR rfl e2 ?_
  refine am_G.fr 1 (g := (5, [some (.ref a0)], [.ref a0, .ref history1])) rfl ?_
  obtain ⟨now3, e4, H⟩ := am_bd H
  refine am_G.gR rfl e4 ?_
  obtain ⟨x6, hh7, e5, H⟩ := am_bd2 H
  refine am_G.cl [.ref history1, .ref now3] [] (am_Cl.mono (by decide) (lX0_bringBack e5)) rfl rfl rfl rfl (Nat.le_of_ble_eq_true rfl) ?_
  obtain ⟨b8, e9, H⟩ := am_bd H
  obtain ⟨rfl, rfl⟩ := am_inj2 H
  exact am_G.nd ⟨rfl, am_ret2 rfl e9⟩
def fX9_judged_L30 : Nat → Nat → Int32 → Int32 → Int32 → Int32 → am_H → Option (Int32 × Int32 × am_H)
  | 0, _, _, _, _, _, _ => none
  | n + 1, v0, v1, v2, v3, v4, h =>
    (am_gR h v0 8 11).bind fun plan10 =>
    (am_gI h plan10 3 3).bind fun lines12 =>
    if lines12 ≤ v4 then
      some (v2, v3, h)
    else
      (am_gR h v0 8 2).bind fun ahead15 =>
      (am_gI h ahead15 5 8).bind fun turnedOff17 =>
      (am_gR h v0 8 11).bind fun plan19 =>
      (am_gR h v0 8 9).bind fun told21 =>
      (am_gR h v0 8 2).bind fun ahead23 =>
      am_b2 (fX3_carryOut plan19 v4 told21 ahead23 h) fun x26 hh27 =>
      Option.bind (
        if ¬ x26 = 0 then
          some v2
        else
          if ¬ v2 = ((-1 : Int32)) then
            some v2
          else
            some v4) fun jv28 =>
      (am_gR hh27 v0 8 2).bind fun ahead31 =>
      (am_gI hh27 ahead31 5 8).bind fun turnedOff33 =>
      Option.bind (
        if turnedOff33 ≤ turnedOff17 then
          some v3
        else
          if ¬ v3 = ((-1 : Int32)) then
            some v3
          else
            some v4) fun jv35 =>
      fX9_judged_L30 n v0 v1 jv28 jv35 (v4 + (1 : Int32)) hh27
def fX9_judged (a0 : Nat) (a1 : Int32) (h : am_H) : Option (Int32 × am_H) :=
  (am_isO h a0 8).bind fun _ =>
  (fX9_within a1 ((0 : Int32)) ((2 : Int32)) h).bind fun x2 =>
  if ¬ x2 = 0 then
    (am_gR h a0 8 2).bind fun ahead4 =>
    (am_gR h a0 8 9).bind fun told6 =>
    (fX6_begin ahead4 told6 h).bind fun hh9 =>
    am_b3 (fX9_judged_L30 4000 a0 a1 ((-1 : Int32)) ((-1 : Int32)) ((0 : Int32)) hh9) fun lw40 lw41 hh42 =>
    if ¬ a1 = 0 then
      Option.bind (
        if ¬ a1 = ((1 : Int32)) then
          (am_gR hh42 a0 8 2).bind fun ahead47 =>
          (am_gI hh42 ahead47 5 8).bind fun turnedOff49 =>
          some turnedOff49
        else
          some lw41) fun js45 =>
      some (js45, hh42)
    else
      some (lw40, hh42)
  else
    some ((-2 : Int32), h)
set_option maxHeartbeats 4000000 in
set_option maxRecDepth 100000 in
theorem lX9_judged_L30 {sc : Nat × (Nat → Int32)} : ∀ (n : Nat) (v0 : Nat) (v1 : Int32) (v2 : Int32) (v3 : Int32) (v4 : Int32) (h : am_H) (w2 : Int32) (w3 : Int32) (h1 : am_H), fX9_judged_L30 n v0 v1 v2 v3 v4 h = some (w2, w3, h1) → am_G sc (am_Cl am_T am_N sc 5) (am_at kX9_judged) (fun t => t = ((109, [some (.ref v0), some (.int v1), some (.int w2), some (.int w3), none, none, none], []), h1)) ((30, [some (.ref v0), some (.int v1), some (.int v2), some (.int v3), some (.int v4), none, none], []), h) := by
  intro n
  induction n with
  | zero => intro _ _ _ _ _ _ _ _ _ H; cases H
  | succ n ih =>
    intro v0 v1 v2 v3 v4 h w2 w3 h1 H
    rw [fX9_judged_L30] at H
    refine am_G.fr 2 (g := (33, [some (.ref v0), some (.int v1), some (.int v2), some (.int v3), some (.int v4), none, none], [.ref v0, .int v4])) rfl ?_
    obtain ⟨plan10, e11, H⟩ := am_bd H
    refine am_G.gR rfl e11 ?_
    obtain ⟨lines12, e13, H⟩ := am_bd H
    refine am_G.gI rfl e13 ?_
    by_cases c14 : lines12 ≤ v4
    · rw [if_pos c14] at H
      refine am_G.br (tgt := 109) rfl rfl (if_pos c14) rfl ?_
      obtain ⟨rfl, rfl, rfl⟩ := am_inj3 H
      refine am_G.fg [some (.ref v0), some (.int v1), some (.int v2), some (.int v3), none, none, none] (by simp only [am_sub, and_self]) ?_
      exact am_G.nd rfl
    · rw [if_neg c14] at H
      refine am_G.br (tgt := 42) rfl rfl (if_neg c14) rfl ?_
      refine am_G.fr 1 (g := (43, [some (.ref v0), some (.int v1), some (.int v2), some (.int v3), some (.int v4), none, none], [.ref v0])) rfl ?_
      obtain ⟨ahead15, e16, H⟩ := am_bd H
      refine am_G.gR rfl e16 ?_
      obtain ⟨turnedOff17, e18, H⟩ := am_bd H
      refine am_G.gI rfl e18 ?_
      refine am_G.fr 2 (g := (52, [some (.ref v0), some (.int v1), some (.int v2), some (.int v3), some (.int v4), some (.int turnedOff17), none], [.ref v0])) rfl ?_
      obtain ⟨plan19, e20, H⟩ := am_bd H
      refine am_G.gR rfl e20 ?_
      refine am_G.fr 2 (g := (58, [some (.ref v0), some (.int v1), some (.int v2), some (.int v3), some (.int v4), some (.int turnedOff17), none], [.ref v0, .int v4, .ref plan19])) rfl ?_
      obtain ⟨told21, e22, H⟩ := am_bd H
      refine am_G.gR rfl e22 ?_
      refine am_G.fr 1 (g := (62, [some (.ref v0), some (.int v1), some (.int v2), some (.int v3), some (.int v4), some (.int turnedOff17), none], [.ref v0, .ref told21, .int v4, .ref plan19])) rfl ?_
      obtain ⟨ahead23, e24, H⟩ := am_bd H
      refine am_G.gR rfl e24 ?_
      obtain ⟨x26, hh27, e25, H⟩ := am_bd2 H
      refine am_G.cl [.ref plan19, .int v4, .ref told21, .ref ahead23] [] (am_Cl.mono (by decide) (lX3_carryOut e25)) rfl rfl rfl rfl (Nat.le_of_ble_eq_true rfl) ?_
      refine am_G.fr 2 (g := (72, [some (.ref v0), some (.int v1), some (.int v2), some (.int v3), some (.int v4), some (.int turnedOff17), some (.int x26)], [.int x26])) rfl ?_
      obtain ⟨jv28, E39, H⟩ := am_bd H
      refine am_G.sq (t := ((83, [some (.ref v0), some (.int v1), some (.int jv28), some (.int v3), some (.int v4), some (.int turnedOff17), none], []), hh27)) ?_ ?_
      · clear H
        have H := E39
        clear E39
        by_cases c29 : ¬ x26 = 0
        · rw [if_pos c29] at H
          refine am_G.br (tgt := 83) rfl rfl (if_pos c29) rfl ?_
          obtain rfl := Option.some.inj H
          refine am_G.fg [some (.ref v0), some (.int v1), some (.int v2), some (.int v3), some (.int v4), some (.int turnedOff17), none] (by simp only [am_sub, and_self]) ?_
          exact am_G.nd rfl
        · rw [if_neg c29] at H
          refine am_G.br (tgt := 75) rfl rfl (if_neg c29) rfl ?_
          refine am_G.fr 2 (g := (77, [some (.ref v0), some (.int v1), some (.int v2), some (.int v3), some (.int v4), some (.int turnedOff17), some (.int x26)], [.int ((-1 : Int32)), .int v2])) rfl ?_
          by_cases c30 : ¬ v2 = ((-1 : Int32))
          · rw [if_pos c30] at H
            refine am_G.br (tgt := 83) rfl rfl (if_pos c30) rfl ?_
            obtain rfl := Option.some.inj H
            refine am_G.fg [some (.ref v0), some (.int v1), some (.int v2), some (.int v3), some (.int v4), some (.int turnedOff17), none] (by simp only [am_sub, and_self]) ?_
            exact am_G.nd rfl
          · rw [if_neg c30] at H
            refine am_G.br (tgt := 80) rfl rfl (if_neg c30) rfl ?_
            refine am_G.fr 2 (g := (83, [some (.ref v0), some (.int v1), some (.int v4), some (.int v3), some (.int v4), some (.int turnedOff17), some (.int x26)], [])) rfl ?_
            obtain rfl := Option.some.inj H
            refine am_G.fg [some (.ref v0), some (.int v1), some (.int v4), some (.int v3), some (.int v4), some (.int turnedOff17), none] (by simp only [am_sub, and_self]) ?_
            exact am_G.nd rfl
      · clear E39
        refine am_G.fr 1 (g := (84, [some (.ref v0), some (.int v1), some (.int jv28), some (.int v3), some (.int v4), some (.int turnedOff17), none], [.ref v0])) rfl ?_
        obtain ⟨ahead31, e32, H⟩ := am_bd H
        refine am_G.gR rfl e32 ?_
        obtain ⟨turnedOff33, e34, H⟩ := am_bd H
        refine am_G.gI rfl e34 ?_
        refine am_G.fr 1 (g := (92, [some (.ref v0), some (.int v1), some (.int jv28), some (.int v3), some (.int v4), some (.int turnedOff17), none], [.int turnedOff17, .int turnedOff33])) rfl ?_
        obtain ⟨jv35, E38, H⟩ := am_bd H
        refine am_G.sq (t := ((103, [some (.ref v0), some (.int v1), some (.int jv28), some (.int jv35), some (.int v4), none, none], []), hh27)) ?_ ?_
        · clear H
          have H := E38
          clear E38
          by_cases c36 : turnedOff33 ≤ turnedOff17
          · rw [if_pos c36] at H
            refine am_G.br (tgt := 103) rfl rfl (if_pos c36) rfl ?_
            obtain rfl := Option.some.inj H
            refine am_G.fg [some (.ref v0), some (.int v1), some (.int jv28), some (.int v3), some (.int v4), none, none] (by simp only [am_sub, and_self]) ?_
            exact am_G.nd rfl
          · rw [if_neg c36] at H
            refine am_G.br (tgt := 95) rfl rfl (if_neg c36) rfl ?_
            refine am_G.fr 2 (g := (97, [some (.ref v0), some (.int v1), some (.int jv28), some (.int v3), some (.int v4), some (.int turnedOff17), none], [.int ((-1 : Int32)), .int v3])) rfl ?_
            by_cases c37 : ¬ v3 = ((-1 : Int32))
            · rw [if_pos c37] at H
              refine am_G.br (tgt := 103) rfl rfl (if_pos c37) rfl ?_
              obtain rfl := Option.some.inj H
              refine am_G.fg [some (.ref v0), some (.int v1), some (.int jv28), some (.int v3), some (.int v4), none, none] (by simp only [am_sub, and_self]) ?_
              exact am_G.nd rfl
            · rw [if_neg c37] at H
              refine am_G.br (tgt := 100) rfl rfl (if_neg c37) rfl ?_
              refine am_G.fr 2 (g := (103, [some (.ref v0), some (.int v1), some (.int jv28), some (.int v4), some (.int v4), some (.int turnedOff17), none], [])) rfl ?_
              obtain rfl := Option.some.inj H
              refine am_G.fg [some (.ref v0), some (.int v1), some (.int jv28), some (.int v4), some (.int v4), none, none] (by simp only [am_sub, and_self]) ?_
              exact am_G.nd rfl
        · clear E38
          refine am_G.fr 2 (g := (30, [some (.ref v0), some (.int v1), some (.int jv28), some (.int jv35), some (.int (v4 + (1 : Int32))), none, none], [])) rfl ?_
          exact ih _ _ _ _ _ _ _ _ _ H
set_option maxHeartbeats 4000000 in
set_option maxRecDepth 100000 in
theorem lX9_judged {sc : Nat × (Nat → Int32)} {a0 : Nat} {a1 : Int32} {h : am_H} {r : Int32} {h1 : am_H} (H : fX9_judged a0 a1 h = some (r, h1)) : am_Cl am_T am_N sc 6 90 [.ref a0, .int a1] h (some (.int r)) h1 := by
  unfold fX9_judged at H
  obtain ⟨_, hO, H⟩ := am_bd H
  obtain ⟨fs0, hO⟩ := am_isO_ok hO
  refine am_mk (q := qX9_judged) rfl (fun _ => ⟨_, _, _, _, _, rfl, hO, rfl, rfl⟩) (fun z => absurd z (by decide)) (Nat.le_of_ble_eq_true rfl) rfl ?_
  show am_G sc (am_Cl am_T am_N sc 5) (am_at kX9_judged) (fun t => t.2 = h1 ∧ am_ret 1 (am_at kX9_judged) t.1 = some (some (.int r))) ((0, [some (.ref a0), some (.int a1), none, none, none, none, none], []), h)
  refine am_G.fr 3 (g := (3, [some (.ref a0), some (.int a1), none, none, none, none, none], [.int ((2 : Int32)), .int ((0 : Int32)), .int a1])) rfl ?_
  obtain ⟨x2, e1, H⟩ := am_bd H
  refine am_G.cl [.int a1, .int ((0 : Int32)), .int ((2 : Int32))] [] (am_Cl.mono (by decide) (lX9_within e1)) rfl rfl rfl rfl (Nat.le_of_ble_eq_true rfl) ?_
  by_cases c3 : ¬ x2 = 0
  · rw [if_pos c3] at H
    refine am_G.br (tgt := 12) rfl rfl (if_pos c3) rfl ?_
    refine am_G.fr 5 (g := (17, [some (.ref a0), some (.int a1), some (.int ((-1 : Int32))), some (.int ((-1 : Int32))), none, none, none], [.ref a0])) rfl ?_
    obtain ⟨ahead4, e5, H⟩ := am_bd H
    refine am_G.gR rfl e5 ?_
    refine am_G.fr 1 (g := (21, [some (.ref a0), some (.int a1), some (.int ((-1 : Int32))), some (.int ((-1 : Int32))), none, none, none], [.ref a0, .ref ahead4])) rfl ?_
    obtain ⟨told6, e7, H⟩ := am_bd H
    refine am_G.gR rfl e7 ?_
    obtain ⟨hh9, e8, H⟩ := am_bd H
    refine am_G.cl [.ref ahead4, .ref told6] [] (am_Cl.mono (by decide) (lX6_begin e8)) rfl rfl rfl rfl (Nat.le_of_ble_eq_true rfl) ?_
    refine am_G.fr 2 (g := (30, [some (.ref a0), some (.int a1), some (.int ((-1 : Int32))), some (.int ((-1 : Int32))), some (.int ((0 : Int32))), none, none], [])) rfl ?_
    obtain ⟨lw40, lw41, hh42, E43, H⟩ := am_bd3 H
    refine am_G.sq (lX9_judged_L30 _ _ _ _ _ _ _ _ _ _ E43) ?_
    clear E43
    refine am_G.fr 1 (g := (110, [some (.ref a0), some (.int a1), some (.int lw40), some (.int lw41), none, none, none], [.int a1])) rfl ?_
    by_cases c44 : ¬ a1 = 0
    · rw [if_pos c44] at H
      refine am_G.br (tgt := 115) rfl rfl (if_pos c44) rfl ?_
      refine am_G.fr 2 (g := (117, [some (.ref a0), some (.int a1), some (.int lw40), some (.int lw41), none, none, none], [.int ((1 : Int32)), .int a1])) rfl ?_
      obtain ⟨js45, E51, H⟩ := am_bd H
      refine am_G.sq (t := ((131, [none, none, none, none, none, none, none], [.int js45]), hh42)) ?_ ?_
      · clear H
        have H := E51
        clear E51
        by_cases c46 : ¬ a1 = ((1 : Int32))
        · rw [if_pos c46] at H
          refine am_G.br (tgt := 124) rfl rfl (if_pos c46) rfl ?_
          refine am_G.fr 1 (g := (125, [some (.ref a0), some (.int a1), some (.int lw40), some (.int lw41), none, none, none], [.ref a0])) rfl ?_
          obtain ⟨ahead47, e48, H⟩ := am_bd H
          refine am_G.gR rfl e48 ?_
          obtain ⟨turnedOff49, e50, H⟩ := am_bd H
          refine am_G.gI rfl e50 ?_
          obtain rfl := Option.some.inj H
          refine am_G.fg [none, none, none, none, none, none, none] (by simp only [am_sub, and_self]) ?_
          exact am_G.nd rfl
        · rw [if_neg c46] at H
          refine am_G.br (tgt := 120) rfl rfl (if_neg c46) rfl ?_
          refine am_G.fr 2 (g := (131, [some (.ref a0), some (.int a1), some (.int lw40), some (.int lw41), none, none, none], [.int lw41])) rfl ?_
          obtain rfl := Option.some.inj H
          refine am_G.fg [none, none, none, none, none, none, none] (by simp only [am_sub, and_self]) ?_
          exact am_G.nd rfl
      · clear E51
        obtain ⟨rfl, rfl⟩ := am_inj2 H
        exact am_G.nd ⟨rfl, rfl⟩
    · rw [if_neg c44] at H
      refine am_G.br (tgt := 113) rfl rfl (if_neg c44) rfl ?_
      refine am_G.fr 1 (g := (114, [some (.ref a0), some (.int a1), some (.int lw40), some (.int lw41), none, none, none], [.int lw40])) rfl ?_
      obtain ⟨rfl, rfl⟩ := am_inj2 H
      exact am_G.nd ⟨rfl, rfl⟩
  · rw [if_neg c3] at H
    refine am_G.br (tgt := 9) rfl rfl (if_neg c3) rfl ?_
    refine am_G.fr 1 (g := (11, [some (.ref a0), some (.int a1), none, none, none, none, none], [.int ((-2 : Int32))])) rfl ?_
    obtain ⟨rfl, rfl⟩ := am_inj2 H
    exact am_G.nd ⟨rfl, rfl⟩
def fX9_where_L34 : Nat → Nat → Int32 → Int32 → Int32 → am_H → Option (am_H)
  | 0, _, _, _, _, _ => none
  | n + 1, v0, v1, v2, v3, h =>
    if v2 ≤ v3 then
      some h
    else
      (am_gR h v0 8 2).bind fun ahead14 =>
      (am_gR h v0 8 9).bind fun told16 =>
      (fX6_passDate ahead14 told16 h).bind fun hh19 =>
      fX9_where_L34 n v0 v1 v2 (v3 + (1 : Int32)) hh19
def fX9_where (a0 : Nat) (a1 : Int32) (a2 : Int32) (h : am_H) : Option (Int32 × am_H) :=
  (am_isO h a0 8).bind fun _ =>
  (fX9_isDay a0 a1 h).bind fun x2 =>
  if x2 = 0 then
    some ((-2 : Int32), h)
  else
    (fX9_within a2 ((0 : Int32)) ((60 : Int32)) h).bind fun x5 =>
    if ¬ x5 = 0 then
      (am_gR h a0 8 2).bind fun ahead7 =>
      (am_gR h a0 8 1).bind fun now9 =>
      (fX6_copyFrom ahead7 now9 h).bind fun hh12 =>
      Option.bind (fX9_where_L34 4000 a0 a1 a2 ((0 : Int32)) hh12) fun hh20 =>
      (am_gR hh20 a0 8 2).bind fun ahead22 =>
      (am_gR hh20 ahead22 5 3).bind fun at24 =>
      (am_aI hh20 0 at24 a1).bind fun x26 =>
      some (x26, hh20)
    else
      some ((-2 : Int32), h)
set_option maxHeartbeats 4000000 in
set_option maxRecDepth 100000 in
theorem lX9_where_L34 {sc : Nat × (Nat → Int32)} : ∀ (n : Nat) (v0 : Nat) (v1 : Int32) (v2 : Int32) (v3 : Int32) (h : am_H) (h1 : am_H), fX9_where_L34 n v0 v1 v2 v3 h = some h1 → am_G sc (am_Cl am_T am_N sc 4) (am_at kX9_where) (fun t => t = ((56, [some (.ref v0), some (.int v1), none, none], []), h1)) ((34, [some (.ref v0), some (.int v1), some (.int v2), some (.int v3)], []), h) := by
  intro n
  induction n with
  | zero => intro _ _ _ _ _ _ H; cases H
  | succ n ih =>
    intro v0 v1 v2 v3 h h1 H
    rw [fX9_where_L34] at H
    refine am_G.fr 2 (g := (36, [some (.ref v0), some (.int v1), some (.int v2), some (.int v3)], [.int v2, .int v3])) rfl ?_
    by_cases c13 : v2 ≤ v3
    · rw [if_pos c13] at H
      refine am_G.br (tgt := 56) rfl rfl (if_pos c13) rfl ?_
      obtain rfl := Option.some.inj H
      refine am_G.fg [some (.ref v0), some (.int v1), none, none] (by simp only [am_sub, and_self]) ?_
      exact am_G.nd rfl
    · rw [if_neg c13] at H
      refine am_G.br (tgt := 39) rfl rfl (if_neg c13) rfl ?_
      refine am_G.fr 1 (g := (40, [some (.ref v0), some (.int v1), some (.int v2), some (.int v3)], [.ref v0])) rfl ?_
      obtain ⟨ahead14, e15, H⟩ := am_bd H
      refine am_G.gR rfl e15 ?_
      refine am_G.fr 1 (g := (44, [some (.ref v0), some (.int v1), some (.int v2), some (.int v3)], [.ref v0, .ref ahead14])) rfl ?_
      obtain ⟨told16, e17, H⟩ := am_bd H
      refine am_G.gR rfl e17 ?_
      obtain ⟨hh19, e18, H⟩ := am_bd H
      refine am_G.cl [.ref ahead14, .ref told16] [] (am_Cl.mono (by decide) (lX6_passDate e18)) rfl rfl rfl rfl (Nat.le_of_ble_eq_true rfl) ?_
      refine am_G.fr 2 (g := (34, [some (.ref v0), some (.int v1), some (.int v2), some (.int (v3 + (1 : Int32)))], [])) rfl ?_
      exact ih _ _ _ _ _ _ H
set_option maxHeartbeats 4000000 in
set_option maxRecDepth 100000 in
theorem lX9_where {sc : Nat × (Nat → Int32)} {a0 : Nat} {a1 : Int32} {a2 : Int32} {h : am_H} {r : Int32} {h1 : am_H} (H : fX9_where a0 a1 a2 h = some (r, h1)) : am_Cl am_T am_N sc 5 91 [.ref a0, .int a1, .int a2] h (some (.int r)) h1 := by
  unfold fX9_where at H
  obtain ⟨_, hO, H⟩ := am_bd H
  obtain ⟨fs0, hO⟩ := am_isO_ok hO
  refine am_mk (q := qX9_where) rfl (fun _ => ⟨_, _, _, _, _, rfl, hO, rfl, rfl⟩) (fun z => absurd z (by decide)) (Nat.le_of_ble_eq_true rfl) rfl ?_
  show am_G sc (am_Cl am_T am_N sc 4) (am_at kX9_where) (fun t => t.2 = h1 ∧ am_ret 1 (am_at kX9_where) t.1 = some (some (.int r))) ((0, [some (.ref a0), some (.int a1), some (.int a2), none], []), h)
  refine am_G.fr 2 (g := (2, [some (.ref a0), some (.int a1), some (.int a2), none], [.int a1, .ref a0])) rfl ?_
  obtain ⟨x2, e1, H⟩ := am_bd H
  refine am_G.cl [.ref a0, .int a1] [] (am_Cl.mono (by decide) (lX9_isDay e1)) rfl rfl rfl rfl (Nat.le_of_ble_eq_true rfl) ?_
  by_cases c3 : x2 = 0
  · rw [if_pos c3] at H
    refine am_G.br (tgt := 18) rfl rfl (if_pos c3) rfl ?_
    refine am_G.fr 1 (g := (20, [some (.ref a0), some (.int a1), some (.int a2), none], [.int ((-2 : Int32))])) rfl ?_
    obtain ⟨rfl, rfl⟩ := am_inj2 H
    exact am_G.nd ⟨rfl, rfl⟩
  · rw [if_neg c3] at H
    refine am_G.br (tgt := 8) rfl rfl (if_neg c3) rfl ?_
    refine am_G.fr 3 (g := (12, [some (.ref a0), some (.int a1), some (.int a2), none], [.int ((60 : Int32)), .int ((0 : Int32)), .int a2])) rfl ?_
    obtain ⟨x5, e4, H⟩ := am_bd H
    refine am_G.cl [.int a2, .int ((0 : Int32)), .int ((60 : Int32))] [] (am_Cl.mono (by decide) (lX9_within e4)) rfl rfl rfl rfl (Nat.le_of_ble_eq_true rfl) ?_
    by_cases c6 : ¬ x5 = 0
    · rw [if_pos c6] at H
      refine am_G.br (tgt := 21) rfl rfl (if_pos c6) rfl ?_
      refine am_G.fr 1 (g := (22, [some (.ref a0), some (.int a1), some (.int a2), none], [.ref a0])) rfl ?_
      obtain ⟨ahead7, e8, H⟩ := am_bd H
      refine am_G.gR rfl e8 ?_
      refine am_G.fr 1 (g := (26, [some (.ref a0), some (.int a1), some (.int a2), none], [.ref a0, .ref ahead7])) rfl ?_
      obtain ⟨now9, e10, H⟩ := am_bd H
      refine am_G.gR rfl e10 ?_
      obtain ⟨hh12, e11, H⟩ := am_bd H
      refine am_G.cl [.ref ahead7, .ref now9] [] (am_Cl.mono (by decide) (lX6_copyFrom e11)) rfl rfl rfl rfl (Nat.le_of_ble_eq_true rfl) ?_
      refine am_G.fr 2 (g := (34, [some (.ref a0), some (.int a1), some (.int a2), some (.int ((0 : Int32)))], [])) rfl ?_
      obtain ⟨hh20, E21, H⟩ := am_bd H
      refine am_G.sq (lX9_where_L34 _ _ _ _ _ _ _ E21) ?_
      clear E21
      refine am_G.fr 1 (g := (57, [some (.ref a0), some (.int a1), none, none], [.ref a0])) rfl ?_
      obtain ⟨ahead22, e23, H⟩ := am_bd H
      refine am_G.gR rfl e23 ?_
      obtain ⟨at24, e25, H⟩ := am_bd H
      refine am_G.gR rfl e25 ?_
      refine am_G.fr 1 (g := (64, [some (.ref a0), some (.int a1), none, none], [.int a1, .ref at24])) rfl ?_
      obtain ⟨x26, e27, H⟩ := am_bd H
      refine am_G.aI rfl e27 ?_
      obtain ⟨rfl, rfl⟩ := am_inj2 H
      exact am_G.nd ⟨rfl, rfl⟩
    · rw [if_neg c6] at H
      refine am_G.br (tgt := 18) rfl rfl (if_neg c6) rfl ?_
      refine am_G.fr 1 (g := (20, [some (.ref a0), some (.int a1), some (.int a2), none], [.int ((-2 : Int32))])) rfl ?_
      obtain ⟨rfl, rfl⟩ := am_inj2 H
      exact am_G.nd ⟨rfl, rfl⟩
def fX9_next_L23 : Nat → Nat → Int32 → Int32 → am_H → Option ((am_H) ⊕ (Int32 × am_H))
  | 0, _, _, _, _ => none
  | n + 1, v0, v1, v2, h =>
    if ((60 : Int32)) < v2 then
      some (.inl h)
    else
      (am_gR h v0 8 2).bind fun ahead11 =>
      (am_gR h v0 8 9).bind fun told13 =>
      (fX6_passDate ahead11 told13 h).bind fun hh16 =>
      (am_gR hh16 v0 8 2).bind fun ahead17 =>
      (am_gI hh16 ahead17 5 9).bind fun came19 =>
      (am_gR hh16 v0 8 2).bind fun ahead21 =>
      (am_gI hh16 ahead21 5 10).bind fun off23 =>
      (fX9_has (came19 ||| off23) v1 hh16).bind fun x26 =>
      if x26 = 0 then
        fX9_next_L23 n v0 v1 (v2 + (1 : Int32)) hh16
      else
        some (.inr (v2, hh16))
def fX9_next (a0 : Nat) (a1 : Int32) (h : am_H) : Option (Int32 × am_H) :=
  (am_isO h a0 8).bind fun _ =>
  (fX9_isDay a0 a1 h).bind fun x2 =>
  if ¬ x2 = 0 then
    (am_gR h a0 8 2).bind fun ahead4 =>
    (am_gR h a0 8 1).bind fun now6 =>
    (fX6_copyFrom ahead4 now6 h).bind fun hh9 =>
    (fX9_next_L23 4000 a0 a1 ((1 : Int32)) hh9).bind fun o30 => match o30 with
      | .inl hh28 =>
        some ((-1 : Int32), hh28)
      | .inr y31 => some y31
  else
    some ((-1 : Int32), h)
set_option maxHeartbeats 4000000 in
set_option maxRecDepth 100000 in
theorem lX9_next_L23 {sc : Nat × (Nat → Int32)} : ∀ (n : Nat) (v0 : Nat) (v1 : Int32) (v2 : Int32) (h : am_H) (o : (am_H) ⊕ (Int32 × am_H)), fX9_next_L23 n v0 v1 v2 h = some o → am_G sc (am_Cl am_T am_N sc 4) (am_at kX9_next) (fun t => match o with
    | .inl h1 => t = ((70, [none, none, none], []), h1)
    | .inr y => t.2 = y.2 ∧ am_ret 1 (am_at kX9_next) t.1 = some (some (.int y.1))) ((23, [some (.ref v0), some (.int v1), some (.int v2)], []), h) := by
  intro n
  induction n with
  | zero => intro _ _ _ _ _ H; cases H
  | succ n ih =>
    intro v0 v1 v2 h o H
    rw [fX9_next_L23] at H
    refine am_G.fr 2 (g := (26, [some (.ref v0), some (.int v1), some (.int v2)], [.int ((60 : Int32)), .int v2])) rfl ?_
    by_cases c10 : ((60 : Int32)) < v2
    · rw [if_pos c10] at H
      refine am_G.br (tgt := 70) rfl rfl (if_pos c10) rfl ?_
      obtain rfl := Option.some.inj H
      refine am_G.fg [none, none, none] (by simp only [am_sub, and_self]) ?_
      exact am_G.nd rfl
    · rw [if_neg c10] at H
      refine am_G.br (tgt := 29) rfl rfl (if_neg c10) rfl ?_
      refine am_G.fr 1 (g := (30, [some (.ref v0), some (.int v1), some (.int v2)], [.ref v0])) rfl ?_
      obtain ⟨ahead11, e12, H⟩ := am_bd H
      refine am_G.gR rfl e12 ?_
      refine am_G.fr 1 (g := (34, [some (.ref v0), some (.int v1), some (.int v2)], [.ref v0, .ref ahead11])) rfl ?_
      obtain ⟨told13, e14, H⟩ := am_bd H
      refine am_G.gR rfl e14 ?_
      obtain ⟨hh16, e15, H⟩ := am_bd H
      refine am_G.cl [.ref ahead11, .ref told13] [] (am_Cl.mono (by decide) (lX6_passDate e15)) rfl rfl rfl rfl (Nat.le_of_ble_eq_true rfl) ?_
      refine am_G.fr 1 (g := (41, [some (.ref v0), some (.int v1), some (.int v2)], [.ref v0])) rfl ?_
      obtain ⟨ahead17, e18, H⟩ := am_bd H
      refine am_G.gR rfl e18 ?_
      obtain ⟨came19, e20, H⟩ := am_bd H
      refine am_G.gI rfl e20 ?_
      refine am_G.fr 1 (g := (48, [some (.ref v0), some (.int v1), some (.int v2)], [.ref v0, .int came19])) rfl ?_
      obtain ⟨ahead21, e22, H⟩ := am_bd H
      refine am_G.gR rfl e22 ?_
      obtain ⟨off23, e24, H⟩ := am_bd H
      refine am_G.gI rfl e24 ?_
      refine am_G.fr 2 (g := (56, [some (.ref v0), some (.int v1), some (.int v2)], [.int v1, .int (came19 ||| off23)])) rfl ?_
      obtain ⟨x26, e25, H⟩ := am_bd H
      refine am_G.cl [.int (came19 ||| off23), .int v1] [] (am_Cl.mono (by decide) (lX9_has e25)) rfl rfl rfl rfl (Nat.le_of_ble_eq_true rfl) ?_
      by_cases c27 : x26 = 0
      · rw [if_pos c27] at H
        refine am_G.br (tgt := 64) rfl rfl (if_pos c27) rfl ?_
        refine am_G.fr 2 (g := (23, [some (.ref v0), some (.int v1), some (.int (v2 + (1 : Int32)))], [])) rfl ?_
        exact ih _ _ _ _ _ H
      · rw [if_neg c27] at H
        refine am_G.br (tgt := 62) rfl rfl (if_neg c27) rfl ?_
        refine am_G.fr 1 (g := (63, [some (.ref v0), some (.int v1), some (.int v2)], [.int v2])) rfl ?_
        obtain rfl := Option.some.inj H
        exact am_G.nd ⟨rfl, rfl⟩
set_option maxHeartbeats 4000000 in
set_option maxRecDepth 100000 in
theorem lX9_next {sc : Nat × (Nat → Int32)} {a0 : Nat} {a1 : Int32} {h : am_H} {r : Int32} {h1 : am_H} (H : fX9_next a0 a1 h = some (r, h1)) : am_Cl am_T am_N sc 5 92 [.ref a0, .int a1] h (some (.int r)) h1 := by
  unfold fX9_next at H
  obtain ⟨_, hO, H⟩ := am_bd H
  obtain ⟨fs0, hO⟩ := am_isO_ok hO
  refine am_mk (q := qX9_next) rfl (fun _ => ⟨_, _, _, _, _, rfl, hO, rfl, rfl⟩) (fun z => absurd z (by decide)) (Nat.le_of_ble_eq_true rfl) rfl ?_
  show am_G sc (am_Cl am_T am_N sc 4) (am_at kX9_next) (fun t => t.2 = h1 ∧ am_ret 1 (am_at kX9_next) t.1 = some (some (.int r))) ((0, [some (.ref a0), some (.int a1), none], []), h)
  refine am_G.fr 2 (g := (2, [some (.ref a0), some (.int a1), none], [.int a1, .ref a0])) rfl ?_
  obtain ⟨x2, e1, H⟩ := am_bd H
  refine am_G.cl [.ref a0, .int a1] [] (am_Cl.mono (by decide) (lX9_isDay e1)) rfl rfl rfl rfl (Nat.le_of_ble_eq_true rfl) ?_
  by_cases c3 : ¬ x2 = 0
  · rw [if_pos c3] at H
    refine am_G.br (tgt := 10) rfl rfl (if_pos c3) rfl ?_
    refine am_G.fr 1 (g := (11, [some (.ref a0), some (.int a1), none], [.ref a0])) rfl ?_
    obtain ⟨ahead4, e5, H⟩ := am_bd H
    refine am_G.gR rfl e5 ?_
    refine am_G.fr 1 (g := (15, [some (.ref a0), some (.int a1), none], [.ref a0, .ref ahead4])) rfl ?_
    obtain ⟨now6, e7, H⟩ := am_bd H
    refine am_G.gR rfl e7 ?_
    obtain ⟨hh9, e8, H⟩ := am_bd H
    refine am_G.cl [.ref ahead4, .ref now6] [] (am_Cl.mono (by decide) (lX6_copyFrom e8)) rfl rfl rfl rfl (Nat.le_of_ble_eq_true rfl) ?_
    refine am_G.fr 2 (g := (23, [some (.ref a0), some (.int a1), some (.int ((1 : Int32)))], [])) rfl ?_
    obtain ⟨o30, E29, H⟩ := am_bd H
    have hL := lX9_next_L23 (sc := sc) _ _ _ _ _ _ E29
    clear E29
    rcases o30 with hh28 | y31
    · dsimp only at H
      refine am_G.sq hL ?_
      refine am_G.fr 1 (g := (71, [none, none, none], [.int ((-1 : Int32))])) rfl ?_
      obtain ⟨rfl, rfl⟩ := am_inj2 H
      exact am_G.nd ⟨rfl, rfl⟩
    · dsimp only at H
      obtain rfl := Option.some.inj H
      exact hL
  · rw [if_neg c3] at H
    refine am_G.br (tgt := 8) rfl rfl (if_neg c3) rfl ?_
    refine am_G.fr 1 (g := (9, [some (.ref a0), some (.int a1), none], [.int ((-1 : Int32))])) rfl ?_
    obtain ⟨rfl, rfl⟩ := am_inj2 H
    exact am_G.nd ⟨rfl, rfl⟩
def fX9_gone_L23 : Nat → Nat → Int32 → Int32 → am_H → Option ((am_H) ⊕ (Int32 × am_H))
  | 0, _, _, _, _ => none
  | n + 1, v0, v1, v2, h =>
    if ((99 : Int32)) < v2 then
      some (.inl h)
    else
      (am_gR h v0 8 2).bind fun ahead11 =>
      (am_gR h ahead11 5 2).bind fun says13 =>
      (am_aI h 0 says13 v1).bind fun x15 =>
      if ¬ x15 = 0 then
        (am_gR h v0 8 2).bind fun ahead18 =>
        (am_gR h v0 8 9).bind fun told20 =>
        (fX6_passDate ahead18 told20 h).bind fun hh23 =>
        fX9_gone_L23 n v0 v1 (v2 + (1 : Int32)) hh23
      else
        some (.inr (v2, h))
def fX9_gone (a0 : Nat) (a1 : Int32) (h : am_H) : Option (Int32 × am_H) :=
  (am_isO h a0 8).bind fun _ =>
  (fX9_isDay a0 a1 h).bind fun x2 =>
  if ¬ x2 = 0 then
    (am_gR h a0 8 2).bind fun ahead4 =>
    (am_gR h a0 8 1).bind fun now6 =>
    (fX6_copyFrom ahead4 now6 h).bind fun hh9 =>
    (fX9_gone_L23 4000 a0 a1 ((0 : Int32)) hh9).bind fun o26 => match o26 with
      | .inl hh24 =>
        some ((-1 : Int32), hh24)
      | .inr y27 => some y27
  else
    some ((-1 : Int32), h)
set_option maxHeartbeats 4000000 in
set_option maxRecDepth 100000 in
theorem lX9_gone_L23 {sc : Nat × (Nat → Int32)} : ∀ (n : Nat) (v0 : Nat) (v1 : Int32) (v2 : Int32) (h : am_H) (o : (am_H) ⊕ (Int32 × am_H)), fX9_gone_L23 n v0 v1 v2 h = some o → am_G sc (am_Cl am_T am_N sc 4) (am_at kX9_gone) (fun t => match o with
    | .inl h1 => t = ((60, [none, none, none], []), h1)
    | .inr y => t.2 = y.2 ∧ am_ret 1 (am_at kX9_gone) t.1 = some (some (.int y.1))) ((23, [some (.ref v0), some (.int v1), some (.int v2)], []), h) := by
  intro n
  induction n with
  | zero => intro _ _ _ _ _ H; cases H
  | succ n ih =>
    intro v0 v1 v2 h o H
    rw [fX9_gone_L23] at H
    refine am_G.fr 2 (g := (26, [some (.ref v0), some (.int v1), some (.int v2)], [.int ((99 : Int32)), .int v2])) rfl ?_
    by_cases c10 : ((99 : Int32)) < v2
    · rw [if_pos c10] at H
      refine am_G.br (tgt := 60) rfl rfl (if_pos c10) rfl ?_
      obtain rfl := Option.some.inj H
      refine am_G.fg [none, none, none] (by simp only [am_sub, and_self]) ?_
      exact am_G.nd rfl
    · rw [if_neg c10] at H
      refine am_G.br (tgt := 29) rfl rfl (if_neg c10) rfl ?_
      refine am_G.fr 1 (g := (30, [some (.ref v0), some (.int v1), some (.int v2)], [.ref v0])) rfl ?_
      obtain ⟨ahead11, e12, H⟩ := am_bd H
      refine am_G.gR rfl e12 ?_
      obtain ⟨says13, e14, H⟩ := am_bd H
      refine am_G.gR rfl e14 ?_
      refine am_G.fr 1 (g := (37, [some (.ref v0), some (.int v1), some (.int v2)], [.int v1, .ref says13])) rfl ?_
      obtain ⟨x15, e16, H⟩ := am_bd H
      refine am_G.aI rfl e16 ?_
      by_cases c17 : ¬ x15 = 0
      · rw [if_pos c17] at H
        refine am_G.br (tgt := 43) rfl rfl (if_pos c17) rfl ?_
        refine am_G.fr 1 (g := (44, [some (.ref v0), some (.int v1), some (.int v2)], [.ref v0])) rfl ?_
        obtain ⟨ahead18, e19, H⟩ := am_bd H
        refine am_G.gR rfl e19 ?_
        refine am_G.fr 1 (g := (48, [some (.ref v0), some (.int v1), some (.int v2)], [.ref v0, .ref ahead18])) rfl ?_
        obtain ⟨told20, e21, H⟩ := am_bd H
        refine am_G.gR rfl e21 ?_
        obtain ⟨hh23, e22, H⟩ := am_bd H
        refine am_G.cl [.ref ahead18, .ref told20] [] (am_Cl.mono (by decide) (lX6_passDate e22)) rfl rfl rfl rfl (Nat.le_of_ble_eq_true rfl) ?_
        refine am_G.fr 2 (g := (23, [some (.ref v0), some (.int v1), some (.int (v2 + (1 : Int32)))], [])) rfl ?_
        exact ih _ _ _ _ _ H
      · rw [if_neg c17] at H
        refine am_G.br (tgt := 41) rfl rfl (if_neg c17) rfl ?_
        refine am_G.fr 1 (g := (42, [some (.ref v0), some (.int v1), some (.int v2)], [.int v2])) rfl ?_
        obtain rfl := Option.some.inj H
        exact am_G.nd ⟨rfl, rfl⟩
set_option maxHeartbeats 4000000 in
set_option maxRecDepth 100000 in
theorem lX9_gone {sc : Nat × (Nat → Int32)} {a0 : Nat} {a1 : Int32} {h : am_H} {r : Int32} {h1 : am_H} (H : fX9_gone a0 a1 h = some (r, h1)) : am_Cl am_T am_N sc 5 93 [.ref a0, .int a1] h (some (.int r)) h1 := by
  unfold fX9_gone at H
  obtain ⟨_, hO, H⟩ := am_bd H
  obtain ⟨fs0, hO⟩ := am_isO_ok hO
  refine am_mk (q := qX9_gone) rfl (fun _ => ⟨_, _, _, _, _, rfl, hO, rfl, rfl⟩) (fun z => absurd z (by decide)) (Nat.le_of_ble_eq_true rfl) rfl ?_
  show am_G sc (am_Cl am_T am_N sc 4) (am_at kX9_gone) (fun t => t.2 = h1 ∧ am_ret 1 (am_at kX9_gone) t.1 = some (some (.int r))) ((0, [some (.ref a0), some (.int a1), none], []), h)
  refine am_G.fr 2 (g := (2, [some (.ref a0), some (.int a1), none], [.int a1, .ref a0])) rfl ?_
  obtain ⟨x2, e1, H⟩ := am_bd H
  refine am_G.cl [.ref a0, .int a1] [] (am_Cl.mono (by decide) (lX9_isDay e1)) rfl rfl rfl rfl (Nat.le_of_ble_eq_true rfl) ?_
  by_cases c3 : ¬ x2 = 0
  · rw [if_pos c3] at H
    refine am_G.br (tgt := 10) rfl rfl (if_pos c3) rfl ?_
    refine am_G.fr 1 (g := (11, [some (.ref a0), some (.int a1), none], [.ref a0])) rfl ?_
    obtain ⟨ahead4, e5, H⟩ := am_bd H
    refine am_G.gR rfl e5 ?_
    refine am_G.fr 1 (g := (15, [some (.ref a0), some (.int a1), none], [.ref a0, .ref ahead4])) rfl ?_
    obtain ⟨now6, e7, H⟩ := am_bd H
    refine am_G.gR rfl e7 ?_
    obtain ⟨hh9, e8, H⟩ := am_bd H
    refine am_G.cl [.ref ahead4, .ref now6] [] (am_Cl.mono (by decide) (lX6_copyFrom e8)) rfl rfl rfl rfl (Nat.le_of_ble_eq_true rfl) ?_
    refine am_G.fr 2 (g := (23, [some (.ref a0), some (.int a1), some (.int ((0 : Int32)))], [])) rfl ?_
    obtain ⟨o26, E25, H⟩ := am_bd H
    have hL := lX9_gone_L23 (sc := sc) _ _ _ _ _ _ E25
    clear E25
    rcases o26 with hh24 | y27
    · dsimp only at H
      refine am_G.sq hL ?_
      refine am_G.fr 1 (g := (61, [none, none, none], [.int ((-1 : Int32))])) rfl ?_
      obtain ⟨rfl, rfl⟩ := am_inj2 H
      exact am_G.nd ⟨rfl, rfl⟩
    · dsimp only at H
      obtain rfl := Option.some.inj H
      exact hL
  · rw [if_neg c3] at H
    refine am_G.br (tgt := 8) rfl rfl (if_neg c3) rfl ?_
    refine am_G.fr 1 (g := (9, [some (.ref a0), some (.int a1), none], [.int ((-1 : Int32))])) rfl ?_
    obtain ⟨rfl, rfl⟩ := am_inj2 H
    exact am_G.nd ⟨rfl, rfl⟩
def fX9_crowd_L17 : Nat → Nat → Int32 → Int32 → Int32 → am_H → Option (Int32 × am_H)
  | 0, _, _, _, _, _ => none
  | n + 1, v0, v1, v2, v3, h =>
    if ((60 : Int32)) < v3 then
      some (v1, h)
    else
      (am_gR h v0 8 2).bind fun ahead8 =>
      (am_gR h v0 8 9).bind fun told10 =>
      (fX6_somewhere ahead8 told10 h).bind fun x13 =>
      (fJ6_bitCount_0f7a4 x13 h).bind fun x15 =>
      am_b2 (
        if x15 ≤ v2 then
          some (v1, v2)
        else
          some (v3, x15)) fun jv16 jv17 =>
      (am_gR h v0 8 2).bind fun ahead19 =>
      (am_gR h v0 8 9).bind fun told21 =>
      (fX6_passDate ahead19 told21 h).bind fun hh24 =>
      fX9_crowd_L17 n v0 jv16 jv17 (v3 + (1 : Int32)) hh24
def fX9_crowd (a0 : Nat) (h : am_H) : Option (Int32 × am_H) :=
  (am_isO h a0 8).bind fun _ =>
  (am_gR h a0 8 2).bind fun ahead1 =>
  (am_gR h a0 8 1).bind fun now3 =>
  (fX6_copyFrom ahead1 now3 h).bind fun hh6 =>
  am_b2 (fX9_crowd_L17 4000 a0 ((0 : Int32)) ((-1 : Int32)) ((0 : Int32)) hh6) fun lw26 hh27 =>
  some (lw26, hh27)
set_option maxHeartbeats 4000000 in
set_option maxRecDepth 100000 in
theorem lX9_crowd_L17 {sc : Nat × (Nat → Int32)} : ∀ (n : Nat) (v0 : Nat) (v1 : Int32) (v2 : Int32) (v3 : Int32) (h : am_H) (w1 : Int32) (h1 : am_H), fX9_crowd_L17 n v0 v1 v2 v3 h = some (w1, h1) → am_G sc (am_Cl am_T am_N sc 4) (am_at kX9_crowd) (fun t => t = ((67, [none, some (.int w1), none, none, none], []), h1)) ((17, [some (.ref v0), some (.int v1), some (.int v2), some (.int v3), none], []), h) := by
  intro n
  induction n with
  | zero => intro _ _ _ _ _ _ _ H; cases H
  | succ n ih =>
    intro v0 v1 v2 v3 h w1 h1 H
    rw [fX9_crowd_L17] at H
    refine am_G.fr 2 (g := (20, [some (.ref v0), some (.int v1), some (.int v2), some (.int v3), none], [.int ((60 : Int32)), .int v3])) rfl ?_
    by_cases c7 : ((60 : Int32)) < v3
    · rw [if_pos c7] at H
      refine am_G.br (tgt := 67) rfl rfl (if_pos c7) rfl ?_
      obtain ⟨rfl, rfl⟩ := am_inj2 H
      refine am_G.fg [none, some (.int v1), none, none, none] (by simp only [am_sub, and_self]) ?_
      exact am_G.nd rfl
    · rw [if_neg c7] at H
      refine am_G.br (tgt := 23) rfl rfl (if_neg c7) rfl ?_
      refine am_G.fr 1 (g := (24, [some (.ref v0), some (.int v1), some (.int v2), some (.int v3), none], [.ref v0])) rfl ?_
      obtain ⟨ahead8, e9, H⟩ := am_bd H
      refine am_G.gR rfl e9 ?_
      refine am_G.fr 1 (g := (28, [some (.ref v0), some (.int v1), some (.int v2), some (.int v3), none], [.ref v0, .ref ahead8])) rfl ?_
      obtain ⟨told10, e11, H⟩ := am_bd H
      refine am_G.gR rfl e11 ?_
      obtain ⟨x13, e12, H⟩ := am_bd H
      refine am_G.cl [.ref ahead8, .ref told10] [] (am_Cl.mono (by decide) (lX6_somewhere e12)) rfl rfl rfl rfl (Nat.le_of_ble_eq_true rfl) ?_
      obtain ⟨x15, e14, H⟩ := am_bd H
      refine am_G.cl [.int x13] [] (am_Cl.mono (by decide) (lJ6_bitCount_0f7a4 e14)) rfl rfl rfl rfl (Nat.le_of_ble_eq_true rfl) ?_
      refine am_G.fr 3 (g := (42, [some (.ref v0), some (.int v1), some (.int v2), some (.int v3), some (.int x15)], [.int v2, .int x15])) rfl ?_
      obtain ⟨jv16, jv17, E25, H⟩ := am_bd2 H
      refine am_G.sq (t := ((50, [some (.ref v0), some (.int jv16), some (.int jv17), some (.int v3), none], []), h)) ?_ ?_
      · clear H
        have H := E25
        clear E25
        by_cases c18 : x15 ≤ v2
        · rw [if_pos c18] at H
          refine am_G.br (tgt := 50) rfl rfl (if_pos c18) rfl ?_
          obtain ⟨rfl, rfl⟩ := am_inj2 H
          refine am_G.fg [some (.ref v0), some (.int v1), some (.int v2), some (.int v3), none] (by simp only [am_sub, and_self]) ?_
          exact am_G.nd rfl
        · rw [if_neg c18] at H
          refine am_G.br (tgt := 45) rfl rfl (if_neg c18) rfl ?_
          refine am_G.fr 4 (g := (50, [some (.ref v0), some (.int v3), some (.int x15), some (.int v3), some (.int x15)], [])) rfl ?_
          obtain ⟨rfl, rfl⟩ := am_inj2 H
          refine am_G.fg [some (.ref v0), some (.int v3), some (.int x15), some (.int v3), none] (by simp only [am_sub, and_self]) ?_
          exact am_G.nd rfl
      · clear E25
        refine am_G.fr 1 (g := (51, [some (.ref v0), some (.int jv16), some (.int jv17), some (.int v3), none], [.ref v0])) rfl ?_
        obtain ⟨ahead19, e20, H⟩ := am_bd H
        refine am_G.gR rfl e20 ?_
        refine am_G.fr 1 (g := (55, [some (.ref v0), some (.int jv16), some (.int jv17), some (.int v3), none], [.ref v0, .ref ahead19])) rfl ?_
        obtain ⟨told21, e22, H⟩ := am_bd H
        refine am_G.gR rfl e22 ?_
        obtain ⟨hh24, e23, H⟩ := am_bd H
        refine am_G.cl [.ref ahead19, .ref told21] [] (am_Cl.mono (by decide) (lX6_passDate e23)) rfl rfl rfl rfl (Nat.le_of_ble_eq_true rfl) ?_
        refine am_G.fr 2 (g := (17, [some (.ref v0), some (.int jv16), some (.int jv17), some (.int (v3 + (1 : Int32))), none], [])) rfl ?_
        exact ih _ _ _ _ _ _ _ H
set_option maxHeartbeats 4000000 in
set_option maxRecDepth 100000 in
theorem lX9_crowd {sc : Nat × (Nat → Int32)} {a0 : Nat} {h : am_H} {r : Int32} {h1 : am_H} (H : fX9_crowd a0 h = some (r, h1)) : am_Cl am_T am_N sc 5 94 [.ref a0] h (some (.int r)) h1 := by
  unfold fX9_crowd at H
  obtain ⟨_, hO, H⟩ := am_bd H
  obtain ⟨fs0, hO⟩ := am_isO_ok hO
  refine am_mk (q := qX9_crowd) rfl (fun _ => ⟨_, _, _, _, _, rfl, hO, rfl, rfl⟩) (fun z => absurd z (by decide)) (Nat.le_of_ble_eq_true rfl) rfl ?_
  show am_G sc (am_Cl am_T am_N sc 4) (am_at kX9_crowd) (fun t => t.2 = h1 ∧ am_ret 1 (am_at kX9_crowd) t.1 = some (some (.int r))) ((0, [some (.ref a0), none, none, none, none], []), h)
  refine am_G.fr 5 (g := (5, [some (.ref a0), some (.int ((0 : Int32))), some (.int ((-1 : Int32))), none, none], [.ref a0])) rfl ?_
  obtain ⟨ahead1, e2, H⟩ := am_bd H
  refine am_G.gR rfl e2 ?_
  refine am_G.fr 1 (g := (9, [some (.ref a0), some (.int ((0 : Int32))), some (.int ((-1 : Int32))), none, none], [.ref a0, .ref ahead1])) rfl ?_
  obtain ⟨now3, e4, H⟩ := am_bd H
  refine am_G.gR rfl e4 ?_
  obtain ⟨hh6, e5, H⟩ := am_bd H
  refine am_G.cl [.ref ahead1, .ref now3] [] (am_Cl.mono (by decide) (lX6_copyFrom e5)) rfl rfl rfl rfl (Nat.le_of_ble_eq_true rfl) ?_
  refine am_G.fr 2 (g := (17, [some (.ref a0), some (.int ((0 : Int32))), some (.int ((-1 : Int32))), some (.int ((0 : Int32))), none], [])) rfl ?_
  obtain ⟨lw26, hh27, E28, H⟩ := am_bd2 H
  refine am_G.sq (lX9_crowd_L17 _ _ _ _ _ _ _ _ E28) ?_
  clear E28
  refine am_G.fr 1 (g := (68, [none, some (.int lw26), none, none, none], [.int lw26])) rfl ?_
  obtain ⟨rfl, rfl⟩ := am_inj2 H
  exact am_G.nd ⟨rfl, rfl⟩
def fJ6_numberOfTrailingZeros_0f7a4 (a0 : Int32) (h : am_H) : Option (Int32) :=
  if 0 < ((a0 ^^^ ((-1 : Int32))) &&& (a0 - ((1 : Int32)))) then
    am_b2 (
      if ((a0 ^^^ ((-1 : Int32))) &&& (a0 - ((1 : Int32)))) ≤ ((65536 : Int32)) then
        some ((a0 ^^^ ((-1 : Int32))) &&& (a0 - ((1 : Int32))), (1 : Int32))
      else
        some ((((a0 ^^^ ((-1 : Int32))) &&& (a0 - ((1 : Int32)))).toUInt32 >>> (((16 : Int32)).toUInt32 &&& Int32.toUInt32 31)).toInt32, ((1 : Int32)) + (16 : Int32))) fun jv2 jv3 =>
    am_b2 (
      if jv2 ≤ ((256 : Int32)) then
        some (jv2, jv3)
      else
        some ((jv2.toUInt32 >>> (((8 : Int32)).toUInt32 &&& Int32.toUInt32 31)).toInt32, jv3 + (8 : Int32))) fun jv5 jv6 =>
    am_b2 (
      if jv5 ≤ ((16 : Int32)) then
        some (jv5, jv6)
      else
        some ((jv5.toUInt32 >>> (((4 : Int32)).toUInt32 &&& Int32.toUInt32 31)).toInt32, jv6 + (4 : Int32))) fun jv8 jv9 =>
    am_b2 (
      if jv8 ≤ ((4 : Int32)) then
        some (jv8, jv9)
      else
        some ((jv8.toUInt32 >>> (((2 : Int32)).toUInt32 &&& Int32.toUInt32 31)).toInt32, jv9 + (2 : Int32))) fun jv11 jv12 =>
    some (jv12 + ((jv11.toUInt32 >>> (((1 : Int32)).toUInt32 &&& Int32.toUInt32 31)).toInt32))
  else
    some (((a0 ^^^ ((-1 : Int32))) &&& (a0 - ((1 : Int32)))) &&& ((32 : Int32)))
set_option maxHeartbeats 4000000 in
set_option maxRecDepth 100000 in
theorem lJ6_numberOfTrailingZeros_0f7a4 {sc : Nat × (Nat → Int32)} {a0 : Int32} {h : am_H} {r : Int32} (H : fJ6_numberOfTrailingZeros_0f7a4 a0 h = some r) : am_Cl am_T am_N sc 1 241 [.int a0] h (some (.int r)) h := by
  unfold fJ6_numberOfTrailingZeros_0f7a4 at H
  refine am_mk (q := qJ6_numberOfTrailingZeros_0f7a4) rfl (fun z => absurd z (by decide)) (fun z => absurd z (by decide)) (Nat.le_of_ble_eq_true rfl) rfl ?_
  show am_G sc (am_Cl am_T am_N sc 0) (am_at kJ6_numberOfTrailingZeros_0f7a4) (fun t => t.2 = h ∧ am_ret 1 (am_at kJ6_numberOfTrailingZeros_0f7a4) t.1 = some (some (.int r))) ((0, [some (.int a0), none], []), h)
  refine am_G.fr 9 (g := (9, [some (.int ((a0 ^^^ ((-1 : Int32))) &&& (a0 - ((1 : Int32))))), none], [.int ((a0 ^^^ ((-1 : Int32))) &&& (a0 - ((1 : Int32))))])) rfl ?_
  by_cases c1 : 0 < ((a0 ^^^ ((-1 : Int32))) &&& (a0 - ((1 : Int32))))
  · rw [if_pos c1] at H
    refine am_G.br (tgt := 17) rfl rfl (if_pos c1) rfl ?_
    refine am_G.fr 4 (g := (23, [some (.int ((a0 ^^^ ((-1 : Int32))) &&& (a0 - ((1 : Int32))))), some (.int ((1 : Int32)))], [.int ((65536 : Int32)), .int ((a0 ^^^ ((-1 : Int32))) &&& (a0 - ((1 : Int32))))])) rfl ?_
    obtain ⟨jv2, jv3, E17, H⟩ := am_bd2 H
    refine am_G.sq (t := ((34, [some (.int jv2), some (.int jv3)], []), h)) ?_ ?_
    · clear H
      have H := E17
      clear E17
      by_cases c4 : ((a0 ^^^ ((-1 : Int32))) &&& (a0 - ((1 : Int32)))) ≤ ((65536 : Int32))
      · rw [if_pos c4] at H
        refine am_G.br (tgt := 34) rfl rfl (if_pos c4) rfl ?_
        obtain ⟨rfl, rfl⟩ := am_inj2 H
        exact am_G.nd rfl
      · rw [if_neg c4] at H
        refine am_G.br (tgt := 26) rfl rfl (if_neg c4) rfl ?_
        refine am_G.fr 5 (g := (34, [some (.int ((((a0 ^^^ ((-1 : Int32))) &&& (a0 - ((1 : Int32)))).toUInt32 >>> (((16 : Int32)).toUInt32 &&& Int32.toUInt32 31)).toInt32)), some (.int (((1 : Int32)) + (16 : Int32)))], [])) rfl ?_
        obtain ⟨rfl, rfl⟩ := am_inj2 H
        exact am_G.nd rfl
    · clear E17
      refine am_G.fr 2 (g := (38, [some (.int jv2), some (.int jv3)], [.int ((256 : Int32)), .int jv2])) rfl ?_
      obtain ⟨jv5, jv6, E16, H⟩ := am_bd2 H
      refine am_G.sq (t := ((49, [some (.int jv5), some (.int jv6)], []), h)) ?_ ?_
      · clear H
        have H := E16
        clear E16
        by_cases c7 : jv2 ≤ ((256 : Int32))
        · rw [if_pos c7] at H
          refine am_G.br (tgt := 49) rfl rfl (if_pos c7) rfl ?_
          obtain ⟨rfl, rfl⟩ := am_inj2 H
          exact am_G.nd rfl
        · rw [if_neg c7] at H
          refine am_G.br (tgt := 41) rfl rfl (if_neg c7) rfl ?_
          refine am_G.fr 5 (g := (49, [some (.int ((jv2.toUInt32 >>> (((8 : Int32)).toUInt32 &&& Int32.toUInt32 31)).toInt32)), some (.int (jv3 + (8 : Int32)))], [])) rfl ?_
          obtain ⟨rfl, rfl⟩ := am_inj2 H
          exact am_G.nd rfl
      · clear E16
        refine am_G.fr 2 (g := (52, [some (.int jv5), some (.int jv6)], [.int ((16 : Int32)), .int jv5])) rfl ?_
        obtain ⟨jv8, jv9, E15, H⟩ := am_bd2 H
        refine am_G.sq (t := ((62, [some (.int jv8), some (.int jv9)], []), h)) ?_ ?_
        · clear H
          have H := E15
          clear E15
          by_cases c10 : jv5 ≤ ((16 : Int32))
          · rw [if_pos c10] at H
            refine am_G.br (tgt := 62) rfl rfl (if_pos c10) rfl ?_
            obtain ⟨rfl, rfl⟩ := am_inj2 H
            exact am_G.nd rfl
          · rw [if_neg c10] at H
            refine am_G.br (tgt := 55) rfl rfl (if_neg c10) rfl ?_
            refine am_G.fr 5 (g := (62, [some (.int ((jv5.toUInt32 >>> (((4 : Int32)).toUInt32 &&& Int32.toUInt32 31)).toInt32)), some (.int (jv6 + (4 : Int32)))], [])) rfl ?_
            obtain ⟨rfl, rfl⟩ := am_inj2 H
            exact am_G.nd rfl
        · clear E15
          refine am_G.fr 2 (g := (64, [some (.int jv8), some (.int jv9)], [.int ((4 : Int32)), .int jv8])) rfl ?_
          obtain ⟨jv11, jv12, E14, H⟩ := am_bd2 H
          refine am_G.sq (t := ((74, [some (.int jv11), some (.int jv12)], []), h)) ?_ ?_
          · clear H
            have H := E14
            clear E14
            by_cases c13 : jv8 ≤ ((4 : Int32))
            · rw [if_pos c13] at H
              refine am_G.br (tgt := 74) rfl rfl (if_pos c13) rfl ?_
              obtain ⟨rfl, rfl⟩ := am_inj2 H
              exact am_G.nd rfl
            · rw [if_neg c13] at H
              refine am_G.br (tgt := 67) rfl rfl (if_neg c13) rfl ?_
              refine am_G.fr 5 (g := (74, [some (.int ((jv8.toUInt32 >>> (((2 : Int32)).toUInt32 &&& Int32.toUInt32 31)).toInt32)), some (.int (jv9 + (2 : Int32)))], [])) rfl ?_
              obtain ⟨rfl, rfl⟩ := am_inj2 H
              exact am_G.nd rfl
          · clear E14
            refine am_G.fr 5 (g := (79, [some (.int jv11), some (.int jv12)], [.int (jv12 + ((jv11.toUInt32 >>> (((1 : Int32)).toUInt32 &&& Int32.toUInt32 31)).toInt32))])) rfl ?_
            obtain rfl := Option.some.inj H
            exact am_G.nd ⟨rfl, rfl⟩
  · rw [if_neg c1] at H
    refine am_G.br (tgt := 12) rfl rfl (if_neg c1) rfl ?_
    refine am_G.fr 3 (g := (16, [some (.int ((a0 ^^^ ((-1 : Int32))) &&& (a0 - ((1 : Int32))))), none], [.int (((a0 ^^^ ((-1 : Int32))) &&& (a0 - ((1 : Int32)))) &&& ((32 : Int32)))])) rfl ?_
    obtain rfl := Option.some.inj H
    exact am_G.nd ⟨rfl, rfl⟩
def fX9_refused_L24 : Nat → Nat → Int32 → Int32 → am_H → Option ((am_H) ⊕ (Int32 × am_H))
  | 0, _, _, _, _ => none
  | n + 1, v0, v1, v2, h =>
    if ((60 : Int32)) < v2 then
      some (.inl h)
    else
      (am_gR h v0 8 2).bind fun ahead11 =>
      (am_gR h v0 8 9).bind fun told13 =>
      (fX6_passDate ahead11 told13 h).bind fun hh16 =>
      (am_gR hh16 v0 8 2).bind fun ahead17 =>
      (am_gI hh16 ahead17 5 10).bind fun off19 =>
      if off19 = 0 then
        fX9_refused_L24 n v0 v1 (v2 + (1 : Int32)) hh16
      else
        Option.bind (
          if ¬ v1 = 0 then
            (am_gR hh16 v0 8 2).bind fun ahead24 =>
            (am_gI hh16 ahead24 5 10).bind fun off26 =>
            (fJ6_numberOfTrailingZeros_0f7a4 off26 hh16).bind fun x29 =>
            some x29
          else
            some v2) fun js22 =>
        some (.inr (js22, hh16))
def fX9_refused (a0 : Nat) (a1 : Int32) (h : am_H) : Option (Int32 × am_H) :=
  (am_isO h a0 8).bind fun _ =>
  (fX9_within a1 ((0 : Int32)) ((1 : Int32)) h).bind fun x2 =>
  if ¬ x2 = 0 then
    (am_gR h a0 8 2).bind fun ahead4 =>
    (am_gR h a0 8 1).bind fun now6 =>
    (fX6_copyFrom ahead4 now6 h).bind fun hh9 =>
    (fX9_refused_L24 4000 a0 a1 ((1 : Int32)) hh9).bind fun o33 => match o33 with
      | .inl hh31 =>
        some ((-1 : Int32), hh31)
      | .inr y34 => some y34
  else
    some ((-1 : Int32), h)
set_option maxHeartbeats 4000000 in
set_option maxRecDepth 100000 in
theorem lX9_refused_L24 {sc : Nat × (Nat → Int32)} : ∀ (n : Nat) (v0 : Nat) (v1 : Int32) (v2 : Int32) (h : am_H) (o : (am_H) ⊕ (Int32 × am_H)), fX9_refused_L24 n v0 v1 v2 h = some o → am_G sc (am_Cl am_T am_N sc 4) (am_at kX9_refused) (fun t => match o with
    | .inl h1 => t = ((76, [none, none, none], []), h1)
    | .inr y => t.2 = y.2 ∧ am_ret 1 (am_at kX9_refused) t.1 = some (some (.int y.1))) ((24, [some (.ref v0), some (.int v1), some (.int v2)], []), h) := by
  intro n
  induction n with
  | zero => intro _ _ _ _ _ H; cases H
  | succ n ih =>
    intro v0 v1 v2 h o H
    rw [fX9_refused_L24] at H
    refine am_G.fr 2 (g := (27, [some (.ref v0), some (.int v1), some (.int v2)], [.int ((60 : Int32)), .int v2])) rfl ?_
    by_cases c10 : ((60 : Int32)) < v2
    · rw [if_pos c10] at H
      refine am_G.br (tgt := 76) rfl rfl (if_pos c10) rfl ?_
      obtain rfl := Option.some.inj H
      refine am_G.fg [none, none, none] (by simp only [am_sub, and_self]) ?_
      exact am_G.nd rfl
    · rw [if_neg c10] at H
      refine am_G.br (tgt := 30) rfl rfl (if_neg c10) rfl ?_
      refine am_G.fr 1 (g := (31, [some (.ref v0), some (.int v1), some (.int v2)], [.ref v0])) rfl ?_
      obtain ⟨ahead11, e12, H⟩ := am_bd H
      refine am_G.gR rfl e12 ?_
      refine am_G.fr 1 (g := (35, [some (.ref v0), some (.int v1), some (.int v2)], [.ref v0, .ref ahead11])) rfl ?_
      obtain ⟨told13, e14, H⟩ := am_bd H
      refine am_G.gR rfl e14 ?_
      obtain ⟨hh16, e15, H⟩ := am_bd H
      refine am_G.cl [.ref ahead11, .ref told13] [] (am_Cl.mono (by decide) (lX6_passDate e15)) rfl rfl rfl rfl (Nat.le_of_ble_eq_true rfl) ?_
      refine am_G.fr 1 (g := (42, [some (.ref v0), some (.int v1), some (.int v2)], [.ref v0])) rfl ?_
      obtain ⟨ahead17, e18, H⟩ := am_bd H
      refine am_G.gR rfl e18 ?_
      obtain ⟨off19, e20, H⟩ := am_bd H
      refine am_G.gI rfl e20 ?_
      by_cases c21 : off19 = 0
      · rw [if_pos c21] at H
        refine am_G.br (tgt := 70) rfl rfl (if_pos c21) rfl ?_
        refine am_G.fr 2 (g := (24, [some (.ref v0), some (.int v1), some (.int (v2 + (1 : Int32)))], [])) rfl ?_
        exact ih _ _ _ _ _ H
      · rw [if_neg c21] at H
        refine am_G.br (tgt := 51) rfl rfl (if_neg c21) rfl ?_
        refine am_G.fr 1 (g := (52, [some (.ref v0), some (.int v1), some (.int v2)], [.int v1])) rfl ?_
        obtain ⟨js22, E30, H⟩ := am_bd H
        refine am_G.sq (t := ((69, [none, none, none], [.int js22]), hh16)) ?_ ?_
        · clear H
          have H := E30
          clear E30
          by_cases c23 : ¬ v1 = 0
          · rw [if_pos c23] at H
            refine am_G.br (tgt := 59) rfl rfl (if_pos c23) rfl ?_
            refine am_G.fr 1 (g := (60, [some (.ref v0), some (.int v1), some (.int v2)], [.ref v0])) rfl ?_
            obtain ⟨ahead24, e25, H⟩ := am_bd H
            refine am_G.gR rfl e25 ?_
            obtain ⟨off26, e27, H⟩ := am_bd H
            refine am_G.gI rfl e27 ?_
            obtain ⟨x29, e28, H⟩ := am_bd H
            refine am_G.cl [.int off26] [] (am_Cl.mono (by decide) (lJ6_numberOfTrailingZeros_0f7a4 e28)) rfl rfl rfl rfl (Nat.le_of_ble_eq_true rfl) ?_
            obtain rfl := Option.some.inj H
            refine am_G.fg [none, none, none] (by simp only [am_sub, and_self]) ?_
            exact am_G.nd rfl
          · rw [if_neg c23] at H
            refine am_G.br (tgt := 55) rfl rfl (if_neg c23) rfl ?_
            refine am_G.fr 2 (g := (69, [some (.ref v0), some (.int v1), some (.int v2)], [.int v2])) rfl ?_
            obtain rfl := Option.some.inj H
            refine am_G.fg [none, none, none] (by simp only [am_sub, and_self]) ?_
            exact am_G.nd rfl
        · clear E30
          obtain rfl := Option.some.inj H
          exact am_G.nd ⟨rfl, rfl⟩
set_option maxHeartbeats 4000000 in
set_option maxRecDepth 100000 in
theorem lX9_refused {sc : Nat × (Nat → Int32)} {a0 : Nat} {a1 : Int32} {h : am_H} {r : Int32} {h1 : am_H} (H : fX9_refused a0 a1 h = some (r, h1)) : am_Cl am_T am_N sc 5 95 [.ref a0, .int a1] h (some (.int r)) h1 := by
  unfold fX9_refused at H
  obtain ⟨_, hO, H⟩ := am_bd H
  obtain ⟨fs0, hO⟩ := am_isO_ok hO
  refine am_mk (q := qX9_refused) rfl (fun _ => ⟨_, _, _, _, _, rfl, hO, rfl, rfl⟩) (fun z => absurd z (by decide)) (Nat.le_of_ble_eq_true rfl) rfl ?_
  show am_G sc (am_Cl am_T am_N sc 4) (am_at kX9_refused) (fun t => t.2 = h1 ∧ am_ret 1 (am_at kX9_refused) t.1 = some (some (.int r))) ((0, [some (.ref a0), some (.int a1), none], []), h)
  refine am_G.fr 3 (g := (3, [some (.ref a0), some (.int a1), none], [.int ((1 : Int32)), .int ((0 : Int32)), .int a1])) rfl ?_
  obtain ⟨x2, e1, H⟩ := am_bd H
  refine am_G.cl [.int a1, .int ((0 : Int32)), .int ((1 : Int32))] [] (am_Cl.mono (by decide) (lX9_within e1)) rfl rfl rfl rfl (Nat.le_of_ble_eq_true rfl) ?_
  by_cases c3 : ¬ x2 = 0
  · rw [if_pos c3] at H
    refine am_G.br (tgt := 11) rfl rfl (if_pos c3) rfl ?_
    refine am_G.fr 1 (g := (12, [some (.ref a0), some (.int a1), none], [.ref a0])) rfl ?_
    obtain ⟨ahead4, e5, H⟩ := am_bd H
    refine am_G.gR rfl e5 ?_
    refine am_G.fr 1 (g := (16, [some (.ref a0), some (.int a1), none], [.ref a0, .ref ahead4])) rfl ?_
    obtain ⟨now6, e7, H⟩ := am_bd H
    refine am_G.gR rfl e7 ?_
    obtain ⟨hh9, e8, H⟩ := am_bd H
    refine am_G.cl [.ref ahead4, .ref now6] [] (am_Cl.mono (by decide) (lX6_copyFrom e8)) rfl rfl rfl rfl (Nat.le_of_ble_eq_true rfl) ?_
    refine am_G.fr 2 (g := (24, [some (.ref a0), some (.int a1), some (.int ((1 : Int32)))], [])) rfl ?_
    obtain ⟨o33, E32, H⟩ := am_bd H
    have hL := lX9_refused_L24 (sc := sc) _ _ _ _ _ _ E32
    clear E32
    rcases o33 with hh31 | y34
    · dsimp only at H
      refine am_G.sq hL ?_
      refine am_G.fr 1 (g := (77, [none, none, none], [.int ((-1 : Int32))])) rfl ?_
      obtain ⟨rfl, rfl⟩ := am_inj2 H
      exact am_G.nd ⟨rfl, rfl⟩
    · dsimp only at H
      obtain rfl := Option.some.inj H
      exact hL
  · rw [if_neg c3] at H
    refine am_G.br (tgt := 9) rfl rfl (if_neg c3) rfl ?_
    refine am_G.fr 1 (g := (10, [some (.ref a0), some (.int a1), none], [.int ((-1 : Int32))])) rfl ?_
    obtain ⟨rfl, rfl⟩ := am_inj2 H
    exact am_G.nd ⟨rfl, rfl⟩
def fX9_meets_L36 : Nat → Nat → Int32 → Int32 → Int32 → am_H → Option ((am_H) ⊕ (Int32 × am_H))
  | 0, _, _, _, _, _ => none
  | n + 1, v0, v1, v2, v3, h =>
    if ((60 : Int32)) < v3 then
      some (.inl h)
    else
      (am_gR h v0 8 2).bind fun ahead15 =>
      (am_gR h ahead15 5 3).bind fun at17 =>
      (am_aI h 0 at17 v1).bind fun x19 =>
      if x19 = ((-1 : Int32)) then
        (am_gR h v0 8 2).bind fun ahead22 =>
        (am_gR h v0 8 9).bind fun told24 =>
        (fX6_passDate ahead22 told24 h).bind fun hh27 =>
        fX9_meets_L36 n v0 v1 v2 (v3 + (1 : Int32)) hh27
      else
        (am_gR h v0 8 2).bind fun ahead28 =>
        (am_gR h ahead28 5 3).bind fun at30 =>
        (am_aI h 0 at30 v1).bind fun x32 =>
        (am_gR h v0 8 2).bind fun ahead34 =>
        (am_gR h ahead34 5 3).bind fun at36 =>
        (am_aI h 0 at36 v2).bind fun x38 =>
        if ¬ x32 = x38 then
          (am_gR h v0 8 2).bind fun ahead41 =>
          (am_gR h v0 8 9).bind fun told43 =>
          (fX6_passDate ahead41 told43 h).bind fun hh46 =>
          fX9_meets_L36 n v0 v1 v2 (v3 + (1 : Int32)) hh46
        else
          some (.inr (v3, h))
def fX9_meets (a0 : Nat) (a1 : Int32) (a2 : Int32) (h : am_H) : Option (Int32 × am_H) :=
  (am_isO h a0 8).bind fun _ =>
  (fX9_isDay a0 a1 h).bind fun x2 =>
  if x2 = 0 then
    some ((-1 : Int32), h)
  else
    (fX9_isDay a0 a2 h).bind fun x5 =>
    if x5 = 0 then
      some ((-1 : Int32), h)
    else
      if ¬ a1 = a2 then
        (am_gR h a0 8 2).bind fun ahead8 =>
        (am_gR h a0 8 1).bind fun now10 =>
        (fX6_copyFrom ahead8 now10 h).bind fun hh13 =>
        (fX9_meets_L36 4000 a0 a1 a2 ((0 : Int32)) hh13).bind fun o49 => match o49 with
          | .inl hh47 =>
            some ((-1 : Int32), hh47)
          | .inr y50 => some y50
      else
        some ((-1 : Int32), h)
set_option maxHeartbeats 4000000 in
set_option maxRecDepth 100000 in
theorem lX9_meets_L36 {sc : Nat × (Nat → Int32)} : ∀ (n : Nat) (v0 : Nat) (v1 : Int32) (v2 : Int32) (v3 : Int32) (h : am_H) (o : (am_H) ⊕ (Int32 × am_H)), fX9_meets_L36 n v0 v1 v2 v3 h = some o → am_G sc (am_Cl am_T am_N sc 4) (am_at kX9_meets) (fun t => match o with
    | .inl h1 => t = ((95, [none, none, none, none], []), h1)
    | .inr y => t.2 = y.2 ∧ am_ret 1 (am_at kX9_meets) t.1 = some (some (.int y.1))) ((36, [some (.ref v0), some (.int v1), some (.int v2), some (.int v3)], []), h) := by
  intro n
  induction n with
  | zero => intro _ _ _ _ _ _ H; cases H
  | succ n ih =>
    intro v0 v1 v2 v3 h o H
    rw [fX9_meets_L36] at H
    refine am_G.fr 2 (g := (39, [some (.ref v0), some (.int v1), some (.int v2), some (.int v3)], [.int ((60 : Int32)), .int v3])) rfl ?_
    by_cases c14 : ((60 : Int32)) < v3
    · rw [if_pos c14] at H
      refine am_G.br (tgt := 95) rfl rfl (if_pos c14) rfl ?_
      obtain rfl := Option.some.inj H
      refine am_G.fg [none, none, none, none] (by simp only [am_sub, and_self]) ?_
      exact am_G.nd rfl
    · rw [if_neg c14] at H
      refine am_G.br (tgt := 42) rfl rfl (if_neg c14) rfl ?_
      refine am_G.fr 1 (g := (43, [some (.ref v0), some (.int v1), some (.int v2), some (.int v3)], [.ref v0])) rfl ?_
      obtain ⟨ahead15, e16, H⟩ := am_bd H
      refine am_G.gR rfl e16 ?_
      obtain ⟨at17, e18, H⟩ := am_bd H
      refine am_G.gR rfl e18 ?_
      refine am_G.fr 1 (g := (50, [some (.ref v0), some (.int v1), some (.int v2), some (.int v3)], [.int v1, .ref at17])) rfl ?_
      obtain ⟨x19, e20, H⟩ := am_bd H
      refine am_G.aI rfl e20 ?_
      refine am_G.fr 1 (g := (52, [some (.ref v0), some (.int v1), some (.int v2), some (.int v3)], [.int ((-1 : Int32)), .int x19])) rfl ?_
      by_cases c21 : x19 = ((-1 : Int32))
      · rw [if_pos c21] at H
        refine am_G.br (tgt := 78) rfl rfl (if_pos c21) rfl ?_
        refine am_G.fr 1 (g := (79, [some (.ref v0), some (.int v1), some (.int v2), some (.int v3)], [.ref v0])) rfl ?_
        obtain ⟨ahead22, e23, H⟩ := am_bd H
        refine am_G.gR rfl e23 ?_
        refine am_G.fr 1 (g := (83, [some (.ref v0), some (.int v1), some (.int v2), some (.int v3)], [.ref v0, .ref ahead22])) rfl ?_
        obtain ⟨told24, e25, H⟩ := am_bd H
        refine am_G.gR rfl e25 ?_
        obtain ⟨hh27, e26, H⟩ := am_bd H
        refine am_G.cl [.ref ahead22, .ref told24] [] (am_Cl.mono (by decide) (lX6_passDate e26)) rfl rfl rfl rfl (Nat.le_of_ble_eq_true rfl) ?_
        refine am_G.fr 2 (g := (36, [some (.ref v0), some (.int v1), some (.int v2), some (.int (v3 + (1 : Int32)))], [])) rfl ?_
        exact ih _ _ _ _ _ _ H
      · rw [if_neg c21] at H
        refine am_G.br (tgt := 55) rfl rfl (if_neg c21) rfl ?_
        refine am_G.fr 1 (g := (56, [some (.ref v0), some (.int v1), some (.int v2), some (.int v3)], [.ref v0])) rfl ?_
        obtain ⟨ahead28, e29, H⟩ := am_bd H
        refine am_G.gR rfl e29 ?_
        obtain ⟨at30, e31, H⟩ := am_bd H
        refine am_G.gR rfl e31 ?_
        refine am_G.fr 1 (g := (63, [some (.ref v0), some (.int v1), some (.int v2), some (.int v3)], [.int v1, .ref at30])) rfl ?_
        obtain ⟨x32, e33, H⟩ := am_bd H
        refine am_G.aI rfl e33 ?_
        refine am_G.fr 1 (g := (65, [some (.ref v0), some (.int v1), some (.int v2), some (.int v3)], [.ref v0, .int x32])) rfl ?_
        obtain ⟨ahead34, e35, H⟩ := am_bd H
        refine am_G.gR rfl e35 ?_
        obtain ⟨at36, e37, H⟩ := am_bd H
        refine am_G.gR rfl e37 ?_
        refine am_G.fr 1 (g := (72, [some (.ref v0), some (.int v1), some (.int v2), some (.int v3)], [.int v2, .ref at36, .int x32])) rfl ?_
        obtain ⟨x38, e39, H⟩ := am_bd H
        refine am_G.aI rfl e39 ?_
        by_cases c40 : ¬ x32 = x38
        · rw [if_pos c40] at H
          refine am_G.br (tgt := 78) rfl rfl (if_pos c40) rfl ?_
          refine am_G.fr 1 (g := (79, [some (.ref v0), some (.int v1), some (.int v2), some (.int v3)], [.ref v0])) rfl ?_
          obtain ⟨ahead41, e42, H⟩ := am_bd H
          refine am_G.gR rfl e42 ?_
          refine am_G.fr 1 (g := (83, [some (.ref v0), some (.int v1), some (.int v2), some (.int v3)], [.ref v0, .ref ahead41])) rfl ?_
          obtain ⟨told43, e44, H⟩ := am_bd H
          refine am_G.gR rfl e44 ?_
          obtain ⟨hh46, e45, H⟩ := am_bd H
          refine am_G.cl [.ref ahead41, .ref told43] [] (am_Cl.mono (by decide) (lX6_passDate e45)) rfl rfl rfl rfl (Nat.le_of_ble_eq_true rfl) ?_
          refine am_G.fr 2 (g := (36, [some (.ref v0), some (.int v1), some (.int v2), some (.int (v3 + (1 : Int32)))], [])) rfl ?_
          exact ih _ _ _ _ _ _ H
        · rw [if_neg c40] at H
          refine am_G.br (tgt := 76) rfl rfl (if_neg c40) rfl ?_
          refine am_G.fr 1 (g := (77, [some (.ref v0), some (.int v1), some (.int v2), some (.int v3)], [.int v3])) rfl ?_
          obtain rfl := Option.some.inj H
          exact am_G.nd ⟨rfl, rfl⟩
set_option maxHeartbeats 4000000 in
set_option maxRecDepth 100000 in
theorem lX9_meets {sc : Nat × (Nat → Int32)} {a0 : Nat} {a1 : Int32} {a2 : Int32} {h : am_H} {r : Int32} {h1 : am_H} (H : fX9_meets a0 a1 a2 h = some (r, h1)) : am_Cl am_T am_N sc 5 96 [.ref a0, .int a1, .int a2] h (some (.int r)) h1 := by
  unfold fX9_meets at H
  obtain ⟨_, hO, H⟩ := am_bd H
  obtain ⟨fs0, hO⟩ := am_isO_ok hO
  refine am_mk (q := qX9_meets) rfl (fun _ => ⟨_, _, _, _, _, rfl, hO, rfl, rfl⟩) (fun z => absurd z (by decide)) (Nat.le_of_ble_eq_true rfl) rfl ?_
  show am_G sc (am_Cl am_T am_N sc 4) (am_at kX9_meets) (fun t => t.2 = h1 ∧ am_ret 1 (am_at kX9_meets) t.1 = some (some (.int r))) ((0, [some (.ref a0), some (.int a1), some (.int a2), none], []), h)
  refine am_G.fr 2 (g := (2, [some (.ref a0), some (.int a1), some (.int a2), none], [.int a1, .ref a0])) rfl ?_
  obtain ⟨x2, e1, H⟩ := am_bd H
  refine am_G.cl [.ref a0, .int a1] [] (am_Cl.mono (by decide) (lX9_isDay e1)) rfl rfl rfl rfl (Nat.le_of_ble_eq_true rfl) ?_
  by_cases c3 : x2 = 0
  · rw [if_pos c3] at H
    refine am_G.br (tgt := 21) rfl rfl (if_pos c3) rfl ?_
    refine am_G.fr 1 (g := (22, [some (.ref a0), some (.int a1), some (.int a2), none], [.int ((-1 : Int32))])) rfl ?_
    obtain ⟨rfl, rfl⟩ := am_inj2 H
    exact am_G.nd ⟨rfl, rfl⟩
  · rw [if_neg c3] at H
    refine am_G.br (tgt := 8) rfl rfl (if_neg c3) rfl ?_
    refine am_G.fr 2 (g := (10, [some (.ref a0), some (.int a1), some (.int a2), none], [.int a2, .ref a0])) rfl ?_
    obtain ⟨x5, e4, H⟩ := am_bd H
    refine am_G.cl [.ref a0, .int a2] [] (am_Cl.mono (by decide) (lX9_isDay e4)) rfl rfl rfl rfl (Nat.le_of_ble_eq_true rfl) ?_
    by_cases c6 : x5 = 0
    · rw [if_pos c6] at H
      refine am_G.br (tgt := 21) rfl rfl (if_pos c6) rfl ?_
      refine am_G.fr 1 (g := (22, [some (.ref a0), some (.int a1), some (.int a2), none], [.int ((-1 : Int32))])) rfl ?_
      obtain ⟨rfl, rfl⟩ := am_inj2 H
      exact am_G.nd ⟨rfl, rfl⟩
    · rw [if_neg c6] at H
      refine am_G.br (tgt := 16) rfl rfl (if_neg c6) rfl ?_
      refine am_G.fr 2 (g := (18, [some (.ref a0), some (.int a1), some (.int a2), none], [.int a2, .int a1])) rfl ?_
      by_cases c7 : ¬ a1 = a2
      · rw [if_pos c7] at H
        refine am_G.br (tgt := 23) rfl rfl (if_pos c7) rfl ?_
        refine am_G.fr 1 (g := (24, [some (.ref a0), some (.int a1), some (.int a2), none], [.ref a0])) rfl ?_
        obtain ⟨ahead8, e9, H⟩ := am_bd H
        refine am_G.gR rfl e9 ?_
        refine am_G.fr 1 (g := (28, [some (.ref a0), some (.int a1), some (.int a2), none], [.ref a0, .ref ahead8])) rfl ?_
        obtain ⟨now10, e11, H⟩ := am_bd H
        refine am_G.gR rfl e11 ?_
        obtain ⟨hh13, e12, H⟩ := am_bd H
        refine am_G.cl [.ref ahead8, .ref now10] [] (am_Cl.mono (by decide) (lX6_copyFrom e12)) rfl rfl rfl rfl (Nat.le_of_ble_eq_true rfl) ?_
        refine am_G.fr 2 (g := (36, [some (.ref a0), some (.int a1), some (.int a2), some (.int ((0 : Int32)))], [])) rfl ?_
        obtain ⟨o49, E48, H⟩ := am_bd H
        have hL := lX9_meets_L36 (sc := sc) _ _ _ _ _ _ _ E48
        clear E48
        rcases o49 with hh47 | y50
        · dsimp only at H
          refine am_G.sq hL ?_
          refine am_G.fr 1 (g := (96, [none, none, none, none], [.int ((-1 : Int32))])) rfl ?_
          obtain ⟨rfl, rfl⟩ := am_inj2 H
          exact am_G.nd ⟨rfl, rfl⟩
        · dsimp only at H
          obtain rfl := Option.some.inj H
          exact hL
      · rw [if_neg c7] at H
        refine am_G.br (tgt := 21) rfl rfl (if_neg c7) rfl ?_
        refine am_G.fr 1 (g := (22, [some (.ref a0), some (.int a1), some (.int a2), none], [.int ((-1 : Int32))])) rfl ?_
        obtain ⟨rfl, rfl⟩ := am_inj2 H
        exact am_G.nd ⟨rfl, rfl⟩
def fX9_buildRow_L13 : Nat → Nat → Int32 → am_H → Option ((am_H) ⊕ (Int32 × am_H))
  | 0, _, _, _ => none
  | n + 1, v0, v1, h =>
    (am_gR h v0 8 9).bind fun told7 =>
    (am_gI h told7 7 11).bind fun houses9 =>
    if houses9 ≤ v1 then
      some (.inl h)
    else
      (am_gR h v0 8 2).bind fun ahead12 =>
      (am_gR h ahead12 5 0).bind fun beds14 =>
      (am_aI h 0 beds14 v1).bind fun x16 =>
      (am_gR h v0 8 6).bind fun row18 =>
      (am_aI h 0 row18 v1).bind fun x20 =>
      (am_sI h 0 beds14 v1 (x16 + x20)).bind fun hh22 =>
      (am_gR hh22 v0 8 2).bind fun ahead24 =>
      (am_gR hh22 ahead24 5 0).bind fun beds26 =>
      (am_aI hh22 0 beds26 v1).bind fun x28 =>
      if x28 ≤ ((9 : Int32)) then
        fX9_buildRow_L13 n v0 (v1 + (1 : Int32)) hh22
      else
        some (.inr ((0 : Int32), hh22))
def fX9_buildRow (a0 : Nat) (h : am_H) : Option (Int32 × am_H) :=
  (am_isO h a0 8).bind fun _ =>
  (am_gR h a0 8 2).bind fun ahead1 =>
  (am_gR h a0 8 1).bind fun now3 =>
  (fX6_copyFrom ahead1 now3 h).bind fun hh6 =>
  (fX9_buildRow_L13 4000 a0 ((0 : Int32)) hh6).bind fun o33 => match o33 with
    | .inl hh31 =>
      some ((1 : Int32), hh31)
    | .inr y34 => some y34
set_option maxHeartbeats 4000000 in
set_option maxRecDepth 100000 in
theorem lX9_buildRow_L13 {sc : Nat × (Nat → Int32)} : ∀ (n : Nat) (v0 : Nat) (v1 : Int32) (h : am_H) (o : (am_H) ⊕ (Int32 × am_H)), fX9_buildRow_L13 n v0 v1 h = some o → am_G sc (am_Cl am_T am_N sc 1) (am_at kX9_buildRow) (fun t => match o with
    | .inl h1 => t = ((64, [none, none], []), h1)
    | .inr y => t.2 = y.2 ∧ am_ret 2 (am_at kX9_buildRow) t.1 = some (some (.int y.1))) ((13, [some (.ref v0), some (.int v1)], []), h) := by
  intro n
  induction n with
  | zero => intro _ _ _ _ H; cases H
  | succ n ih =>
    intro v0 v1 h o H
    rw [fX9_buildRow_L13] at H
    refine am_G.fr 2 (g := (15, [some (.ref v0), some (.int v1)], [.ref v0, .int v1])) rfl ?_
    obtain ⟨told7, e8, H⟩ := am_bd H
    refine am_G.gR rfl e8 ?_
    obtain ⟨houses9, e10, H⟩ := am_bd H
    refine am_G.gI rfl e10 ?_
    by_cases c11 : houses9 ≤ v1
    · rw [if_pos c11] at H
      refine am_G.br (tgt := 64) rfl rfl (if_pos c11) rfl ?_
      obtain rfl := Option.some.inj H
      refine am_G.fg [none, none] (by simp only [am_sub, and_self]) ?_
      exact am_G.nd rfl
    · rw [if_neg c11] at H
      refine am_G.br (tgt := 24) rfl rfl (if_neg c11) rfl ?_
      refine am_G.fr 1 (g := (25, [some (.ref v0), some (.int v1)], [.ref v0])) rfl ?_
      obtain ⟨ahead12, e13, H⟩ := am_bd H
      refine am_G.gR rfl e13 ?_
      obtain ⟨beds14, e15, H⟩ := am_bd H
      refine am_G.gR rfl e15 ?_
      refine am_G.fr 2 (g := (33, [some (.ref v0), some (.int v1)], [.int v1, .ref beds14, .int v1, .ref beds14])) rfl ?_
      obtain ⟨x16, e17, H⟩ := am_bd H
      refine am_G.aI rfl e17 ?_
      refine am_G.fr 1 (g := (35, [some (.ref v0), some (.int v1)], [.ref v0, .int x16, .int v1, .ref beds14])) rfl ?_
      obtain ⟨row18, e19, H⟩ := am_bd H
      refine am_G.gR rfl e19 ?_
      refine am_G.fr 1 (g := (39, [some (.ref v0), some (.int v1)], [.int v1, .ref row18, .int x16, .int v1, .ref beds14])) rfl ?_
      obtain ⟨x20, e21, H⟩ := am_bd H
      refine am_G.aI rfl e21 ?_
      refine am_G.fr 1 (g := (41, [some (.ref v0), some (.int v1)], [.int (x16 + x20), .int v1, .ref beds14])) rfl ?_
      obtain ⟨hh22, e23, H⟩ := am_bd H
      refine am_G.sI rfl e23 ?_
      refine am_G.fr 1 (g := (43, [some (.ref v0), some (.int v1)], [.ref v0])) rfl ?_
      obtain ⟨ahead24, e25, H⟩ := am_bd H
      refine am_G.gR rfl e25 ?_
      obtain ⟨beds26, e27, H⟩ := am_bd H
      refine am_G.gR rfl e27 ?_
      refine am_G.fr 1 (g := (50, [some (.ref v0), some (.int v1)], [.int v1, .ref beds26])) rfl ?_
      obtain ⟨x28, e29, H⟩ := am_bd H
      refine am_G.aI rfl e29 ?_
      refine am_G.fr 1 (g := (53, [some (.ref v0), some (.int v1)], [.int ((9 : Int32)), .int x28])) rfl ?_
      by_cases c30 : x28 ≤ ((9 : Int32))
      · rw [if_pos c30] at H
        refine am_G.br (tgt := 58) rfl rfl (if_pos c30) rfl ?_
        refine am_G.fr 2 (g := (13, [some (.ref v0), some (.int (v1 + (1 : Int32)))], [])) rfl ?_
        exact ih _ _ _ _ H
      · rw [if_neg c30] at H
        refine am_G.br (tgt := 56) rfl rfl (if_neg c30) rfl ?_
        refine am_G.fr 1 (g := (57, [some (.ref v0), some (.int v1)], [.int ((0 : Int32))])) rfl ?_
        obtain rfl := Option.some.inj H
        exact am_G.nd ⟨rfl, am_ret2 rfl (if_pos (by decide))⟩
set_option maxHeartbeats 4000000 in
set_option maxRecDepth 100000 in
theorem lX9_buildRow {sc : Nat × (Nat → Int32)} {a0 : Nat} {h : am_H} {r : Int32} {h1 : am_H} (H : fX9_buildRow a0 h = some (r, h1)) : am_Cl am_T am_N sc 2 100 [.ref a0] h (some (.int r)) h1 := by
  unfold fX9_buildRow at H
  obtain ⟨_, hO, H⟩ := am_bd H
  obtain ⟨fs0, hO⟩ := am_isO_ok hO
  refine am_mk (q := qX9_buildRow) rfl (fun _ => ⟨_, _, _, _, _, rfl, hO, rfl, rfl⟩) (fun z => absurd z (by decide)) (Nat.le_of_ble_eq_true rfl) rfl ?_
  show am_G sc (am_Cl am_T am_N sc 1) (am_at kX9_buildRow) (fun t => t.2 = h1 ∧ am_ret 2 (am_at kX9_buildRow) t.1 = some (some (.int r))) ((0, [some (.ref a0), none], []), h)
  refine am_G.fr 1 (g := (1, [some (.ref a0), none], [.ref a0])) rfl ?_
  obtain ⟨ahead1, e2, H⟩ := am_bd H
  refine am_G.gR rfl e2 ?_
  refine am_G.fr 1 (g := (5, [some (.ref a0), none], [.ref a0, .ref ahead1])) rfl ?_
  obtain ⟨now3, e4, H⟩ := am_bd H
  refine am_G.gR rfl e4 ?_
  obtain ⟨hh6, e5, H⟩ := am_bd H
  refine am_G.cl [.ref ahead1, .ref now3] [] (am_Cl.mono (by decide) (lX6_copyFrom e5)) rfl rfl rfl rfl (Nat.le_of_ble_eq_true rfl) ?_
  refine am_G.fr 2 (g := (13, [some (.ref a0), some (.int ((0 : Int32)))], [])) rfl ?_
  obtain ⟨o33, E32, H⟩ := am_bd H
  have hL := lX9_buildRow_L13 (sc := sc) _ _ _ _ _ E32
  clear E32
  rcases o33 with hh31 | y34
  · dsimp only at H
    refine am_G.sq hL ?_
    refine am_G.fr 1 (g := (65, [none, none], [.int ((1 : Int32))])) rfl ?_
    obtain ⟨rfl, rfl⟩ := am_inj2 H
    exact am_G.nd ⟨rfl, am_ret2 rfl (if_pos (by decide))⟩
  · dsimp only at H
    obtain rfl := Option.some.inj H
    exact hL
def fX9_layRow_L15 : Nat → Nat → Int32 → Int32 → Int32 → am_H → Option (Int32 × am_H)
  | 0, _, _, _, _, _ => none
  | n + 1, v0, v2, v3, v4, h =>
    if v4 < 0 then
      some (v2, h)
    else
      (am_gR h v0 8 6).bind fun row6 =>
      (am_rm' v3 ((3 : Int32))).bind fun q8 =>
      (am_sI h 0 row6 v4 q8).bind fun hh10 =>
      (am_gR hh10 v0 8 6).bind fun row12 =>
      (am_aI hh10 0 row12 v4).bind fun x14 =>
      (am_dv v3 ((3 : Int32))).bind fun q16 =>
      fX9_layRow_L15 n v0 (v2 + x14) q16 (v4 + (-1 : Int32)) hh10
def fX9_layRow (a0 : Nat) (a1 : Int32) (h : am_H) : Option (Int32 × am_H) :=
  (am_isO h a0 8).bind fun _ =>
  (am_gR h a0 8 9).bind fun told1 =>
  (am_gI h told1 7 11).bind fun houses3 =>
  am_b2 (fX9_layRow_L15 4000 a0 ((0 : Int32)) a1 (houses3 - ((1 : Int32))) h) fun lw18 hh19 =>
  some (lw18, hh19)
set_option maxHeartbeats 4000000 in
set_option maxRecDepth 100000 in
theorem lX9_layRow_L15 {sc : Nat × (Nat → Int32)} : ∀ (n : Nat) (v0 : Nat) (v2 : Int32) (v3 : Int32) (v4 : Int32) (h : am_H) (w2 : Int32) (h1 : am_H), fX9_layRow_L15 n v0 v2 v3 v4 h = some (w2, h1) → am_G sc (am_Cl am_T am_N sc 0) (am_at kX9_layRow) (fun t => t = ((50, [none, none, some (.int w2), none, none], []), h1)) ((15, [some (.ref v0), none, some (.int v2), some (.int v3), some (.int v4)], []), h) := by
  intro n
  induction n with
  | zero => intro _ _ _ _ _ _ _ H; cases H
  | succ n ih =>
    intro v0 v2 v3 v4 h w2 h1 H
    rw [fX9_layRow_L15] at H
    refine am_G.fr 1 (g := (17, [some (.ref v0), none, some (.int v2), some (.int v3), some (.int v4)], [.int v4])) rfl ?_
    by_cases c5 : v4 < 0
    · rw [if_pos c5] at H
      refine am_G.br (tgt := 50) rfl rfl (if_pos c5) rfl ?_
      obtain ⟨rfl, rfl⟩ := am_inj2 H
      refine am_G.fg [none, none, some (.int v2), none, none] (by simp only [am_sub, and_self]) ?_
      exact am_G.nd rfl
    · rw [if_neg c5] at H
      refine am_G.br (tgt := 20) rfl rfl (if_neg c5) rfl ?_
      refine am_G.fr 1 (g := (21, [some (.ref v0), none, some (.int v2), some (.int v3), some (.int v4)], [.ref v0])) rfl ?_
      obtain ⟨row6, e7, H⟩ := am_bd H
      refine am_G.gR rfl e7 ?_
      refine am_G.fr 3 (g := (28, [some (.ref v0), none, some (.int v2), some (.int v3), some (.int v4)], [.int ((3 : Int32)), .int v3, .int v4, .ref row6])) rfl ?_
      obtain ⟨q8, e9, H⟩ := am_bd H
      refine am_G.rm rfl e9 ?_
      obtain ⟨hh10, e11, H⟩ := am_bd H
      refine am_G.sI rfl e11 ?_
      refine am_G.fr 2 (g := (32, [some (.ref v0), none, some (.int v2), some (.int v3), some (.int v4)], [.ref v0, .int v2])) rfl ?_
      obtain ⟨row12, e13, H⟩ := am_bd H
      refine am_G.gR rfl e13 ?_
      refine am_G.fr 1 (g := (37, [some (.ref v0), none, some (.int v2), some (.int v3), some (.int v4)], [.int v4, .ref row12, .int v2])) rfl ?_
      obtain ⟨x14, e15, H⟩ := am_bd H
      refine am_G.aI rfl e15 ?_
      refine am_G.fr 4 (g := (42, [some (.ref v0), none, some (.int (v2 + x14)), some (.int v3), some (.int v4)], [.int ((3 : Int32)), .int v3])) rfl ?_
      obtain ⟨q16, e17, H⟩ := am_bd H
      refine am_G.dv rfl e17 ?_
      refine am_G.fr 3 (g := (15, [some (.ref v0), none, some (.int (v2 + x14)), some (.int q16), some (.int (v4 + (-1 : Int32)))], [])) rfl ?_
      exact ih _ _ _ _ _ _ _ H
set_option maxHeartbeats 4000000 in
set_option maxRecDepth 100000 in
theorem lX9_layRow {sc : Nat × (Nat → Int32)} {a0 : Nat} {a1 : Int32} {h : am_H} {r : Int32} {h1 : am_H} (H : fX9_layRow a0 a1 h = some (r, h1)) : am_Cl am_T am_N sc 1 99 [.ref a0, .int a1] h (some (.int r)) h1 := by
  unfold fX9_layRow at H
  obtain ⟨_, hO, H⟩ := am_bd H
  obtain ⟨fs0, hO⟩ := am_isO_ok hO
  refine am_mk (q := qX9_layRow) rfl (fun _ => ⟨_, _, _, _, _, rfl, hO, rfl, rfl⟩) (fun z => absurd z (by decide)) (Nat.le_of_ble_eq_true rfl) rfl ?_
  show am_G sc (am_Cl am_T am_N sc 0) (am_at kX9_layRow) (fun t => t.2 = h1 ∧ am_ret 1 (am_at kX9_layRow) t.1 = some (some (.int r))) ((0, [some (.ref a0), some (.int a1), none, none, none], []), h)
  refine am_G.fr 5 (g := (5, [some (.ref a0), some (.int a1), some (.int ((0 : Int32))), some (.int a1), none], [.ref a0])) rfl ?_
  obtain ⟨told1, e2, H⟩ := am_bd H
  refine am_G.gR rfl e2 ?_
  obtain ⟨houses3, e4, H⟩ := am_bd H
  refine am_G.gI rfl e4 ?_
  refine am_G.fr 3 (g := (15, [some (.ref a0), some (.int a1), some (.int ((0 : Int32))), some (.int a1), some (.int (houses3 - ((1 : Int32))))], [])) rfl ?_
  obtain ⟨lw18, hh19, E20, H⟩ := am_bd2 H
  refine am_G.fg [some (.ref a0), none, some (.int ((0 : Int32))), some (.int a1), some (.int (houses3 - ((1 : Int32))))] (by simp only [am_sub, and_self]) ?_
  refine am_G.sq (lX9_layRow_L15 _ _ _ _ _ _ _ _ E20) ?_
  clear E20
  refine am_G.fr 1 (g := (51, [none, none, some (.int lw18), none, none], [.int lw18])) rfl ?_
  obtain ⟨rfl, rfl⟩ := am_inj2 H
  exact am_G.nd ⟨rfl, rfl⟩
def fX9_noneTurnedOff_L2 : Nat → Nat → Int32 → Int32 → am_H → Option ((am_H) ⊕ (Int32 × am_H))
  | 0, _, _, _, _ => none
  | n + 1, v0, v1, v2, h =>
    if v1 ≤ v2 then
      some (.inl h)
    else
      (am_gR h v0 8 2).bind fun ahead2 =>
      (am_gR h v0 8 9).bind fun told4 =>
      (fX6_passDate ahead2 told4 h).bind fun hh7 =>
      (am_gR hh7 v0 8 2).bind fun ahead8 =>
      (am_gI hh7 ahead8 5 10).bind fun off10 =>
      if off10 = 0 then
        fX9_noneTurnedOff_L2 n v0 v1 (v2 + (1 : Int32)) hh7
      else
        some (.inr ((0 : Int32), hh7))
def fX9_noneTurnedOff (a0 : Nat) (a1 : Int32) (h : am_H) : Option (Int32 × am_H) :=
  (am_isO h a0 8).bind fun _ =>
  (fX9_noneTurnedOff_L2 4000 a0 a1 ((0 : Int32)) h).bind fun o15 => match o15 with
    | .inl hh13 =>
      some ((1 : Int32), hh13)
    | .inr y16 => some y16
set_option maxHeartbeats 4000000 in
set_option maxRecDepth 100000 in
theorem lX9_noneTurnedOff_L2 {sc : Nat × (Nat → Int32)} : ∀ (n : Nat) (v0 : Nat) (v1 : Int32) (v2 : Int32) (h : am_H) (o : (am_H) ⊕ (Int32 × am_H)), fX9_noneTurnedOff_L2 n v0 v1 v2 h = some o → am_G sc (am_Cl am_T am_N sc 4) (am_at kX9_noneTurnedOff) (fun t => match o with
    | .inl h1 => t = ((36, [none, none, none], []), h1)
    | .inr y => t.2 = y.2 ∧ am_ret 2 (am_at kX9_noneTurnedOff) t.1 = some (some (.int y.1))) ((2, [some (.ref v0), some (.int v1), some (.int v2)], []), h) := by
  intro n
  induction n with
  | zero => intro _ _ _ _ _ H; cases H
  | succ n ih =>
    intro v0 v1 v2 h o H
    rw [fX9_noneTurnedOff_L2] at H
    refine am_G.fr 2 (g := (4, [some (.ref v0), some (.int v1), some (.int v2)], [.int v1, .int v2])) rfl ?_
    by_cases c1 : v1 ≤ v2
    · rw [if_pos c1] at H
      refine am_G.br (tgt := 36) rfl rfl (if_pos c1) rfl ?_
      obtain rfl := Option.some.inj H
      refine am_G.fg [none, none, none] (by simp only [am_sub, and_self]) ?_
      exact am_G.nd rfl
    · rw [if_neg c1] at H
      refine am_G.br (tgt := 7) rfl rfl (if_neg c1) rfl ?_
      refine am_G.fr 1 (g := (8, [some (.ref v0), some (.int v1), some (.int v2)], [.ref v0])) rfl ?_
      obtain ⟨ahead2, e3, H⟩ := am_bd H
      refine am_G.gR rfl e3 ?_
      refine am_G.fr 1 (g := (12, [some (.ref v0), some (.int v1), some (.int v2)], [.ref v0, .ref ahead2])) rfl ?_
      obtain ⟨told4, e5, H⟩ := am_bd H
      refine am_G.gR rfl e5 ?_
      obtain ⟨hh7, e6, H⟩ := am_bd H
      refine am_G.cl [.ref ahead2, .ref told4] [] (am_Cl.mono (by decide) (lX6_passDate e6)) rfl rfl rfl rfl (Nat.le_of_ble_eq_true rfl) ?_
      refine am_G.fr 1 (g := (19, [some (.ref v0), some (.int v1), some (.int v2)], [.ref v0])) rfl ?_
      obtain ⟨ahead8, e9, H⟩ := am_bd H
      refine am_G.gR rfl e9 ?_
      obtain ⟨off10, e11, H⟩ := am_bd H
      refine am_G.gI rfl e11 ?_
      by_cases c12 : off10 = 0
      · rw [if_pos c12] at H
        refine am_G.br (tgt := 30) rfl rfl (if_pos c12) rfl ?_
        refine am_G.fr 2 (g := (2, [some (.ref v0), some (.int v1), some (.int (v2 + (1 : Int32)))], [])) rfl ?_
        exact ih _ _ _ _ _ H
      · rw [if_neg c12] at H
        refine am_G.br (tgt := 28) rfl rfl (if_neg c12) rfl ?_
        refine am_G.fr 1 (g := (29, [some (.ref v0), some (.int v1), some (.int v2)], [.int ((0 : Int32))])) rfl ?_
        obtain rfl := Option.some.inj H
        exact am_G.nd ⟨rfl, am_ret2 rfl (if_pos (by decide))⟩
set_option maxHeartbeats 4000000 in
set_option maxRecDepth 100000 in
theorem lX9_noneTurnedOff {sc : Nat × (Nat → Int32)} {a0 : Nat} {a1 : Int32} {h : am_H} {r : Int32} {h1 : am_H} (H : fX9_noneTurnedOff a0 a1 h = some (r, h1)) : am_Cl am_T am_N sc 5 101 [.ref a0, .int a1] h (some (.int r)) h1 := by
  unfold fX9_noneTurnedOff at H
  obtain ⟨_, hO, H⟩ := am_bd H
  obtain ⟨fs0, hO⟩ := am_isO_ok hO
  refine am_mk (q := qX9_noneTurnedOff) rfl (fun _ => ⟨_, _, _, _, _, rfl, hO, rfl, rfl⟩) (fun z => absurd z (by decide)) (Nat.le_of_ble_eq_true rfl) rfl ?_
  show am_G sc (am_Cl am_T am_N sc 4) (am_at kX9_noneTurnedOff) (fun t => t.2 = h1 ∧ am_ret 2 (am_at kX9_noneTurnedOff) t.1 = some (some (.int r))) ((0, [some (.ref a0), some (.int a1), none], []), h)
  refine am_G.fr 2 (g := (2, [some (.ref a0), some (.int a1), some (.int ((0 : Int32)))], [])) rfl ?_
  obtain ⟨o15, E14, H⟩ := am_bd H
  have hL := lX9_noneTurnedOff_L2 (sc := sc) _ _ _ _ _ _ E14
  clear E14
  rcases o15 with hh13 | y16
  · dsimp only at H
    refine am_G.sq hL ?_
    refine am_G.fr 1 (g := (37, [none, none, none], [.int ((1 : Int32))])) rfl ?_
    obtain ⟨rfl, rfl⟩ := am_inj2 H
    exact am_G.nd ⟨rfl, am_ret2 rfl (if_pos (by decide))⟩
  · dsimp only at H
    obtain rfl := Option.some.inj H
    exact hL
def fX9_fewestBeds_L4 : Nat → Nat → Int32 → Int32 → Int32 → am_H → Option (Int32)
  | 0, _, _, _, _, _ => none
  | n + 1, v0, v1, v2, v3, h =>
    (am_gR h v0 8 9).bind fun told1 =>
    (am_gI h told1 7 11).bind fun houses3 =>
    if houses3 ≤ v3 then
      some v2
    else
      fX9_fewestBeds_L4 n v0 v1 (v2 * ((3 : Int32))) (v3 + (1 : Int32)) h
def fX9_fewestBeds_L43 : Nat → Nat → Int32 → Int32 → Int32 → Int32 → am_H → Option ((am_H) ⊕ (Int32 × am_H))
  | 0, _, _, _, _, _, _ => none
  | n + 1, v0, v1, v2, v3, v4, h =>
    if v2 ≤ v4 then
      some (.inl h)
    else
      am_b2 (fX9_layRow v0 v4 h) fun x15 hh16 =>
      if ¬ x15 = v3 then
        fX9_fewestBeds_L43 n v0 v1 v2 v3 (v4 + (1 : Int32)) hh16
      else
        am_b2 (fX9_buildRow v0 hh16) fun x19 hh20 =>
        if x19 = 0 then
          fX9_fewestBeds_L43 n v0 v1 v2 v3 (v4 + (1 : Int32)) hh20
        else
          am_b2 (fX9_noneTurnedOff v0 v1 hh20) fun x23 hh24 =>
          if x23 = 0 then
            fX9_fewestBeds_L43 n v0 v1 v2 v3 (v4 + (1 : Int32)) hh24
          else
            some (.inr (v3, hh24))
def fX9_fewestBeds_L27 : Nat → Nat → Int32 → Int32 → Int32 → am_H → Option ((am_H) ⊕ (Int32 × am_H))
  | 0, _, _, _, _, _ => none
  | n + 1, v0, v1, v2, v3, h =>
    (am_gR h v0 8 9).bind fun told8 =>
    (am_gI h told8 7 11).bind fun houses10 =>
    if (((2 : Int32)) * houses10) < v3 then
      some (.inl h)
    else
      (fX9_fewestBeds_L43 4000 v0 v1 v2 v3 ((0 : Int32)) h).bind fun o28 => match o28 with
        | .inl hh26 =>
          fX9_fewestBeds_L27 n v0 v1 v2 (v3 + (1 : Int32)) hh26
        | .inr y29 => some (.inr y29)
def fX9_fewestBeds (a0 : Nat) (a1 : Int32) (h : am_H) : Option (Int32 × am_H) :=
  (am_isO h a0 8).bind fun _ =>
  Option.bind (fX9_fewestBeds_L4 4000 a0 a1 ((1 : Int32)) ((0 : Int32)) h) fun lw6 =>
  (fX9_fewestBeds_L27 4000 a0 a1 lw6 ((0 : Int32)) h).bind fun o32 => match o32 with
    | .inl hh30 =>
      some ((-1 : Int32), hh30)
    | .inr y33 => some y33
set_option maxHeartbeats 4000000 in
set_option maxRecDepth 100000 in
theorem lX9_fewestBeds_L4 {sc : Nat × (Nat → Int32)} : ∀ (n : Nat) (v0 : Nat) (v1 : Int32) (v2 : Int32) (v3 : Int32) (h : am_H) (w2 : Int32), fX9_fewestBeds_L4 n v0 v1 v2 v3 h = some w2 → am_G sc (am_Cl am_T am_N sc 5) (am_at kX9_fewestBeds) (fun t => t = ((25, [some (.ref v0), some (.int v1), some (.int w2), none, none], []), h)) ((4, [some (.ref v0), some (.int v1), some (.int v2), some (.int v3), none], []), h) := by
  intro n
  induction n with
  | zero => intro _ _ _ _ _ _ H; cases H
  | succ n ih =>
    intro v0 v1 v2 v3 h w2 H
    rw [fX9_fewestBeds_L4] at H
    refine am_G.fr 2 (g := (6, [some (.ref v0), some (.int v1), some (.int v2), some (.int v3), none], [.ref v0, .int v3])) rfl ?_
    obtain ⟨told1, e2, H⟩ := am_bd H
    refine am_G.gR rfl e2 ?_
    obtain ⟨houses3, e4, H⟩ := am_bd H
    refine am_G.gI rfl e4 ?_
    by_cases c5 : houses3 ≤ v3
    · rw [if_pos c5] at H
      refine am_G.br (tgt := 25) rfl rfl (if_pos c5) rfl ?_
      obtain rfl := Option.some.inj H
      refine am_G.fg [some (.ref v0), some (.int v1), some (.int v2), none, none] (by simp only [am_sub, and_self]) ?_
      exact am_G.nd rfl
    · rw [if_neg c5] at H
      refine am_G.br (tgt := 15) rfl rfl (if_neg c5) rfl ?_
      refine am_G.fr 6 (g := (4, [some (.ref v0), some (.int v1), some (.int (v2 * ((3 : Int32)))), some (.int (v3 + (1 : Int32))), none], [])) rfl ?_
      exact ih _ _ _ _ _ _ H
set_option maxHeartbeats 4000000 in
set_option maxRecDepth 100000 in
theorem lX9_fewestBeds_L43 {sc : Nat × (Nat → Int32)} : ∀ (n : Nat) (v0 : Nat) (v1 : Int32) (v2 : Int32) (v3 : Int32) (v4 : Int32) (h : am_H) (o : (am_H) ⊕ (Int32 × am_H)), fX9_fewestBeds_L43 n v0 v1 v2 v3 v4 h = some o → am_G sc (am_Cl am_T am_N sc 5) (am_at kX9_fewestBeds) (fun t => match o with
    | .inl h1 => t = ((82, [some (.ref v0), some (.int v1), some (.int v2), some (.int v3), none], []), h1)
    | .inr y => t.2 = y.2 ∧ am_ret 1 (am_at kX9_fewestBeds) t.1 = some (some (.int y.1))) ((43, [some (.ref v0), some (.int v1), some (.int v2), some (.int v3), some (.int v4)], []), h) := by
  intro n
  induction n with
  | zero => intro _ _ _ _ _ _ _ H; cases H
  | succ n ih =>
    intro v0 v1 v2 v3 v4 h o H
    rw [fX9_fewestBeds_L43] at H
    refine am_G.fr 2 (g := (46, [some (.ref v0), some (.int v1), some (.int v2), some (.int v3), some (.int v4)], [.int v2, .int v4])) rfl ?_
    by_cases c13 : v2 ≤ v4
    · rw [if_pos c13] at H
      refine am_G.br (tgt := 82) rfl rfl (if_pos c13) rfl ?_
      obtain rfl := Option.some.inj H
      refine am_G.fg [some (.ref v0), some (.int v1), some (.int v2), some (.int v3), none] (by simp only [am_sub, and_self]) ?_
      exact am_G.nd rfl
    · rw [if_neg c13] at H
      refine am_G.br (tgt := 49) rfl rfl (if_neg c13) rfl ?_
      refine am_G.fr 2 (g := (52, [some (.ref v0), some (.int v1), some (.int v2), some (.int v3), some (.int v4)], [.int v4, .ref v0])) rfl ?_
      obtain ⟨x15, hh16, e14, H⟩ := am_bd2 H
      refine am_G.cl [.ref v0, .int v4] [] (am_Cl.mono (by decide) (lX9_layRow e14)) rfl rfl rfl rfl (Nat.le_of_ble_eq_true rfl) ?_
      refine am_G.fr 1 (g := (56, [some (.ref v0), some (.int v1), some (.int v2), some (.int v3), some (.int v4)], [.int v3, .int x15])) rfl ?_
      by_cases c17 : ¬ x15 = v3
      · rw [if_pos c17] at H
        refine am_G.br (tgt := 76) rfl rfl (if_pos c17) rfl ?_
        refine am_G.fr 2 (g := (43, [some (.ref v0), some (.int v1), some (.int v2), some (.int v3), some (.int (v4 + (1 : Int32)))], [])) rfl ?_
        exact ih _ _ _ _ _ _ _ H
      · rw [if_neg c17] at H
        refine am_G.br (tgt := 59) rfl rfl (if_neg c17) rfl ?_
        refine am_G.fr 1 (g := (60, [some (.ref v0), some (.int v1), some (.int v2), some (.int v3), some (.int v4)], [.ref v0])) rfl ?_
        obtain ⟨x19, hh20, e18, H⟩ := am_bd2 H
        refine am_G.cl [.ref v0] [] (am_Cl.mono (by decide) (lX9_buildRow e18)) rfl rfl rfl rfl (Nat.le_of_ble_eq_true rfl) ?_
        by_cases c21 : x19 = 0
        · rw [if_pos c21] at H
          refine am_G.br (tgt := 76) rfl rfl (if_pos c21) rfl ?_
          refine am_G.fr 2 (g := (43, [some (.ref v0), some (.int v1), some (.int v2), some (.int v3), some (.int (v4 + (1 : Int32)))], [])) rfl ?_
          exact ih _ _ _ _ _ _ _ H
        · rw [if_neg c21] at H
          refine am_G.br (tgt := 66) rfl rfl (if_neg c21) rfl ?_
          refine am_G.fr 2 (g := (68, [some (.ref v0), some (.int v1), some (.int v2), some (.int v3), some (.int v4)], [.int v1, .ref v0])) rfl ?_
          obtain ⟨x23, hh24, e22, H⟩ := am_bd2 H
          refine am_G.cl [.ref v0, .int v1] [] (am_Cl.mono (by decide) (lX9_noneTurnedOff e22)) rfl rfl rfl rfl (Nat.le_of_ble_eq_true rfl) ?_
          by_cases c25 : x23 = 0
          · rw [if_pos c25] at H
            refine am_G.br (tgt := 76) rfl rfl (if_pos c25) rfl ?_
            refine am_G.fr 2 (g := (43, [some (.ref v0), some (.int v1), some (.int v2), some (.int v3), some (.int (v4 + (1 : Int32)))], [])) rfl ?_
            exact ih _ _ _ _ _ _ _ H
          · rw [if_neg c25] at H
            refine am_G.br (tgt := 74) rfl rfl (if_neg c25) rfl ?_
            refine am_G.fr 1 (g := (75, [some (.ref v0), some (.int v1), some (.int v2), some (.int v3), some (.int v4)], [.int v3])) rfl ?_
            obtain rfl := Option.some.inj H
            exact am_G.nd ⟨rfl, rfl⟩
set_option maxHeartbeats 4000000 in
set_option maxRecDepth 100000 in
theorem lX9_fewestBeds_L27 {sc : Nat × (Nat → Int32)} : ∀ (n : Nat) (v0 : Nat) (v1 : Int32) (v2 : Int32) (v3 : Int32) (h : am_H) (o : (am_H) ⊕ (Int32 × am_H)), fX9_fewestBeds_L27 n v0 v1 v2 v3 h = some o → am_G sc (am_Cl am_T am_N sc 5) (am_at kX9_fewestBeds) (fun t => match o with
    | .inl h1 => t = ((88, [none, none, none, none, none], []), h1)
    | .inr y => t.2 = y.2 ∧ am_ret 1 (am_at kX9_fewestBeds) t.1 = some (some (.int y.1))) ((27, [some (.ref v0), some (.int v1), some (.int v2), some (.int v3), none], []), h) := by
  intro n
  induction n with
  | zero => intro _ _ _ _ _ _ H; cases H
  | succ n ih =>
    intro v0 v1 v2 v3 h o H
    rw [fX9_fewestBeds_L27] at H
    refine am_G.fr 3 (g := (30, [some (.ref v0), some (.int v1), some (.int v2), some (.int v3), none], [.ref v0, .int ((2 : Int32)), .int v3])) rfl ?_
    obtain ⟨told8, e9, H⟩ := am_bd H
    refine am_G.gR rfl e9 ?_
    obtain ⟨houses10, e11, H⟩ := am_bd H
    refine am_G.gI rfl e11 ?_
    refine am_G.fr 1 (g := (37, [some (.ref v0), some (.int v1), some (.int v2), some (.int v3), none], [.int (((2 : Int32)) * houses10), .int v3])) rfl ?_
    by_cases c12 : (((2 : Int32)) * houses10) < v3
    · rw [if_pos c12] at H
      refine am_G.br (tgt := 88) rfl rfl (if_pos c12) rfl ?_
      obtain rfl := Option.some.inj H
      refine am_G.fg [none, none, none, none, none] (by simp only [am_sub, and_self]) ?_
      exact am_G.nd rfl
    · rw [if_neg c12] at H
      refine am_G.br (tgt := 40) rfl rfl (if_neg c12) rfl ?_
      refine am_G.fr 2 (g := (43, [some (.ref v0), some (.int v1), some (.int v2), some (.int v3), some (.int ((0 : Int32)))], [])) rfl ?_
      obtain ⟨o28, E27, H⟩ := am_bd H
      have hL := lX9_fewestBeds_L43 (sc := sc) _ _ _ _ _ _ _ _ E27
      clear E27
      rcases o28 with hh26 | y29
      · dsimp only at H
        refine am_G.sq hL ?_
        refine am_G.fr 2 (g := (27, [some (.ref v0), some (.int v1), some (.int v2), some (.int (v3 + (1 : Int32))), none], [])) rfl ?_
        exact ih _ _ _ _ _ _ H
      · dsimp only at H
        obtain rfl := Option.some.inj H
        exact hL
set_option maxHeartbeats 4000000 in
set_option maxRecDepth 100000 in
theorem lX9_fewestBeds {sc : Nat × (Nat → Int32)} {a0 : Nat} {a1 : Int32} {h : am_H} {r : Int32} {h1 : am_H} (H : fX9_fewestBeds a0 a1 h = some (r, h1)) : am_Cl am_T am_N sc 6 98 [.ref a0, .int a1] h (some (.int r)) h1 := by
  unfold fX9_fewestBeds at H
  obtain ⟨_, hO, H⟩ := am_bd H
  obtain ⟨fs0, hO⟩ := am_isO_ok hO
  refine am_mk (q := qX9_fewestBeds) rfl (fun _ => ⟨_, _, _, _, _, rfl, hO, rfl, rfl⟩) (fun z => absurd z (by decide)) (Nat.le_of_ble_eq_true rfl) rfl ?_
  show am_G sc (am_Cl am_T am_N sc 5) (am_at kX9_fewestBeds) (fun t => t.2 = h1 ∧ am_ret 1 (am_at kX9_fewestBeds) t.1 = some (some (.int r))) ((0, [some (.ref a0), some (.int a1), none, none, none], []), h)
  refine am_G.fr 4 (g := (4, [some (.ref a0), some (.int a1), some (.int ((1 : Int32))), some (.int ((0 : Int32))), none], [])) rfl ?_
  obtain ⟨lw6, E7, H⟩ := am_bd H
  refine am_G.sq (lX9_fewestBeds_L4 _ _ _ _ _ _ _ E7) ?_
  clear E7
  refine am_G.fr 2 (g := (27, [some (.ref a0), some (.int a1), some (.int lw6), some (.int ((0 : Int32))), none], [])) rfl ?_
  obtain ⟨o32, E31, H⟩ := am_bd H
  have hL := lX9_fewestBeds_L27 (sc := sc) _ _ _ _ _ _ _ E31
  clear E31
  rcases o32 with hh30 | y33
  · dsimp only at H
    refine am_G.sq hL ?_
    refine am_G.fr 1 (g := (89, [none, none, none, none, none], [.int ((-1 : Int32))])) rfl ?_
    obtain ⟨rfl, rfl⟩ := am_inj2 H
    exact am_G.nd ⟨rfl, rfl⟩
  · dsimp only at H
    obtain rfl := Option.some.inj H
    exact hL
def fX9_beds (a0 : Nat) (a1 : Int32) (a2 : Int32) (h : am_H) : Option (Int32 × am_H) :=
  (am_isO h a0 8).bind fun _ =>
  (fX9_within a1 ((1 : Int32)) ((36 : Int32)) h).bind fun x2 =>
  if x2 = 0 then
    some ((-2 : Int32), h)
  else
    if a2 = ((-1 : Int32)) then
      am_b2 (fX9_fewestBeds a0 a1 h) fun x6 hh7 =>
      if ¬ x6 = ((-1 : Int32)) then
        Option.bind (
          if ¬ a2 = ((-1 : Int32)) then
            (am_gR hh7 a0 8 6).bind fun row11 =>
            (am_aI hh7 0 row11 a2).bind fun x13 =>
            some x13
          else
            some x6) fun js9 =>
        some (js9, hh7)
      else
        some ((-2 : Int32), hh7)
    else
      (fX9_isHouse a0 a2 h).bind fun x17 =>
      if ¬ x17 = 0 then
        am_b2 (fX9_fewestBeds a0 a1 h) fun x20 hh21 =>
        if ¬ x20 = ((-1 : Int32)) then
          Option.bind (
            if ¬ a2 = ((-1 : Int32)) then
              (am_gR hh21 a0 8 6).bind fun row25 =>
              (am_aI hh21 0 row25 a2).bind fun x27 =>
              some x27
            else
              some x20) fun js23 =>
          some (js23, hh21)
        else
          some ((-2 : Int32), hh21)
      else
        some ((-2 : Int32), h)
set_option maxHeartbeats 4000000 in
set_option maxRecDepth 100000 in
theorem lX9_beds {sc : Nat × (Nat → Int32)} {a0 : Nat} {a1 : Int32} {a2 : Int32} {h : am_H} {r : Int32} {h1 : am_H} (H : fX9_beds a0 a1 a2 h = some (r, h1)) : am_Cl am_T am_N sc 7 97 [.ref a0, .int a1, .int a2] h (some (.int r)) h1 := by
  unfold fX9_beds at H
  obtain ⟨_, hO, H⟩ := am_bd H
  obtain ⟨fs0, hO⟩ := am_isO_ok hO
  refine am_mk (q := qX9_beds) rfl (fun _ => ⟨_, _, _, _, _, rfl, hO, rfl, rfl⟩) (fun z => absurd z (by decide)) (Nat.le_of_ble_eq_true rfl) rfl ?_
  show am_G sc (am_Cl am_T am_N sc 6) (am_at kX9_beds) (fun t => t.2 = h1 ∧ am_ret 1 (am_at kX9_beds) t.1 = some (some (.int r))) ((0, [some (.ref a0), some (.int a1), some (.int a2), none], []), h)
  refine am_G.fr 3 (g := (4, [some (.ref a0), some (.int a1), some (.int a2), none], [.int ((36 : Int32)), .int ((1 : Int32)), .int a1])) rfl ?_
  obtain ⟨x2, e1, H⟩ := am_bd H
  refine am_G.cl [.int a1, .int ((1 : Int32)), .int ((36 : Int32))] [] (am_Cl.mono (by decide) (lX9_within e1)) rfl rfl rfl rfl (Nat.le_of_ble_eq_true rfl) ?_
  by_cases c3 : x2 = 0
  · rw [if_pos c3] at H
    refine am_G.br (tgt := 23) rfl rfl (if_pos c3) rfl ?_
    refine am_G.fr 1 (g := (25, [some (.ref a0), some (.int a1), some (.int a2), none], [.int ((-2 : Int32))])) rfl ?_
    obtain ⟨rfl, rfl⟩ := am_inj2 H
    exact am_G.nd ⟨rfl, rfl⟩
  · rw [if_neg c3] at H
    refine am_G.br (tgt := 10) rfl rfl (if_neg c3) rfl ?_
    refine am_G.fr 2 (g := (12, [some (.ref a0), some (.int a1), some (.int a2), none], [.int ((-1 : Int32)), .int a2])) rfl ?_
    by_cases c4 : a2 = ((-1 : Int32))
    · rw [if_pos c4] at H
      refine am_G.br (tgt := 26) rfl rfl (if_pos c4) rfl ?_
      refine am_G.fr 2 (g := (28, [some (.ref a0), some (.int a1), some (.int a2), none], [.int a1, .ref a0])) rfl ?_
      obtain ⟨x6, hh7, e5, H⟩ := am_bd2 H
      refine am_G.cl [.ref a0, .int a1] [] (am_Cl.mono (by decide) (lX9_fewestBeds e5)) rfl rfl rfl rfl (Nat.le_of_ble_eq_true rfl) ?_
      refine am_G.fr 3 (g := (34, [some (.ref a0), some (.int a1), some (.int a2), some (.int x6)], [.int ((-1 : Int32)), .int x6])) rfl ?_
      by_cases c8 : ¬ x6 = ((-1 : Int32))
      · rw [if_pos c8] at H
        refine am_G.br (tgt := 40) rfl rfl (if_pos c8) rfl ?_
        refine am_G.fr 2 (g := (42, [some (.ref a0), some (.int a1), some (.int a2), some (.int x6)], [.int ((-1 : Int32)), .int a2])) rfl ?_
        obtain ⟨js9, E15, H⟩ := am_bd H
        refine am_G.sq (t := ((55, [none, none, none, none], [.int js9]), hh7)) ?_ ?_
        · clear H
          have H := E15
          clear E15
          by_cases c10 : ¬ a2 = ((-1 : Int32))
          · rw [if_pos c10] at H
            refine am_G.br (tgt := 49) rfl rfl (if_pos c10) rfl ?_
            refine am_G.fr 1 (g := (50, [some (.ref a0), some (.int a1), some (.int a2), some (.int x6)], [.ref a0])) rfl ?_
            obtain ⟨row11, e12, H⟩ := am_bd H
            refine am_G.gR rfl e12 ?_
            refine am_G.fr 1 (g := (54, [some (.ref a0), some (.int a1), some (.int a2), some (.int x6)], [.int a2, .ref row11])) rfl ?_
            obtain ⟨x13, e14, H⟩ := am_bd H
            refine am_G.aI rfl e14 ?_
            obtain rfl := Option.some.inj H
            refine am_G.fg [none, none, none, none] (by simp only [am_sub, and_self]) ?_
            exact am_G.nd rfl
          · rw [if_neg c10] at H
            refine am_G.br (tgt := 45) rfl rfl (if_neg c10) rfl ?_
            refine am_G.fr 2 (g := (55, [some (.ref a0), some (.int a1), some (.int a2), some (.int x6)], [.int x6])) rfl ?_
            obtain rfl := Option.some.inj H
            refine am_G.fg [none, none, none, none] (by simp only [am_sub, and_self]) ?_
            exact am_G.nd rfl
        · clear E15
          obtain ⟨rfl, rfl⟩ := am_inj2 H
          exact am_G.nd ⟨rfl, rfl⟩
      · rw [if_neg c8] at H
        refine am_G.br (tgt := 37) rfl rfl (if_neg c8) rfl ?_
        refine am_G.fr 1 (g := (39, [some (.ref a0), some (.int a1), some (.int a2), some (.int x6)], [.int ((-2 : Int32))])) rfl ?_
        obtain ⟨rfl, rfl⟩ := am_inj2 H
        exact am_G.nd ⟨rfl, rfl⟩
    · rw [if_neg c4] at H
      refine am_G.br (tgt := 15) rfl rfl (if_neg c4) rfl ?_
      refine am_G.fr 2 (g := (17, [some (.ref a0), some (.int a1), some (.int a2), none], [.int a2, .ref a0])) rfl ?_
      obtain ⟨x17, e16, H⟩ := am_bd H
      refine am_G.cl [.ref a0, .int a2] [] (am_Cl.mono (by decide) (lX9_isHouse e16)) rfl rfl rfl rfl (Nat.le_of_ble_eq_true rfl) ?_
      by_cases c18 : ¬ x17 = 0
      · rw [if_pos c18] at H
        refine am_G.br (tgt := 26) rfl rfl (if_pos c18) rfl ?_
        refine am_G.fr 2 (g := (28, [some (.ref a0), some (.int a1), some (.int a2), none], [.int a1, .ref a0])) rfl ?_
        obtain ⟨x20, hh21, e19, H⟩ := am_bd2 H
        refine am_G.cl [.ref a0, .int a1] [] (am_Cl.mono (by decide) (lX9_fewestBeds e19)) rfl rfl rfl rfl (Nat.le_of_ble_eq_true rfl) ?_
        refine am_G.fr 3 (g := (34, [some (.ref a0), some (.int a1), some (.int a2), some (.int x20)], [.int ((-1 : Int32)), .int x20])) rfl ?_
        by_cases c22 : ¬ x20 = ((-1 : Int32))
        · rw [if_pos c22] at H
          refine am_G.br (tgt := 40) rfl rfl (if_pos c22) rfl ?_
          refine am_G.fr 2 (g := (42, [some (.ref a0), some (.int a1), some (.int a2), some (.int x20)], [.int ((-1 : Int32)), .int a2])) rfl ?_
          obtain ⟨js23, E29, H⟩ := am_bd H
          refine am_G.sq (t := ((55, [none, none, none, none], [.int js23]), hh21)) ?_ ?_
          · clear H
            have H := E29
            clear E29
            by_cases c24 : ¬ a2 = ((-1 : Int32))
            · rw [if_pos c24] at H
              refine am_G.br (tgt := 49) rfl rfl (if_pos c24) rfl ?_
              refine am_G.fr 1 (g := (50, [some (.ref a0), some (.int a1), some (.int a2), some (.int x20)], [.ref a0])) rfl ?_
              obtain ⟨row25, e26, H⟩ := am_bd H
              refine am_G.gR rfl e26 ?_
              refine am_G.fr 1 (g := (54, [some (.ref a0), some (.int a1), some (.int a2), some (.int x20)], [.int a2, .ref row25])) rfl ?_
              obtain ⟨x27, e28, H⟩ := am_bd H
              refine am_G.aI rfl e28 ?_
              obtain rfl := Option.some.inj H
              refine am_G.fg [none, none, none, none] (by simp only [am_sub, and_self]) ?_
              exact am_G.nd rfl
            · rw [if_neg c24] at H
              refine am_G.br (tgt := 45) rfl rfl (if_neg c24) rfl ?_
              refine am_G.fr 2 (g := (55, [some (.ref a0), some (.int a1), some (.int a2), some (.int x20)], [.int x20])) rfl ?_
              obtain rfl := Option.some.inj H
              refine am_G.fg [none, none, none, none] (by simp only [am_sub, and_self]) ?_
              exact am_G.nd rfl
          · clear E29
            obtain ⟨rfl, rfl⟩ := am_inj2 H
            exact am_G.nd ⟨rfl, rfl⟩
        · rw [if_neg c22] at H
          refine am_G.br (tgt := 37) rfl rfl (if_neg c22) rfl ?_
          refine am_G.fr 1 (g := (39, [some (.ref a0), some (.int a1), some (.int a2), some (.int x20)], [.int ((-2 : Int32))])) rfl ?_
          obtain ⟨rfl, rfl⟩ := am_inj2 H
          exact am_G.nd ⟨rfl, rfl⟩
      · rw [if_neg c18] at H
        refine am_G.br (tgt := 23) rfl rfl (if_neg c18) rfl ?_
        refine am_G.fr 1 (g := (25, [some (.ref a0), some (.int a1), some (.int a2), none], [.int ((-2 : Int32))])) rfl ?_
        obtain ⟨rfl, rfl⟩ := am_inj2 H
        exact am_G.nd ⟨rfl, rfl⟩
def fX9_isPeaceful_L2 : Nat → Nat → Int32 → Int32 → am_H → Option ((Unit) ⊕ (Int32))
  | 0, _, _, _, _ => none
  | n + 1, v0, v1, v2, h =>
    (am_gR h v0 8 9).bind fun told1 =>
    (am_gI h told1 7 12).bind fun days3 =>
    if days3 ≤ v2 then
      some (.inl ())
    else
      (fX9_has v1 v2 h).bind fun x7 =>
      if x7 = 0 then
        fX9_isPeaceful_L2 n v0 v1 (v2 + (1 : Int32)) h
      else
        (am_gR h v0 8 9).bind fun told9 =>
        (am_gR h told9 7 8).bind fun foes11 =>
        (am_aI h 0 foes11 v2).bind fun x13 =>
        if (x13 &&& v1) = 0 then
          fX9_isPeaceful_L2 n v0 v1 (v2 + (1 : Int32)) h
        else
          some (.inr ((0 : Int32)))
def fX9_isPeaceful (a0 : Nat) (a1 : Int32) (h : am_H) : Option (Int32) :=
  (am_isO h a0 8).bind fun _ =>
  (fX9_isPeaceful_L2 4000 a0 a1 ((0 : Int32)) h).bind fun o17 => match o17 with
    | .inl _ =>
      some ((1 : Int32))
    | .inr y18 => some y18
set_option maxHeartbeats 4000000 in
set_option maxRecDepth 100000 in
theorem lX9_isPeaceful_L2 {sc : Nat × (Nat → Int32)} : ∀ (n : Nat) (v0 : Nat) (v1 : Int32) (v2 : Int32) (h : am_H) (o : (Unit) ⊕ (Int32)), fX9_isPeaceful_L2 n v0 v1 v2 h = some o → am_G sc (am_Cl am_T am_N sc 1) (am_at kX9_isPeaceful) (fun t => match o with
    | .inl _ => t = ((43, [none, none, none], []), h)
    | .inr y => t.2 = h ∧ am_ret 2 (am_at kX9_isPeaceful) t.1 = some (some (.int y))) ((2, [some (.ref v0), some (.int v1), some (.int v2)], []), h) := by
  intro n
  induction n with
  | zero => intro _ _ _ _ _ H; cases H
  | succ n ih =>
    intro v0 v1 v2 h o H
    rw [fX9_isPeaceful_L2] at H
    refine am_G.fr 2 (g := (4, [some (.ref v0), some (.int v1), some (.int v2)], [.ref v0, .int v2])) rfl ?_
    obtain ⟨told1, e2, H⟩ := am_bd H
    refine am_G.gR rfl e2 ?_
    obtain ⟨days3, e4, H⟩ := am_bd H
    refine am_G.gI rfl e4 ?_
    by_cases c5 : days3 ≤ v2
    · rw [if_pos c5] at H
      refine am_G.br (tgt := 43) rfl rfl (if_pos c5) rfl ?_
      obtain rfl := Option.some.inj H
      refine am_G.fg [none, none, none] (by simp only [am_sub, and_self]) ?_
      exact am_G.nd rfl
    · rw [if_neg c5] at H
      refine am_G.br (tgt := 13) rfl rfl (if_neg c5) rfl ?_
      refine am_G.fr 2 (g := (15, [some (.ref v0), some (.int v1), some (.int v2)], [.int v2, .int v1])) rfl ?_
      obtain ⟨x7, e6, H⟩ := am_bd H
      refine am_G.cl [.int v1, .int v2] [] (am_Cl.mono (by decide) (lX9_has e6)) rfl rfl rfl rfl (Nat.le_of_ble_eq_true rfl) ?_
      by_cases c8 : x7 = 0
      · rw [if_pos c8] at H
        refine am_G.br (tgt := 37) rfl rfl (if_pos c8) rfl ?_
        refine am_G.fr 2 (g := (2, [some (.ref v0), some (.int v1), some (.int (v2 + (1 : Int32)))], [])) rfl ?_
        exact ih _ _ _ _ _ H
      · rw [if_neg c8] at H
        refine am_G.br (tgt := 21) rfl rfl (if_neg c8) rfl ?_
        refine am_G.fr 1 (g := (22, [some (.ref v0), some (.int v1), some (.int v2)], [.ref v0])) rfl ?_
        obtain ⟨told9, e10, H⟩ := am_bd H
        refine am_G.gR rfl e10 ?_
        obtain ⟨foes11, e12, H⟩ := am_bd H
        refine am_G.gR rfl e12 ?_
        refine am_G.fr 1 (g := (29, [some (.ref v0), some (.int v1), some (.int v2)], [.int v2, .ref foes11])) rfl ?_
        obtain ⟨x13, e14, H⟩ := am_bd H
        refine am_G.aI rfl e14 ?_
        refine am_G.fr 2 (g := (32, [some (.ref v0), some (.int v1), some (.int v2)], [.int (x13 &&& v1)])) rfl ?_
        by_cases c15 : (x13 &&& v1) = 0
        · rw [if_pos c15] at H
          refine am_G.br (tgt := 37) rfl rfl (if_pos c15) rfl ?_
          refine am_G.fr 2 (g := (2, [some (.ref v0), some (.int v1), some (.int (v2 + (1 : Int32)))], [])) rfl ?_
          exact ih _ _ _ _ _ H
        · rw [if_neg c15] at H
          refine am_G.br (tgt := 35) rfl rfl (if_neg c15) rfl ?_
          refine am_G.fr 1 (g := (36, [some (.ref v0), some (.int v1), some (.int v2)], [.int ((0 : Int32))])) rfl ?_
          obtain rfl := Option.some.inj H
          exact am_G.nd ⟨rfl, am_ret2 rfl (if_pos (by decide))⟩
set_option maxHeartbeats 4000000 in
set_option maxRecDepth 100000 in
theorem lX9_isPeaceful {sc : Nat × (Nat → Int32)} {a0 : Nat} {a1 : Int32} {h : am_H} {r : Int32} (H : fX9_isPeaceful a0 a1 h = some r) : am_Cl am_T am_N sc 2 106 [.ref a0, .int a1] h (some (.int r)) h := by
  unfold fX9_isPeaceful at H
  obtain ⟨_, hO, H⟩ := am_bd H
  obtain ⟨fs0, hO⟩ := am_isO_ok hO
  refine am_mk (q := qX9_isPeaceful) rfl (fun _ => ⟨_, _, _, _, _, rfl, hO, rfl, rfl⟩) (fun z => absurd z (by decide)) (Nat.le_of_ble_eq_true rfl) rfl ?_
  show am_G sc (am_Cl am_T am_N sc 1) (am_at kX9_isPeaceful) (fun t => t.2 = h ∧ am_ret 2 (am_at kX9_isPeaceful) t.1 = some (some (.int r))) ((0, [some (.ref a0), some (.int a1), none], []), h)
  refine am_G.fr 2 (g := (2, [some (.ref a0), some (.int a1), some (.int ((0 : Int32)))], [])) rfl ?_
  obtain ⟨o17, E16, H⟩ := am_bd H
  have hL := lX9_isPeaceful_L2 (sc := sc) _ _ _ _ _ _ E16
  clear E16
  rcases o17 with _ | y18
  · dsimp only at H
    refine am_G.sq hL ?_
    refine am_G.fr 1 (g := (44, [none, none, none], [.int ((1 : Int32))])) rfl ?_
    obtain rfl := Option.some.inj H
    exact am_G.nd ⟨rfl, am_ret2 rfl (if_pos (by decide))⟩
  · dsimp only at H
    obtain rfl := Option.some.inj H
    exact hL
def fX9_fewestHouses_L5 : Nat → Nat → Int32 → Int32 → Int32 → am_H → Option (Int32)
  | 0, _, _, _, _, _ => none
  | n + 1, v0, v1, v2, v3, h =>
    if v3 ≤ 0 then
      some v2
    else
      (fX9_isPeaceful v0 v3 h).bind fun x3 =>
      Option.bind (
        if x3 = 0 then
          some v2
        else
          (am_gR h v0 8 8).bind fun fewest6 =>
          (am_aI h 0 fewest6 (v1 &&& (v3 ^^^ ((-1 : Int32))))).bind fun x8 =>
          (fJ9_min_7cf53 v2 (((1 : Int32)) + x8) h).bind fun x11 =>
          some x11) fun jv4 =>
      fX9_fewestHouses_L5 n v0 v1 jv4 ((v3 - ((1 : Int32))) &&& v1) h
def fX9_fewestHouses (a0 : Nat) (a1 : Int32) (h : am_H) : Option (Int32) :=
  (am_isO h a0 8).bind fun _ =>
  Option.bind (fX9_fewestHouses_L5 4000 a0 a1 ((6 : Int32)) a1 h) fun lw13 =>
  some lw13
set_option maxHeartbeats 4000000 in
set_option maxRecDepth 100000 in
theorem lX9_fewestHouses_L5 {sc : Nat × (Nat → Int32)} : ∀ (n : Nat) (v0 : Nat) (v1 : Int32) (v2 : Int32) (v3 : Int32) (h : am_H) (w2 : Int32), fX9_fewestHouses_L5 n v0 v1 v2 v3 h = some w2 → am_G sc (am_Cl am_T am_N sc 2) (am_at kX9_fewestHouses) (fun t => t = ((43, [none, none, some (.int w2), none], []), h)) ((5, [some (.ref v0), some (.int v1), some (.int v2), some (.int v3)], []), h) := by
  intro n
  induction n with
  | zero => intro _ _ _ _ _ _ H; cases H
  | succ n ih =>
    intro v0 v1 v2 v3 h w2 H
    rw [fX9_fewestHouses_L5] at H
    refine am_G.fr 1 (g := (6, [some (.ref v0), some (.int v1), some (.int v2), some (.int v3)], [.int v3])) rfl ?_
    by_cases c1 : v3 ≤ 0
    · rw [if_pos c1] at H
      refine am_G.br (tgt := 43) rfl rfl (if_pos c1) rfl ?_
      obtain rfl := Option.some.inj H
      refine am_G.fg [none, none, some (.int v2), none] (by simp only [am_sub, and_self]) ?_
      exact am_G.nd rfl
    · rw [if_neg c1] at H
      refine am_G.br (tgt := 9) rfl rfl (if_neg c1) rfl ?_
      refine am_G.fr 2 (g := (11, [some (.ref v0), some (.int v1), some (.int v2), some (.int v3)], [.int v3, .ref v0])) rfl ?_
      obtain ⟨x3, e2, H⟩ := am_bd H
      refine am_G.cl [.ref v0, .int v3] [] (am_Cl.mono (by decide) (lX9_isPeaceful e2)) rfl rfl rfl rfl (Nat.le_of_ble_eq_true rfl) ?_
      obtain ⟨jv4, E12, H⟩ := am_bd H
      refine am_G.sq (t := ((34, [some (.ref v0), some (.int v1), some (.int jv4), some (.int v3)], []), h)) ?_ ?_
      · clear H
        have H := E12
        clear E12
        by_cases c5 : x3 = 0
        · rw [if_pos c5] at H
          refine am_G.br (tgt := 34) rfl rfl (if_pos c5) rfl ?_
          obtain rfl := Option.some.inj H
          exact am_G.nd rfl
        · rw [if_neg c5] at H
          refine am_G.br (tgt := 17) rfl rfl (if_neg c5) rfl ?_
          refine am_G.fr 3 (g := (20, [some (.ref v0), some (.int v1), some (.int v2), some (.int v3)], [.ref v0, .int ((1 : Int32)), .int v2])) rfl ?_
          obtain ⟨fewest6, e7, H⟩ := am_bd H
          refine am_G.gR rfl e7 ?_
          refine am_G.fr 5 (g := (28, [some (.ref v0), some (.int v1), some (.int v2), some (.int v3)], [.int (v1 &&& (v3 ^^^ ((-1 : Int32)))), .ref fewest6, .int ((1 : Int32)), .int v2])) rfl ?_
          obtain ⟨x8, e9, H⟩ := am_bd H
          refine am_G.aI rfl e9 ?_
          refine am_G.fr 1 (g := (30, [some (.ref v0), some (.int v1), some (.int v2), some (.int v3)], [.int (((1 : Int32)) + x8), .int v2])) rfl ?_
          obtain ⟨x11, e10, H⟩ := am_bd H
          refine am_G.cl [.int v2, .int (((1 : Int32)) + x8)] [] (am_Cl.mono (by decide) (lJ9_min_7cf53 e10)) rfl rfl rfl rfl (Nat.le_of_ble_eq_true rfl) ?_
          refine am_G.fr 1 (g := (34, [some (.ref v0), some (.int v1), some (.int x11), some (.int v3)], [])) rfl ?_
          obtain rfl := Option.some.inj H
          exact am_G.nd rfl
      · clear E12
        refine am_G.fr 7 (g := (5, [some (.ref v0), some (.int v1), some (.int jv4), some (.int ((v3 - ((1 : Int32))) &&& v1))], [])) rfl ?_
        exact ih _ _ _ _ _ _ H
set_option maxHeartbeats 4000000 in
set_option maxRecDepth 100000 in
theorem lX9_fewestHouses {sc : Nat × (Nat → Int32)} {a0 : Nat} {a1 : Int32} {h : am_H} {r : Int32} (H : fX9_fewestHouses a0 a1 h = some r) : am_Cl am_T am_N sc 3 105 [.ref a0, .int a1] h (some (.int r)) h := by
  unfold fX9_fewestHouses at H
  obtain ⟨_, hO, H⟩ := am_bd H
  obtain ⟨fs0, hO⟩ := am_isO_ok hO
  refine am_mk (q := qX9_fewestHouses) rfl (fun _ => ⟨_, _, _, _, _, rfl, hO, rfl, rfl⟩) (fun z => absurd z (by decide)) (Nat.le_of_ble_eq_true rfl) rfl ?_
  show am_G sc (am_Cl am_T am_N sc 2) (am_at kX9_fewestHouses) (fun t => t.2 = h ∧ am_ret 1 (am_at kX9_fewestHouses) t.1 = some (some (.int r))) ((0, [some (.ref a0), some (.int a1), none, none], []), h)
  refine am_G.fr 4 (g := (5, [some (.ref a0), some (.int a1), some (.int ((6 : Int32))), some (.int a1)], [])) rfl ?_
  obtain ⟨lw13, E14, H⟩ := am_bd H
  refine am_G.sq (lX9_fewestHouses_L5 _ _ _ _ _ _ _ E14) ?_
  clear E14
  refine am_G.fr 1 (g := (44, [none, none, some (.int lw13), none], [.int lw13])) rfl ?_
  obtain rfl := Option.some.inj H
  exact am_G.nd ⟨rfl, rfl⟩
def fX9_apart_L19 : Nat → Nat → Int32 → Int32 → am_H → Option (am_H)
  | 0, _, _, _, _ => none
  | n + 1, v0, v1, v2, h =>
    if v1 ≤ v2 then
      some h
    else
      (am_gR h v0 8 8).bind fun fewest10 =>
      (fX9_fewestHouses v0 v2 h).bind fun x13 =>
      (am_sI h 0 fewest10 v2 x13).bind fun hh14 =>
      fX9_apart_L19 n v0 v1 (v2 + (1 : Int32)) hh14
def fX9_apart (a0 : Nat) (h : am_H) : Option (Int32 × am_H) :=
  (am_isO h a0 8).bind fun _ =>
  (am_gR h a0 8 9).bind fun told1 =>
  (am_gI h told1 7 12).bind fun days3 =>
  (am_gR h a0 8 8).bind fun fewest5 =>
  (am_sI h 0 fewest5 ((0 : Int32)) ((0 : Int32))).bind fun hh7 =>
  Option.bind (fX9_apart_L19 4000 a0 (((1 : Int32)) <<< (days3 &&& 31)) ((1 : Int32)) hh7) fun hh16 =>
  (am_gR hh16 a0 8 8).bind fun fewest18 =>
  (am_aI hh16 0 fewest18 ((((1 : Int32)) <<< (days3 &&& 31)) - ((1 : Int32)))).bind fun x20 =>
  some (x20, hh16)
set_option maxHeartbeats 4000000 in
set_option maxRecDepth 100000 in
theorem lX9_apart_L19 {sc : Nat × (Nat → Int32)} : ∀ (n : Nat) (v0 : Nat) (v1 : Int32) (v2 : Int32) (h : am_H) (h1 : am_H), fX9_apart_L19 n v0 v1 v2 h = some h1 → am_G sc (am_Cl am_T am_N sc 3) (am_at kX9_apart) (fun t => t = ((41, [some (.ref v0), some (.int v1), none], []), h1)) ((19, [some (.ref v0), some (.int v1), some (.int v2)], []), h) := by
  intro n
  induction n with
  | zero => intro _ _ _ _ _ H; cases H
  | succ n ih =>
    intro v0 v1 v2 h h1 H
    rw [fX9_apart_L19] at H
    refine am_G.fr 2 (g := (21, [some (.ref v0), some (.int v1), some (.int v2)], [.int v1, .int v2])) rfl ?_
    by_cases c9 : v1 ≤ v2
    · rw [if_pos c9] at H
      refine am_G.br (tgt := 41) rfl rfl (if_pos c9) rfl ?_
      obtain rfl := Option.some.inj H
      refine am_G.fg [some (.ref v0), some (.int v1), none] (by simp only [am_sub, and_self]) ?_
      exact am_G.nd rfl
    · rw [if_neg c9] at H
      refine am_G.br (tgt := 24) rfl rfl (if_neg c9) rfl ?_
      refine am_G.fr 1 (g := (25, [some (.ref v0), some (.int v1), some (.int v2)], [.ref v0])) rfl ?_
      obtain ⟨fewest10, e11, H⟩ := am_bd H
      refine am_G.gR rfl e11 ?_
      refine am_G.fr 3 (g := (31, [some (.ref v0), some (.int v1), some (.int v2)], [.int v2, .ref v0, .int v2, .ref fewest10])) rfl ?_
      obtain ⟨x13, e12, H⟩ := am_bd H
      refine am_G.cl [.ref v0, .int v2] [.int v2, .ref fewest10] (am_Cl.mono (by decide) (lX9_fewestHouses e12)) rfl rfl rfl rfl (Nat.le_of_ble_eq_true rfl) ?_
      obtain ⟨hh14, e15, H⟩ := am_bd H
      refine am_G.sI rfl e15 ?_
      refine am_G.fr 2 (g := (19, [some (.ref v0), some (.int v1), some (.int (v2 + (1 : Int32)))], [])) rfl ?_
      exact ih _ _ _ _ _ H
set_option maxHeartbeats 4000000 in
set_option maxRecDepth 100000 in
theorem lX9_apart {sc : Nat × (Nat → Int32)} {a0 : Nat} {h : am_H} {r : Int32} {h1 : am_H} (H : fX9_apart a0 h = some (r, h1)) : am_Cl am_T am_N sc 4 104 [.ref a0] h (some (.int r)) h1 := by
  unfold fX9_apart at H
  obtain ⟨_, hO, H⟩ := am_bd H
  obtain ⟨fs0, hO⟩ := am_isO_ok hO
  refine am_mk (q := qX9_apart) rfl (fun _ => ⟨_, _, _, _, _, rfl, hO, rfl, rfl⟩) (fun z => absurd z (by decide)) (Nat.le_of_ble_eq_true rfl) rfl ?_
  show am_G sc (am_Cl am_T am_N sc 3) (am_at kX9_apart) (fun t => t.2 = h1 ∧ am_ret 1 (am_at kX9_apart) t.1 = some (some (.int r))) ((0, [some (.ref a0), none, none], []), h)
  refine am_G.fr 2 (g := (2, [some (.ref a0), none, none], [.ref a0, .int ((1 : Int32))])) rfl ?_
  obtain ⟨told1, e2, H⟩ := am_bd H
  refine am_G.gR rfl e2 ?_
  obtain ⟨days3, e4, H⟩ := am_bd H
  refine am_G.gI rfl e4 ?_
  refine am_G.fr 3 (g := (11, [some (.ref a0), some (.int (((1 : Int32)) <<< (days3 &&& 31))), none], [.ref a0])) rfl ?_
  obtain ⟨fewest5, e6, H⟩ := am_bd H
  refine am_G.gR rfl e6 ?_
  refine am_G.fr 2 (g := (16, [some (.ref a0), some (.int (((1 : Int32)) <<< (days3 &&& 31))), none], [.int ((0 : Int32)), .int ((0 : Int32)), .ref fewest5])) rfl ?_
  obtain ⟨hh7, e8, H⟩ := am_bd H
  refine am_G.sI rfl e8 ?_
  refine am_G.fr 2 (g := (19, [some (.ref a0), some (.int (((1 : Int32)) <<< (days3 &&& 31))), some (.int ((1 : Int32)))], [])) rfl ?_
  obtain ⟨hh16, E17, H⟩ := am_bd H
  refine am_G.sq (lX9_apart_L19 _ _ _ _ _ _ E17) ?_
  clear E17
  refine am_G.fr 1 (g := (42, [some (.ref a0), some (.int (((1 : Int32)) <<< (days3 &&& 31))), none], [.ref a0])) rfl ?_
  obtain ⟨fewest18, e19, H⟩ := am_bd H
  refine am_G.gR rfl e19 ?_
  refine am_G.fr 3 (g := (48, [some (.ref a0), some (.int (((1 : Int32)) <<< (days3 &&& 31))), none], [.int ((((1 : Int32)) <<< (days3 &&& 31)) - ((1 : Int32))), .ref fewest18])) rfl ?_
  obtain ⟨x20, e21, H⟩ := am_bd H
  refine am_G.aI rfl e21 ?_
  obtain ⟨rfl, rfl⟩ := am_inj2 H
  exact am_G.nd ⟨rfl, rfl⟩
def fX9_mostAtOnce_L4 : Nat → Nat → Int32 → Int32 → Int32 → am_H → Option (Int32 × am_H)
  | 0, _, _, _, _, _ => none
  | n + 1, v0, v1, v2, v3, h =>
    if v1 ≤ v3 then
      some (v2, h)
    else
      (am_gR h v0 8 2).bind fun ahead2 =>
      (am_gR h v0 8 9).bind fun told4 =>
      (fX6_passDate ahead2 told4 h).bind fun hh7 =>
      (am_gR hh7 v0 8 2).bind fun ahead8 =>
      (am_gR hh7 v0 8 9).bind fun told10 =>
      (fX6_somewhere ahead8 told10 hh7).bind fun x13 =>
      (fJ6_bitCount_0f7a4 x13 hh7).bind fun x15 =>
      (fJ9_max_7cf53 v2 x15 hh7).bind fun x17 =>
      fX9_mostAtOnce_L4 n v0 v1 x17 (v3 + (1 : Int32)) hh7
def fX9_mostAtOnce (a0 : Nat) (a1 : Int32) (h : am_H) : Option (Int32 × am_H) :=
  (am_isO h a0 8).bind fun _ =>
  am_b2 (fX9_mostAtOnce_L4 4000 a0 a1 ((0 : Int32)) ((0 : Int32)) h) fun lw18 hh19 =>
  some (lw18, hh19)
set_option maxHeartbeats 4000000 in
set_option maxRecDepth 100000 in
theorem lX9_mostAtOnce_L4 {sc : Nat × (Nat → Int32)} : ∀ (n : Nat) (v0 : Nat) (v1 : Int32) (v2 : Int32) (v3 : Int32) (h : am_H) (w2 : Int32) (h1 : am_H), fX9_mostAtOnce_L4 n v0 v1 v2 v3 h = some (w2, h1) → am_G sc (am_Cl am_T am_N sc 4) (am_at kX9_mostAtOnce) (fun t => t = ((45, [none, none, some (.int w2), none], []), h1)) ((4, [some (.ref v0), some (.int v1), some (.int v2), some (.int v3)], []), h) := by
  intro n
  induction n with
  | zero => intro _ _ _ _ _ _ _ H; cases H
  | succ n ih =>
    intro v0 v1 v2 v3 h w2 h1 H
    rw [fX9_mostAtOnce_L4] at H
    refine am_G.fr 2 (g := (6, [some (.ref v0), some (.int v1), some (.int v2), some (.int v3)], [.int v1, .int v3])) rfl ?_
    by_cases c1 : v1 ≤ v3
    · rw [if_pos c1] at H
      refine am_G.br (tgt := 45) rfl rfl (if_pos c1) rfl ?_
      obtain ⟨rfl, rfl⟩ := am_inj2 H
      refine am_G.fg [none, none, some (.int v2), none] (by simp only [am_sub, and_self]) ?_
      exact am_G.nd rfl
    · rw [if_neg c1] at H
      refine am_G.br (tgt := 9) rfl rfl (if_neg c1) rfl ?_
      refine am_G.fr 1 (g := (10, [some (.ref v0), some (.int v1), some (.int v2), some (.int v3)], [.ref v0])) rfl ?_
      obtain ⟨ahead2, e3, H⟩ := am_bd H
      refine am_G.gR rfl e3 ?_
      refine am_G.fr 1 (g := (14, [some (.ref v0), some (.int v1), some (.int v2), some (.int v3)], [.ref v0, .ref ahead2])) rfl ?_
      obtain ⟨told4, e5, H⟩ := am_bd H
      refine am_G.gR rfl e5 ?_
      obtain ⟨hh7, e6, H⟩ := am_bd H
      refine am_G.cl [.ref ahead2, .ref told4] [] (am_Cl.mono (by decide) (lX6_passDate e6)) rfl rfl rfl rfl (Nat.le_of_ble_eq_true rfl) ?_
      refine am_G.fr 2 (g := (22, [some (.ref v0), some (.int v1), some (.int v2), some (.int v3)], [.ref v0, .int v2])) rfl ?_
      obtain ⟨ahead8, e9, H⟩ := am_bd H
      refine am_G.gR rfl e9 ?_
      refine am_G.fr 1 (g := (26, [some (.ref v0), some (.int v1), some (.int v2), some (.int v3)], [.ref v0, .ref ahead8, .int v2])) rfl ?_
      obtain ⟨told10, e11, H⟩ := am_bd H
      refine am_G.gR rfl e11 ?_
      obtain ⟨x13, e12, H⟩ := am_bd H
      refine am_G.cl [.ref ahead8, .ref told10] [.int v2] (am_Cl.mono (by decide) (lX6_somewhere e12)) rfl rfl rfl rfl (Nat.le_of_ble_eq_true rfl) ?_
      obtain ⟨x15, e14, H⟩ := am_bd H
      refine am_G.cl [.int x13] [.int v2] (am_Cl.mono (by decide) (lJ6_bitCount_0f7a4 e14)) rfl rfl rfl rfl (Nat.le_of_ble_eq_true rfl) ?_
      obtain ⟨x17, e16, H⟩ := am_bd H
      refine am_G.cl [.int v2, .int x15] [] (am_Cl.mono (by decide) (lJ9_max_7cf53 e16)) rfl rfl rfl rfl (Nat.le_of_ble_eq_true rfl) ?_
      refine am_G.fr 3 (g := (4, [some (.ref v0), some (.int v1), some (.int x17), some (.int (v3 + (1 : Int32)))], [])) rfl ?_
      exact ih _ _ _ _ _ _ _ H
set_option maxHeartbeats 4000000 in
set_option maxRecDepth 100000 in
theorem lX9_mostAtOnce {sc : Nat × (Nat → Int32)} {a0 : Nat} {a1 : Int32} {h : am_H} {r : Int32} {h1 : am_H} (H : fX9_mostAtOnce a0 a1 h = some (r, h1)) : am_Cl am_T am_N sc 5 108 [.ref a0, .int a1] h (some (.int r)) h1 := by
  unfold fX9_mostAtOnce at H
  obtain ⟨_, hO, H⟩ := am_bd H
  obtain ⟨fs0, hO⟩ := am_isO_ok hO
  refine am_mk (q := qX9_mostAtOnce) rfl (fun _ => ⟨_, _, _, _, _, rfl, hO, rfl, rfl⟩) (fun z => absurd z (by decide)) (Nat.le_of_ble_eq_true rfl) rfl ?_
  show am_G sc (am_Cl am_T am_N sc 4) (am_at kX9_mostAtOnce) (fun t => t.2 = h1 ∧ am_ret 1 (am_at kX9_mostAtOnce) t.1 = some (some (.int r))) ((0, [some (.ref a0), some (.int a1), none, none], []), h)
  refine am_G.fr 4 (g := (4, [some (.ref a0), some (.int a1), some (.int ((0 : Int32))), some (.int ((0 : Int32)))], [])) rfl ?_
  obtain ⟨lw18, hh19, E20, H⟩ := am_bd2 H
  refine am_G.sq (lX9_mostAtOnce_L4 _ _ _ _ _ _ _ _ E20) ?_
  clear E20
  refine am_G.fr 1 (g := (46, [none, none, some (.int lw18), none], [.int lw18])) rfl ?_
  obtain ⟨rfl, rfl⟩ := am_inj2 H
  exact am_G.nd ⟨rfl, rfl⟩
def fX9_defer_L18 : Nat → Nat → Int32 → Int32 → Int32 → Int32 → am_H → Option (Int32 × am_H)
  | 0, _, _, _, _, _, _ => none
  | n + 1, v0, v1, v2, v3, v4, h =>
    if ((12 : Int32)) ≤ v4 then
      some (v2, h)
    else
      (am_gR h v0 8 2).bind fun ahead5 =>
      (am_gR h v0 8 1).bind fun now7 =>
      (fX6_copyFrom ahead5 now7 h).bind fun hh10 =>
      (am_gR hh10 v0 8 2).bind fun ahead11 =>
      (am_gR hh10 ahead11 5 1).bind fun on13 =>
      (am_sI hh10 0 on13 v1 v4).bind fun hh15 =>
      am_b2 (fX9_mostAtOnce v0 ((24 : Int32)) hh15) fun x18 hh19 =>
      am_b2 (
        if v3 ≤ x18 then
          some (v2, v3)
        else
          some (v4, x18)) fun jv20 jv21 =>
      fX9_defer_L18 n v0 v1 jv20 jv21 (v4 + (1 : Int32)) hh19
def fX9_defer (a0 : Nat) (a1 : Int32) (h : am_H) : Option (Int32 × am_H) :=
  (am_isO h a0 8).bind fun _ =>
  (fX9_isDay a0 a1 h).bind fun x2 =>
  if ¬ x2 = 0 then
    am_b2 (fX9_defer_L18 4000 a0 a1 ((0 : Int32)) ((7 : Int32)) ((0 : Int32)) h) fun lw24 hh25 =>
    some (lw24, hh25)
  else
    some ((-1 : Int32), h)
set_option maxHeartbeats 4000000 in
set_option maxRecDepth 100000 in
theorem lX9_defer_L18 {sc : Nat × (Nat → Int32)} : ∀ (n : Nat) (v0 : Nat) (v1 : Int32) (v2 : Int32) (v3 : Int32) (v4 : Int32) (h : am_H) (w2 : Int32) (h1 : am_H), fX9_defer_L18 n v0 v1 v2 v3 v4 h = some (w2, h1) → am_G sc (am_Cl am_T am_N sc 5) (am_at kX9_defer) (fun t => t = ((73, [none, none, some (.int w2), none, none, none], []), h1)) ((18, [some (.ref v0), some (.int v1), some (.int v2), some (.int v3), some (.int v4), none], []), h) := by
  intro n
  induction n with
  | zero => intro _ _ _ _ _ _ _ _ H; cases H
  | succ n ih =>
    intro v0 v1 v2 v3 v4 h w2 h1 H
    rw [fX9_defer_L18] at H
    refine am_G.fr 2 (g := (22, [some (.ref v0), some (.int v1), some (.int v2), some (.int v3), some (.int v4), none], [.int ((12 : Int32)), .int v4])) rfl ?_
    by_cases c4 : ((12 : Int32)) ≤ v4
    · rw [if_pos c4] at H
      refine am_G.br (tgt := 73) rfl rfl (if_pos c4) rfl ?_
      obtain ⟨rfl, rfl⟩ := am_inj2 H
      refine am_G.fg [none, none, some (.int v2), none, none, none] (by simp only [am_sub, and_self]) ?_
      exact am_G.nd rfl
    · rw [if_neg c4] at H
      refine am_G.br (tgt := 25) rfl rfl (if_neg c4) rfl ?_
      refine am_G.fr 1 (g := (26, [some (.ref v0), some (.int v1), some (.int v2), some (.int v3), some (.int v4), none], [.ref v0])) rfl ?_
      obtain ⟨ahead5, e6, H⟩ := am_bd H
      refine am_G.gR rfl e6 ?_
      refine am_G.fr 1 (g := (30, [some (.ref v0), some (.int v1), some (.int v2), some (.int v3), some (.int v4), none], [.ref v0, .ref ahead5])) rfl ?_
      obtain ⟨now7, e8, H⟩ := am_bd H
      refine am_G.gR rfl e8 ?_
      obtain ⟨hh10, e9, H⟩ := am_bd H
      refine am_G.cl [.ref ahead5, .ref now7] [] (am_Cl.mono (by decide) (lX6_copyFrom e9)) rfl rfl rfl rfl (Nat.le_of_ble_eq_true rfl) ?_
      refine am_G.fr 1 (g := (37, [some (.ref v0), some (.int v1), some (.int v2), some (.int v3), some (.int v4), none], [.ref v0])) rfl ?_
      obtain ⟨ahead11, e12, H⟩ := am_bd H
      refine am_G.gR rfl e12 ?_
      obtain ⟨on13, e14, H⟩ := am_bd H
      refine am_G.gR rfl e14 ?_
      refine am_G.fr 2 (g := (46, [some (.ref v0), some (.int v1), some (.int v2), some (.int v3), some (.int v4), none], [.int v4, .int v1, .ref on13])) rfl ?_
      obtain ⟨hh15, e16, H⟩ := am_bd H
      refine am_G.sI rfl e16 ?_
      refine am_G.fr 2 (g := (50, [some (.ref v0), some (.int v1), some (.int v2), some (.int v3), some (.int v4), none], [.int ((24 : Int32)), .ref v0])) rfl ?_
      obtain ⟨x18, hh19, e17, H⟩ := am_bd2 H
      refine am_G.cl [.ref v0, .int ((24 : Int32))] [] (am_Cl.mono (by decide) (lX9_mostAtOnce e17)) rfl rfl rfl rfl (Nat.le_of_ble_eq_true rfl) ?_
      refine am_G.fr 3 (g := (58, [some (.ref v0), some (.int v1), some (.int v2), some (.int v3), some (.int v4), some (.int x18)], [.int v3, .int x18])) rfl ?_
      obtain ⟨jv20, jv21, E23, H⟩ := am_bd2 H
      refine am_G.sq (t := ((67, [some (.ref v0), some (.int v1), some (.int jv20), some (.int jv21), some (.int v4), none], []), hh19)) ?_ ?_
      · clear H
        have H := E23
        clear E23
        by_cases c22 : v3 ≤ x18
        · rw [if_pos c22] at H
          refine am_G.br (tgt := 67) rfl rfl (if_pos c22) rfl ?_
          obtain ⟨rfl, rfl⟩ := am_inj2 H
          refine am_G.fg [some (.ref v0), some (.int v1), some (.int v2), some (.int v3), some (.int v4), none] (by simp only [am_sub, and_self]) ?_
          exact am_G.nd rfl
        · rw [if_neg c22] at H
          refine am_G.br (tgt := 61) rfl rfl (if_neg c22) rfl ?_
          refine am_G.fr 4 (g := (67, [some (.ref v0), some (.int v1), some (.int v4), some (.int x18), some (.int v4), some (.int x18)], [])) rfl ?_
          obtain ⟨rfl, rfl⟩ := am_inj2 H
          refine am_G.fg [some (.ref v0), some (.int v1), some (.int v4), some (.int x18), some (.int v4), none] (by simp only [am_sub, and_self]) ?_
          exact am_G.nd rfl
      · clear E23
        refine am_G.fr 2 (g := (18, [some (.ref v0), some (.int v1), some (.int jv20), some (.int jv21), some (.int (v4 + (1 : Int32))), none], [])) rfl ?_
        exact ih _ _ _ _ _ _ _ _ H
set_option maxHeartbeats 4000000 in
set_option maxRecDepth 100000 in
theorem lX9_defer {sc : Nat × (Nat → Int32)} {a0 : Nat} {a1 : Int32} {h : am_H} {r : Int32} {h1 : am_H} (H : fX9_defer a0 a1 h = some (r, h1)) : am_Cl am_T am_N sc 6 107 [.ref a0, .int a1] h (some (.int r)) h1 := by
  unfold fX9_defer at H
  obtain ⟨_, hO, H⟩ := am_bd H
  obtain ⟨fs0, hO⟩ := am_isO_ok hO
  refine am_mk (q := qX9_defer) rfl (fun _ => ⟨_, _, _, _, _, rfl, hO, rfl, rfl⟩) (fun z => absurd z (by decide)) (Nat.le_of_ble_eq_true rfl) rfl ?_
  show am_G sc (am_Cl am_T am_N sc 5) (am_at kX9_defer) (fun t => t.2 = h1 ∧ am_ret 1 (am_at kX9_defer) t.1 = some (some (.int r))) ((0, [some (.ref a0), some (.int a1), none, none, none, none], []), h)
  refine am_G.fr 2 (g := (2, [some (.ref a0), some (.int a1), none, none, none, none], [.int a1, .ref a0])) rfl ?_
  obtain ⟨x2, e1, H⟩ := am_bd H
  refine am_G.cl [.ref a0, .int a1] [] (am_Cl.mono (by decide) (lX9_isDay e1)) rfl rfl rfl rfl (Nat.le_of_ble_eq_true rfl) ?_
  by_cases c3 : ¬ x2 = 0
  · rw [if_pos c3] at H
    refine am_G.br (tgt := 10) rfl rfl (if_pos c3) rfl ?_
    refine am_G.fr 6 (g := (18, [some (.ref a0), some (.int a1), some (.int ((0 : Int32))), some (.int ((7 : Int32))), some (.int ((0 : Int32))), none], [])) rfl ?_
    obtain ⟨lw24, hh25, E26, H⟩ := am_bd2 H
    refine am_G.sq (lX9_defer_L18 _ _ _ _ _ _ _ _ _ E26) ?_
    clear E26
    refine am_G.fr 1 (g := (74, [none, none, some (.int lw24), none, none, none], [.int lw24])) rfl ?_
    obtain ⟨rfl, rfl⟩ := am_inj2 H
    exact am_G.nd ⟨rfl, rfl⟩
  · rw [if_neg c3] at H
    refine am_G.br (tgt := 8) rfl rfl (if_neg c3) rfl ?_
    refine am_G.fr 1 (g := (9, [some (.ref a0), some (.int a1), none, none, none, none], [.int ((-1 : Int32))])) rfl ?_
    obtain ⟨rfl, rfl⟩ := am_inj2 H
    exact am_G.nd ⟨rfl, rfl⟩
def fX9_see (a0 : Nat) (a1 : Int32) (a2 : Int32) (h : am_H) : Option (Int32 × am_H) :=
  (am_isO h a0 8).bind fun _ =>
  if a1 = ((-1 : Int32)) then
    (fX9_within a2 ((0 : Int32)) ((24 : Int32)) h).bind fun x3 =>
    if ¬ x3 = 0 then
      (am_gR h a0 8 5).bind fun seen5 =>
      am_b2 (fX5_add seen5 a1 a2 h) fun x8 hh9 =>
      (am_z01 x8).bind fun b10 =>
      some (b10, hh9)
    else
      some ((0 : Int32), h)
  else
    (fX9_isHouse a0 a1 h).bind fun x13 =>
    if x13 = 0 then
      some ((0 : Int32), h)
    else
      (fX9_within a2 ((0 : Int32)) ((24 : Int32)) h).bind fun x16 =>
      if ¬ x16 = 0 then
        (am_gR h a0 8 5).bind fun seen18 =>
        am_b2 (fX5_add seen18 a1 a2 h) fun x21 hh22 =>
        (am_z01 x21).bind fun b23 =>
        some (b23, hh22)
      else
        some ((0 : Int32), h)
set_option maxHeartbeats 4000000 in
set_option maxRecDepth 100000 in
theorem lX9_see {sc : Nat × (Nat → Int32)} {a0 : Nat} {a1 : Int32} {a2 : Int32} {h : am_H} {r : Int32} {h1 : am_H} (H : fX9_see a0 a1 a2 h = some (r, h1)) : am_Cl am_T am_N sc 3 109 [.ref a0, .int a1, .int a2] h (some (.int r)) h1 := by
  unfold fX9_see at H
  obtain ⟨_, hO, H⟩ := am_bd H
  obtain ⟨fs0, hO⟩ := am_isO_ok hO
  refine am_mk (q := qX9_see) rfl (fun _ => ⟨_, _, _, _, _, rfl, hO, rfl, rfl⟩) (fun z => absurd z (by decide)) (Nat.le_of_ble_eq_true rfl) rfl ?_
  show am_G sc (am_Cl am_T am_N sc 2) (am_at kX9_see) (fun t => t.2 = h1 ∧ am_ret 2 (am_at kX9_see) t.1 = some (some (.int r))) ((0, [some (.ref a0), some (.int a1), some (.int a2)], []), h)
  refine am_G.fr 2 (g := (2, [some (.ref a0), some (.int a1), some (.int a2)], [.int ((-1 : Int32)), .int a1])) rfl ?_
  by_cases c1 : a1 = ((-1 : Int32))
  · rw [if_pos c1] at H
    refine am_G.br (tgt := 13) rfl rfl (if_pos c1) rfl ?_
    refine am_G.fr 3 (g := (17, [some (.ref a0), some (.int a1), some (.int a2)], [.int ((24 : Int32)), .int ((0 : Int32)), .int a2])) rfl ?_
    obtain ⟨x3, e2, H⟩ := am_bd H
    refine am_G.cl [.int a2, .int ((0 : Int32)), .int ((24 : Int32))] [] (am_Cl.mono (by decide) (lX9_within e2)) rfl rfl rfl rfl (Nat.le_of_ble_eq_true rfl) ?_
    by_cases c4 : ¬ x3 = 0
    · rw [if_pos c4] at H
      refine am_G.br (tgt := 25) rfl rfl (if_pos c4) rfl ?_
      refine am_G.fr 1 (g := (26, [some (.ref a0), some (.int a1), some (.int a2)], [.ref a0])) rfl ?_
      obtain ⟨seen5, e6, H⟩ := am_bd H
      refine am_G.gR rfl e6 ?_
      refine am_G.fr 2 (g := (31, [some (.ref a0), some (.int a1), some (.int a2)], [.int a2, .int a1, .ref seen5])) rfl ?_
      obtain ⟨x8, hh9, e7, H⟩ := am_bd2 H
      refine am_G.cl [.ref seen5, .int a1, .int a2] [] (am_Cl.mono (by decide) (lX5_add e7)) rfl rfl rfl rfl (Nat.le_of_ble_eq_true rfl) ?_
      obtain ⟨b10, e11, H⟩ := am_bd H
      obtain ⟨rfl, rfl⟩ := am_inj2 H
      exact am_G.nd ⟨rfl, am_ret2 rfl e11⟩
    · rw [if_neg c4] at H
      refine am_G.br (tgt := 23) rfl rfl (if_neg c4) rfl ?_
      refine am_G.fr 1 (g := (24, [some (.ref a0), some (.int a1), some (.int a2)], [.int ((0 : Int32))])) rfl ?_
      obtain ⟨rfl, rfl⟩ := am_inj2 H
      exact am_G.nd ⟨rfl, am_ret2 rfl (if_pos (by decide))⟩
  · rw [if_neg c1] at H
    refine am_G.br (tgt := 5) rfl rfl (if_neg c1) rfl ?_
    refine am_G.fr 2 (g := (7, [some (.ref a0), some (.int a1), some (.int a2)], [.int a1, .ref a0])) rfl ?_
    obtain ⟨x13, e12, H⟩ := am_bd H
    refine am_G.cl [.ref a0, .int a1] [] (am_Cl.mono (by decide) (lX9_isHouse e12)) rfl rfl rfl rfl (Nat.le_of_ble_eq_true rfl) ?_
    by_cases c14 : x13 = 0
    · rw [if_pos c14] at H
      refine am_G.br (tgt := 23) rfl rfl (if_pos c14) rfl ?_
      refine am_G.fr 1 (g := (24, [some (.ref a0), some (.int a1), some (.int a2)], [.int ((0 : Int32))])) rfl ?_
      obtain ⟨rfl, rfl⟩ := am_inj2 H
      exact am_G.nd ⟨rfl, am_ret2 rfl (if_pos (by decide))⟩
    · rw [if_neg c14] at H
      refine am_G.br (tgt := 13) rfl rfl (if_neg c14) rfl ?_
      refine am_G.fr 3 (g := (17, [some (.ref a0), some (.int a1), some (.int a2)], [.int ((24 : Int32)), .int ((0 : Int32)), .int a2])) rfl ?_
      obtain ⟨x16, e15, H⟩ := am_bd H
      refine am_G.cl [.int a2, .int ((0 : Int32)), .int ((24 : Int32))] [] (am_Cl.mono (by decide) (lX9_within e15)) rfl rfl rfl rfl (Nat.le_of_ble_eq_true rfl) ?_
      by_cases c17 : ¬ x16 = 0
      · rw [if_pos c17] at H
        refine am_G.br (tgt := 25) rfl rfl (if_pos c17) rfl ?_
        refine am_G.fr 1 (g := (26, [some (.ref a0), some (.int a1), some (.int a2)], [.ref a0])) rfl ?_
        obtain ⟨seen18, e19, H⟩ := am_bd H
        refine am_G.gR rfl e19 ?_
        refine am_G.fr 2 (g := (31, [some (.ref a0), some (.int a1), some (.int a2)], [.int a2, .int a1, .ref seen18])) rfl ?_
        obtain ⟨x21, hh22, e20, H⟩ := am_bd2 H
        refine am_G.cl [.ref seen18, .int a1, .int a2] [] (am_Cl.mono (by decide) (lX5_add e20)) rfl rfl rfl rfl (Nat.le_of_ble_eq_true rfl) ?_
        obtain ⟨b23, e24, H⟩ := am_bd H
        obtain ⟨rfl, rfl⟩ := am_inj2 H
        exact am_G.nd ⟨rfl, am_ret2 rfl e24⟩
      · rw [if_neg c17] at H
        refine am_G.br (tgt := 23) rfl rfl (if_neg c17) rfl ?_
        refine am_G.fr 1 (g := (24, [some (.ref a0), some (.int a1), some (.int a2)], [.int ((0 : Int32))])) rfl ?_
        obtain ⟨rfl, rfl⟩ := am_inj2 H
        exact am_G.nd ⟨rfl, am_ret2 rfl (if_pos (by decide))⟩
def fX9_who_L33 : Nat → Nat → Int32 → Int32 → Int32 → am_H → Option (Int32)
  | 0, _, _, _, _, _ => none
  | n + 1, v0, v1, v2, v3, h =>
    (am_gR h v0 8 5).bind fun seen12 =>
    (am_gI h seen12 4 2).bind fun size14 =>
    if size14 ≤ v3 then
      some v1
    else
      (am_gR h v0 8 5).bind fun seen17 =>
      (am_gR h seen17 4 1).bind fun behind19 =>
      (am_aI h 0 behind19 v3).bind fun x21 =>
      Option.bind (
        if ¬ x21 = v2 then
          some v1
        else
          (am_gR h v0 8 2).bind fun ahead25 =>
          (am_gR h v0 8 9).bind fun told27 =>
          (am_gR h v0 8 5).bind fun seen29 =>
          (am_gR h seen29 4 0).bind fun house31 =>
          (am_aI h 0 house31 v3).bind fun x33 =>
          (fX6_guests ahead25 told27 x33 h).bind fun x36 =>
          some (v1 &&& x36)) fun jv23 =>
      fX9_who_L33 n v0 jv23 v2 (v3 + (1 : Int32)) h
def fX9_who_L25 : Nat → Nat → Int32 → Int32 → am_H → Option (Int32 × am_H)
  | 0, _, _, _, _ => none
  | n + 1, v0, v1, v2, h =>
    if ((24 : Int32)) < v2 then
      some (v1, h)
    else
      Option.bind (fX9_who_L33 4000 v0 v1 v2 ((0 : Int32)) h) fun lw38 =>
      (am_gR h v0 8 2).bind fun ahead40 =>
      (am_gR h v0 8 9).bind fun told42 =>
      (fX6_passDate ahead40 told42 h).bind fun hh45 =>
      fX9_who_L25 n v0 lw38 (v2 + (1 : Int32)) hh45
def fX9_who (a0 : Nat) (h : am_H) : Option (Int32 × am_H) :=
  (am_isO h a0 8).bind fun _ =>
  (am_gR h a0 8 9).bind fun told1 =>
  (am_gI h told1 7 12).bind fun days3 =>
  (am_gR h a0 8 2).bind fun ahead5 =>
  (am_gR h a0 8 1).bind fun now7 =>
  (fX6_copyFrom ahead5 now7 h).bind fun hh10 =>
  am_b2 (fX9_who_L25 4000 a0 ((((1 : Int32)) <<< (days3 &&& 31)) - ((1 : Int32))) ((0 : Int32)) hh10) fun lw46 hh47 =>
  some (lw46, hh47)
set_option maxHeartbeats 4000000 in
set_option maxRecDepth 100000 in
theorem lX9_who_L33 {sc : Nat × (Nat → Int32)} : ∀ (n : Nat) (v0 : Nat) (v1 : Int32) (v2 : Int32) (v3 : Int32) (h : am_H) (w1 : Int32), fX9_who_L33 n v0 v1 v2 v3 h = some w1 → am_G sc (am_Cl am_T am_N sc 4) (am_at kX9_who) (fun t => t = ((86, [some (.ref v0), some (.int w1), some (.int v2), none], []), h)) ((33, [some (.ref v0), some (.int v1), some (.int v2), some (.int v3)], []), h) := by
  intro n
  induction n with
  | zero => intro _ _ _ _ _ _ H; cases H
  | succ n ih =>
    intro v0 v1 v2 v3 h w1 H
    rw [fX9_who_L33] at H
    refine am_G.fr 2 (g := (35, [some (.ref v0), some (.int v1), some (.int v2), some (.int v3)], [.ref v0, .int v3])) rfl ?_
    obtain ⟨seen12, e13, H⟩ := am_bd H
    refine am_G.gR rfl e13 ?_
    obtain ⟨size14, e15, H⟩ := am_bd H
    refine am_G.gI rfl e15 ?_
    by_cases c16 : size14 ≤ v3
    · rw [if_pos c16] at H
      refine am_G.br (tgt := 86) rfl rfl (if_pos c16) rfl ?_
      obtain rfl := Option.some.inj H
      refine am_G.fg [some (.ref v0), some (.int v1), some (.int v2), none] (by simp only [am_sub, and_self]) ?_
      exact am_G.nd rfl
    · rw [if_neg c16] at H
      refine am_G.br (tgt := 44) rfl rfl (if_neg c16) rfl ?_
      refine am_G.fr 1 (g := (45, [some (.ref v0), some (.int v1), some (.int v2), some (.int v3)], [.ref v0])) rfl ?_
      obtain ⟨seen17, e18, H⟩ := am_bd H
      refine am_G.gR rfl e18 ?_
      obtain ⟨behind19, e20, H⟩ := am_bd H
      refine am_G.gR rfl e20 ?_
      refine am_G.fr 1 (g := (52, [some (.ref v0), some (.int v1), some (.int v2), some (.int v3)], [.int v3, .ref behind19])) rfl ?_
      obtain ⟨x21, e22, H⟩ := am_bd H
      refine am_G.aI rfl e22 ?_
      refine am_G.fr 1 (g := (54, [some (.ref v0), some (.int v1), some (.int v2), some (.int v3)], [.int v2, .int x21])) rfl ?_
      obtain ⟨jv23, E37, H⟩ := am_bd H
      refine am_G.sq (t := ((80, [some (.ref v0), some (.int jv23), some (.int v2), some (.int v3)], []), h)) ?_ ?_
      · clear H
        have H := E37
        clear E37
        by_cases c24 : ¬ x21 = v2
        · rw [if_pos c24] at H
          refine am_G.br (tgt := 80) rfl rfl (if_pos c24) rfl ?_
          obtain rfl := Option.some.inj H
          exact am_G.nd rfl
        · rw [if_neg c24] at H
          refine am_G.br (tgt := 57) rfl rfl (if_neg c24) rfl ?_
          refine am_G.fr 2 (g := (59, [some (.ref v0), some (.int v1), some (.int v2), some (.int v3)], [.ref v0, .int v1])) rfl ?_
          obtain ⟨ahead25, e26, H⟩ := am_bd H
          refine am_G.gR rfl e26 ?_
          refine am_G.fr 1 (g := (63, [some (.ref v0), some (.int v1), some (.int v2), some (.int v3)], [.ref v0, .ref ahead25, .int v1])) rfl ?_
          obtain ⟨told27, e28, H⟩ := am_bd H
          refine am_G.gR rfl e28 ?_
          refine am_G.fr 1 (g := (67, [some (.ref v0), some (.int v1), some (.int v2), some (.int v3)], [.ref v0, .ref told27, .ref ahead25, .int v1])) rfl ?_
          obtain ⟨seen29, e30, H⟩ := am_bd H
          refine am_G.gR rfl e30 ?_
          obtain ⟨house31, e32, H⟩ := am_bd H
          refine am_G.gR rfl e32 ?_
          refine am_G.fr 1 (g := (74, [some (.ref v0), some (.int v1), some (.int v2), some (.int v3)], [.int v3, .ref house31, .ref told27, .ref ahead25, .int v1])) rfl ?_
          obtain ⟨x33, e34, H⟩ := am_bd H
          refine am_G.aI rfl e34 ?_
          obtain ⟨x36, e35, H⟩ := am_bd H
          refine am_G.cl [.ref ahead25, .ref told27, .int x33] [.int v1] (am_Cl.mono (by decide) (lX6_guests e35)) rfl rfl rfl rfl (Nat.le_of_ble_eq_true rfl) ?_
          refine am_G.fr 2 (g := (80, [some (.ref v0), some (.int (v1 &&& x36)), some (.int v2), some (.int v3)], [])) rfl ?_
          obtain rfl := Option.some.inj H
          exact am_G.nd rfl
      · clear E37
        refine am_G.fr 2 (g := (33, [some (.ref v0), some (.int jv23), some (.int v2), some (.int (v3 + (1 : Int32)))], [])) rfl ?_
        exact ih _ _ _ _ _ _ H
set_option maxHeartbeats 4000000 in
set_option maxRecDepth 100000 in
theorem lX9_who_L25 {sc : Nat × (Nat → Int32)} : ∀ (n : Nat) (v0 : Nat) (v1 : Int32) (v2 : Int32) (h : am_H) (w1 : Int32) (h1 : am_H), fX9_who_L25 n v0 v1 v2 h = some (w1, h1) → am_G sc (am_Cl am_T am_N sc 4) (am_at kX9_who) (fun t => t = ((103, [none, some (.int w1), none, none], []), h1)) ((25, [some (.ref v0), some (.int v1), some (.int v2), none], []), h) := by
  intro n
  induction n with
  | zero => intro _ _ _ _ _ _ H; cases H
  | succ n ih =>
    intro v0 v1 v2 h w1 h1 H
    rw [fX9_who_L25] at H
    refine am_G.fr 2 (g := (28, [some (.ref v0), some (.int v1), some (.int v2), none], [.int ((24 : Int32)), .int v2])) rfl ?_
    by_cases c11 : ((24 : Int32)) < v2
    · rw [if_pos c11] at H
      refine am_G.br (tgt := 103) rfl rfl (if_pos c11) rfl ?_
      obtain ⟨rfl, rfl⟩ := am_inj2 H
      refine am_G.fg [none, some (.int v1), none, none] (by simp only [am_sub, and_self]) ?_
      exact am_G.nd rfl
    · rw [if_neg c11] at H
      refine am_G.br (tgt := 31) rfl rfl (if_neg c11) rfl ?_
      refine am_G.fr 2 (g := (33, [some (.ref v0), some (.int v1), some (.int v2), some (.int ((0 : Int32)))], [])) rfl ?_
      obtain ⟨lw38, E39, H⟩ := am_bd H
      refine am_G.sq (lX9_who_L33 _ _ _ _ _ _ _ E39) ?_
      clear E39
      refine am_G.fr 1 (g := (87, [some (.ref v0), some (.int lw38), some (.int v2), none], [.ref v0])) rfl ?_
      obtain ⟨ahead40, e41, H⟩ := am_bd H
      refine am_G.gR rfl e41 ?_
      refine am_G.fr 1 (g := (91, [some (.ref v0), some (.int lw38), some (.int v2), none], [.ref v0, .ref ahead40])) rfl ?_
      obtain ⟨told42, e43, H⟩ := am_bd H
      refine am_G.gR rfl e43 ?_
      obtain ⟨hh45, e44, H⟩ := am_bd H
      refine am_G.cl [.ref ahead40, .ref told42] [] (am_Cl.mono (by decide) (lX6_passDate e44)) rfl rfl rfl rfl (Nat.le_of_ble_eq_true rfl) ?_
      refine am_G.fr 2 (g := (25, [some (.ref v0), some (.int lw38), some (.int (v2 + (1 : Int32))), none], [])) rfl ?_
      exact ih _ _ _ _ _ _ H
set_option maxHeartbeats 4000000 in
set_option maxRecDepth 100000 in
theorem lX9_who {sc : Nat × (Nat → Int32)} {a0 : Nat} {h : am_H} {r : Int32} {h1 : am_H} (H : fX9_who a0 h = some (r, h1)) : am_Cl am_T am_N sc 5 110 [.ref a0] h (some (.int r)) h1 := by
  unfold fX9_who at H
  obtain ⟨_, hO, H⟩ := am_bd H
  obtain ⟨fs0, hO⟩ := am_isO_ok hO
  refine am_mk (q := qX9_who) rfl (fun _ => ⟨_, _, _, _, _, rfl, hO, rfl, rfl⟩) (fun z => absurd z (by decide)) (Nat.le_of_ble_eq_true rfl) rfl ?_
  show am_G sc (am_Cl am_T am_N sc 4) (am_at kX9_who) (fun t => t.2 = h1 ∧ am_ret 1 (am_at kX9_who) t.1 = some (some (.int r))) ((0, [some (.ref a0), none, none, none], []), h)
  refine am_G.fr 2 (g := (2, [some (.ref a0), none, none, none], [.ref a0, .int ((1 : Int32))])) rfl ?_
  obtain ⟨told1, e2, H⟩ := am_bd H
  refine am_G.gR rfl e2 ?_
  obtain ⟨days3, e4, H⟩ := am_bd H
  refine am_G.gI rfl e4 ?_
  refine am_G.fr 5 (g := (13, [some (.ref a0), some (.int ((((1 : Int32)) <<< (days3 &&& 31)) - ((1 : Int32)))), none, none], [.ref a0])) rfl ?_
  obtain ⟨ahead5, e6, H⟩ := am_bd H
  refine am_G.gR rfl e6 ?_
  refine am_G.fr 1 (g := (17, [some (.ref a0), some (.int ((((1 : Int32)) <<< (days3 &&& 31)) - ((1 : Int32)))), none, none], [.ref a0, .ref ahead5])) rfl ?_
  obtain ⟨now7, e8, H⟩ := am_bd H
  refine am_G.gR rfl e8 ?_
  obtain ⟨hh10, e9, H⟩ := am_bd H
  refine am_G.cl [.ref ahead5, .ref now7] [] (am_Cl.mono (by decide) (lX6_copyFrom e9)) rfl rfl rfl rfl (Nat.le_of_ble_eq_true rfl) ?_
  refine am_G.fr 2 (g := (25, [some (.ref a0), some (.int ((((1 : Int32)) <<< (days3 &&& 31)) - ((1 : Int32)))), some (.int ((0 : Int32))), none], [])) rfl ?_
  obtain ⟨lw46, hh47, E48, H⟩ := am_bd2 H
  refine am_G.sq (lX9_who_L25 _ _ _ _ _ _ _ E48) ?_
  clear E48
  refine am_G.fr 1 (g := (104, [none, some (.int lw46), none, none], [.int lw46])) rfl ?_
  obtain ⟨rfl, rfl⟩ := am_inj2 H
  exact am_G.nd ⟨rfl, rfl⟩
def fX9_mostTogether_L4 : Nat → Nat → Int32 → Int32 → Int32 → am_H → Option (Int32)
  | 0, _, _, _, _, _ => none
  | n + 1, v0, v1, v2, v3, h =>
    (am_gR h v0 8 9).bind fun told1 =>
    (am_gI h told1 7 11).bind fun houses3 =>
    if houses3 ≤ v3 then
      some v2
    else
      (am_gR h v0 8 2).bind fun ahead6 =>
      (am_gR h v0 8 9).bind fun told8 =>
      (fX6_guests ahead6 told8 v3 h).bind fun x11 =>
      (fJ6_bitCount_0f7a4 (v1 &&& x11) h).bind fun x13 =>
      (fJ9_max_7cf53 v2 x13 h).bind fun x15 =>
      fX9_mostTogether_L4 n v0 v1 x15 (v3 + (1 : Int32)) h
def fX9_mostTogether (a0 : Nat) (a1 : Int32) (h : am_H) : Option (Int32) :=
  (am_isO h a0 8).bind fun _ =>
  Option.bind (fX9_mostTogether_L4 4000 a0 a1 ((0 : Int32)) ((-1 : Int32)) h) fun lw16 =>
  some lw16
set_option maxHeartbeats 4000000 in
set_option maxRecDepth 100000 in
theorem lX9_mostTogether_L4 {sc : Nat × (Nat → Int32)} : ∀ (n : Nat) (v0 : Nat) (v1 : Int32) (v2 : Int32) (v3 : Int32) (h : am_H) (w2 : Int32), fX9_mostTogether_L4 n v0 v1 v2 v3 h = some w2 → am_G sc (am_Cl am_T am_N sc 1) (am_at kX9_mostTogether) (fun t => t = ((43, [none, none, some (.int w2), none], []), h)) ((4, [some (.ref v0), some (.int v1), some (.int v2), some (.int v3)], []), h) := by
  intro n
  induction n with
  | zero => intro _ _ _ _ _ _ H; cases H
  | succ n ih =>
    intro v0 v1 v2 v3 h w2 H
    rw [fX9_mostTogether_L4] at H
    refine am_G.fr 2 (g := (6, [some (.ref v0), some (.int v1), some (.int v2), some (.int v3)], [.ref v0, .int v3])) rfl ?_
    obtain ⟨told1, e2, H⟩ := am_bd H
    refine am_G.gR rfl e2 ?_
    obtain ⟨houses3, e4, H⟩ := am_bd H
    refine am_G.gI rfl e4 ?_
    by_cases c5 : houses3 ≤ v3
    · rw [if_pos c5] at H
      refine am_G.br (tgt := 43) rfl rfl (if_pos c5) rfl ?_
      obtain rfl := Option.some.inj H
      refine am_G.fg [none, none, some (.int v2), none] (by simp only [am_sub, and_self]) ?_
      exact am_G.nd rfl
    · rw [if_neg c5] at H
      refine am_G.br (tgt := 15) rfl rfl (if_neg c5) rfl ?_
      refine am_G.fr 3 (g := (18, [some (.ref v0), some (.int v1), some (.int v2), some (.int v3)], [.ref v0, .int v1, .int v2])) rfl ?_
      obtain ⟨ahead6, e7, H⟩ := am_bd H
      refine am_G.gR rfl e7 ?_
      refine am_G.fr 1 (g := (22, [some (.ref v0), some (.int v1), some (.int v2), some (.int v3)], [.ref v0, .ref ahead6, .int v1, .int v2])) rfl ?_
      obtain ⟨told8, e9, H⟩ := am_bd H
      refine am_G.gR rfl e9 ?_
      refine am_G.fr 1 (g := (26, [some (.ref v0), some (.int v1), some (.int v2), some (.int v3)], [.int v3, .ref told8, .ref ahead6, .int v1, .int v2])) rfl ?_
      obtain ⟨x11, e10, H⟩ := am_bd H
      refine am_G.cl [.ref ahead6, .ref told8, .int v3] [.int v1, .int v2] (am_Cl.mono (by decide) (lX6_guests e10)) rfl rfl rfl rfl (Nat.le_of_ble_eq_true rfl) ?_
      refine am_G.fr 1 (g := (30, [some (.ref v0), some (.int v1), some (.int v2), some (.int v3)], [.int (v1 &&& x11), .int v2])) rfl ?_
      obtain ⟨x13, e12, H⟩ := am_bd H
      refine am_G.cl [.int (v1 &&& x11)] [.int v2] (am_Cl.mono (by decide) (lJ6_bitCount_0f7a4 e12)) rfl rfl rfl rfl (Nat.le_of_ble_eq_true rfl) ?_
      obtain ⟨x15, e14, H⟩ := am_bd H
      refine am_G.cl [.int v2, .int x13] [] (am_Cl.mono (by decide) (lJ9_max_7cf53 e14)) rfl rfl rfl rfl (Nat.le_of_ble_eq_true rfl) ?_
      refine am_G.fr 3 (g := (4, [some (.ref v0), some (.int v1), some (.int x15), some (.int (v3 + (1 : Int32)))], [])) rfl ?_
      exact ih _ _ _ _ _ _ H
set_option maxHeartbeats 4000000 in
set_option maxRecDepth 100000 in
theorem lX9_mostTogether {sc : Nat × (Nat → Int32)} {a0 : Nat} {a1 : Int32} {h : am_H} {r : Int32} (H : fX9_mostTogether a0 a1 h = some r) : am_Cl am_T am_N sc 2 112 [.ref a0, .int a1] h (some (.int r)) h := by
  unfold fX9_mostTogether at H
  obtain ⟨_, hO, H⟩ := am_bd H
  obtain ⟨fs0, hO⟩ := am_isO_ok hO
  refine am_mk (q := qX9_mostTogether) rfl (fun _ => ⟨_, _, _, _, _, rfl, hO, rfl, rfl⟩) (fun z => absurd z (by decide)) (Nat.le_of_ble_eq_true rfl) rfl ?_
  show am_G sc (am_Cl am_T am_N sc 1) (am_at kX9_mostTogether) (fun t => t.2 = h ∧ am_ret 1 (am_at kX9_mostTogether) t.1 = some (some (.int r))) ((0, [some (.ref a0), some (.int a1), none, none], []), h)
  refine am_G.fr 4 (g := (4, [some (.ref a0), some (.int a1), some (.int ((0 : Int32))), some (.int ((-1 : Int32)))], [])) rfl ?_
  obtain ⟨lw16, E17, H⟩ := am_bd H
  refine am_G.sq (lX9_mostTogether_L4 _ _ _ _ _ _ _ E17) ?_
  clear E17
  refine am_G.fr 1 (g := (44, [none, none, some (.int lw16), none], [.int lw16])) rfl ?_
  obtain rfl := Option.some.inj H
  exact am_G.nd ⟨rfl, rfl⟩
def fX9_look_L26 : Nat → Nat → Int32 → Int32 → Int32 → Int32 → am_H → Option (Int32 × am_H)
  | 0, _, _, _, _, _, _ => none
  | n + 1, v0, v1, v2, v3, v4, h =>
    if ((24 : Int32)) < v4 then
      some (v2, h)
    else
      (fX9_mostTogether v0 v1 h).bind fun x14 =>
      am_b2 (
        if v3 ≤ x14 then
          some (v2, v3)
        else
          some (v4, x14)) fun jv15 jv16 =>
      (am_gR h v0 8 2).bind fun ahead18 =>
      (am_gR h v0 8 9).bind fun told20 =>
      (fX6_passDate ahead18 told20 h).bind fun hh23 =>
      fX9_look_L26 n v0 v1 jv15 jv16 (v4 + (1 : Int32)) hh23
def fX9_look (a0 : Nat) (h : am_H) : Option (Int32 × am_H) :=
  (am_isO h a0 8).bind fun _ =>
  am_b2 (fX9_who a0 h) fun x2 hh3 =>
  (fJ6_bitCount_0f7a4 x2 hh3).bind fun x5 =>
  (am_gR hh3 a0 8 2).bind fun ahead6 =>
  (am_gR hh3 a0 8 1).bind fun now8 =>
  (fX6_copyFrom ahead6 now8 hh3).bind fun hh11 =>
  am_b2 (fX9_look_L26 4000 a0 x2 ((-1 : Int32)) x5 ((0 : Int32)) hh11) fun lw25 hh26 =>
  some (lw25, hh26)
set_option maxHeartbeats 4000000 in
set_option maxRecDepth 100000 in
theorem lX9_look_L26 {sc : Nat × (Nat → Int32)} : ∀ (n : Nat) (v0 : Nat) (v1 : Int32) (v2 : Int32) (v3 : Int32) (v4 : Int32) (h : am_H) (w2 : Int32) (h1 : am_H), fX9_look_L26 n v0 v1 v2 v3 v4 h = some (w2, h1) → am_G sc (am_Cl am_T am_N sc 5) (am_at kX9_look) (fun t => t = ((69, [none, none, some (.int w2), none, none, none], []), h1)) ((26, [some (.ref v0), some (.int v1), some (.int v2), some (.int v3), some (.int v4), none], []), h) := by
  intro n
  induction n with
  | zero => intro _ _ _ _ _ _ _ _ H; cases H
  | succ n ih =>
    intro v0 v1 v2 v3 v4 h w2 h1 H
    rw [fX9_look_L26] at H
    refine am_G.fr 2 (g := (30, [some (.ref v0), some (.int v1), some (.int v2), some (.int v3), some (.int v4), none], [.int ((24 : Int32)), .int v4])) rfl ?_
    by_cases c12 : ((24 : Int32)) < v4
    · rw [if_pos c12] at H
      refine am_G.br (tgt := 69) rfl rfl (if_pos c12) rfl ?_
      obtain ⟨rfl, rfl⟩ := am_inj2 H
      refine am_G.fg [none, none, some (.int v2), none, none, none] (by simp only [am_sub, and_self]) ?_
      exact am_G.nd rfl
    · rw [if_neg c12] at H
      refine am_G.br (tgt := 33) rfl rfl (if_neg c12) rfl ?_
      refine am_G.fr 2 (g := (35, [some (.ref v0), some (.int v1), some (.int v2), some (.int v3), some (.int v4), none], [.int v1, .ref v0])) rfl ?_
      obtain ⟨x14, e13, H⟩ := am_bd H
      refine am_G.cl [.ref v0, .int v1] [] (am_Cl.mono (by decide) (lX9_mostTogether e13)) rfl rfl rfl rfl (Nat.le_of_ble_eq_true rfl) ?_
      refine am_G.fr 3 (g := (43, [some (.ref v0), some (.int v1), some (.int v2), some (.int v3), some (.int v4), some (.int x14)], [.int v3, .int x14])) rfl ?_
      obtain ⟨jv15, jv16, E24, H⟩ := am_bd2 H
      refine am_G.sq (t := ((52, [some (.ref v0), some (.int v1), some (.int jv15), some (.int jv16), some (.int v4), none], []), h)) ?_ ?_
      · clear H
        have H := E24
        clear E24
        by_cases c17 : v3 ≤ x14
        · rw [if_pos c17] at H
          refine am_G.br (tgt := 52) rfl rfl (if_pos c17) rfl ?_
          obtain ⟨rfl, rfl⟩ := am_inj2 H
          refine am_G.fg [some (.ref v0), some (.int v1), some (.int v2), some (.int v3), some (.int v4), none] (by simp only [am_sub, and_self]) ?_
          exact am_G.nd rfl
        · rw [if_neg c17] at H
          refine am_G.br (tgt := 46) rfl rfl (if_neg c17) rfl ?_
          refine am_G.fr 4 (g := (52, [some (.ref v0), some (.int v1), some (.int v4), some (.int x14), some (.int v4), some (.int x14)], [])) rfl ?_
          obtain ⟨rfl, rfl⟩ := am_inj2 H
          refine am_G.fg [some (.ref v0), some (.int v1), some (.int v4), some (.int x14), some (.int v4), none] (by simp only [am_sub, and_self]) ?_
          exact am_G.nd rfl
      · clear E24
        refine am_G.fr 1 (g := (53, [some (.ref v0), some (.int v1), some (.int jv15), some (.int jv16), some (.int v4), none], [.ref v0])) rfl ?_
        obtain ⟨ahead18, e19, H⟩ := am_bd H
        refine am_G.gR rfl e19 ?_
        refine am_G.fr 1 (g := (57, [some (.ref v0), some (.int v1), some (.int jv15), some (.int jv16), some (.int v4), none], [.ref v0, .ref ahead18])) rfl ?_
        obtain ⟨told20, e21, H⟩ := am_bd H
        refine am_G.gR rfl e21 ?_
        obtain ⟨hh23, e22, H⟩ := am_bd H
        refine am_G.cl [.ref ahead18, .ref told20] [] (am_Cl.mono (by decide) (lX6_passDate e22)) rfl rfl rfl rfl (Nat.le_of_ble_eq_true rfl) ?_
        refine am_G.fr 2 (g := (26, [some (.ref v0), some (.int v1), some (.int jv15), some (.int jv16), some (.int (v4 + (1 : Int32))), none], [])) rfl ?_
        exact ih _ _ _ _ _ _ _ _ H
set_option maxHeartbeats 4000000 in
set_option maxRecDepth 100000 in
theorem lX9_look {sc : Nat × (Nat → Int32)} {a0 : Nat} {h : am_H} {r : Int32} {h1 : am_H} (H : fX9_look a0 h = some (r, h1)) : am_Cl am_T am_N sc 6 111 [.ref a0] h (some (.int r)) h1 := by
  unfold fX9_look at H
  obtain ⟨_, hO, H⟩ := am_bd H
  obtain ⟨fs0, hO⟩ := am_isO_ok hO
  refine am_mk (q := qX9_look) rfl (fun _ => ⟨_, _, _, _, _, rfl, hO, rfl, rfl⟩) (fun z => absurd z (by decide)) (Nat.le_of_ble_eq_true rfl) rfl ?_
  show am_G sc (am_Cl am_T am_N sc 5) (am_at kX9_look) (fun t => t.2 = h1 ∧ am_ret 1 (am_at kX9_look) t.1 = some (some (.int r))) ((0, [some (.ref a0), none, none, none, none, none], []), h)
  refine am_G.fr 1 (g := (1, [some (.ref a0), none, none, none, none, none], [.ref a0])) rfl ?_
  obtain ⟨x2, hh3, e1, H⟩ := am_bd2 H
  refine am_G.cl [.ref a0] [] (am_Cl.mono (by decide) (lX9_who e1)) rfl rfl rfl rfl (Nat.le_of_ble_eq_true rfl) ?_
  refine am_G.fr 4 (g := (8, [some (.ref a0), some (.int x2), some (.int ((-1 : Int32))), none, none, none], [.int x2])) rfl ?_
  obtain ⟨x5, e4, H⟩ := am_bd H
  refine am_G.cl [.int x2] [] (am_Cl.mono (by decide) (lJ6_bitCount_0f7a4 e4)) rfl rfl rfl rfl (Nat.le_of_ble_eq_true rfl) ?_
  refine am_G.fr 2 (g := (13, [some (.ref a0), some (.int x2), some (.int ((-1 : Int32))), some (.int x5), none, none], [.ref a0])) rfl ?_
  obtain ⟨ahead6, e7, H⟩ := am_bd H
  refine am_G.gR rfl e7 ?_
  refine am_G.fr 1 (g := (17, [some (.ref a0), some (.int x2), some (.int ((-1 : Int32))), some (.int x5), none, none], [.ref a0, .ref ahead6])) rfl ?_
  obtain ⟨now8, e9, H⟩ := am_bd H
  refine am_G.gR rfl e9 ?_
  obtain ⟨hh11, e10, H⟩ := am_bd H
  refine am_G.cl [.ref ahead6, .ref now8] [] (am_Cl.mono (by decide) (lX6_copyFrom e10)) rfl rfl rfl rfl (Nat.le_of_ble_eq_true rfl) ?_
  refine am_G.fr 2 (g := (26, [some (.ref a0), some (.int x2), some (.int ((-1 : Int32))), some (.int x5), some (.int ((0 : Int32))), none], [])) rfl ?_
  obtain ⟨lw25, hh26, E27, H⟩ := am_bd2 H
  refine am_G.sq (lX9_look_L26 _ _ _ _ _ _ _ _ _ E27) ?_
  clear E27
  refine am_G.fr 1 (g := (70, [none, none, some (.int lw25), none, none, none], [.int lw25])) rfl ?_
  obtain ⟨rfl, rfl⟩ := am_inj2 H
  exact am_G.nd ⟨rfl, rfl⟩
def fX9_lendersOf_L4 : Nat → Nat → Int32 → Int32 → Int32 → am_H → Option (Int32)
  | 0, _, _, _, _, _ => none
  | n + 1, v0, v1, v2, v3, h =>
    (am_gR h v0 8 9).bind fun told1 =>
    (am_gI h told1 7 11).bind fun houses3 =>
    if houses3 ≤ v3 then
      some v2
    else
      (fX9_has v1 v3 h).bind fun x7 =>
      Option.bind (
        if x7 = 0 then
          some v2
        else
          (am_gR h v0 8 9).bind fun told10 =>
          (am_gR h told10 7 2).bind fun lenders12 =>
          (am_aI h 0 lenders12 v3).bind fun x14 =>
          some (v2 ||| x14)) fun jv8 =>
      fX9_lendersOf_L4 n v0 v1 jv8 (v3 + (1 : Int32)) h
def fX9_lendersOf (a0 : Nat) (a1 : Int32) (h : am_H) : Option (Int32) :=
  (am_isO h a0 8).bind fun _ =>
  Option.bind (fX9_lendersOf_L4 4000 a0 a1 ((0 : Int32)) ((0 : Int32)) h) fun lw17 =>
  some lw17
set_option maxHeartbeats 4000000 in
set_option maxRecDepth 100000 in
theorem lX9_lendersOf_L4 {sc : Nat × (Nat → Int32)} : ∀ (n : Nat) (v0 : Nat) (v1 : Int32) (v2 : Int32) (v3 : Int32) (h : am_H) (w2 : Int32), fX9_lendersOf_L4 n v0 v1 v2 v3 h = some w2 → am_G sc (am_Cl am_T am_N sc 1) (am_at kX9_lendersOf) (fun t => t = ((41, [none, none, some (.int w2), none], []), h)) ((4, [some (.ref v0), some (.int v1), some (.int v2), some (.int v3)], []), h) := by
  intro n
  induction n with
  | zero => intro _ _ _ _ _ _ H; cases H
  | succ n ih =>
    intro v0 v1 v2 v3 h w2 H
    rw [fX9_lendersOf_L4] at H
    refine am_G.fr 2 (g := (6, [some (.ref v0), some (.int v1), some (.int v2), some (.int v3)], [.ref v0, .int v3])) rfl ?_
    obtain ⟨told1, e2, H⟩ := am_bd H
    refine am_G.gR rfl e2 ?_
    obtain ⟨houses3, e4, H⟩ := am_bd H
    refine am_G.gI rfl e4 ?_
    by_cases c5 : houses3 ≤ v3
    · rw [if_pos c5] at H
      refine am_G.br (tgt := 41) rfl rfl (if_pos c5) rfl ?_
      obtain rfl := Option.some.inj H
      refine am_G.fg [none, none, some (.int v2), none] (by simp only [am_sub, and_self]) ?_
      exact am_G.nd rfl
    · rw [if_neg c5] at H
      refine am_G.br (tgt := 15) rfl rfl (if_neg c5) rfl ?_
      refine am_G.fr 2 (g := (17, [some (.ref v0), some (.int v1), some (.int v2), some (.int v3)], [.int v3, .int v1])) rfl ?_
      obtain ⟨x7, e6, H⟩ := am_bd H
      refine am_G.cl [.int v1, .int v3] [] (am_Cl.mono (by decide) (lX9_has e6)) rfl rfl rfl rfl (Nat.le_of_ble_eq_true rfl) ?_
      obtain ⟨jv8, E16, H⟩ := am_bd H
      refine am_G.sq (t := ((35, [some (.ref v0), some (.int v1), some (.int jv8), some (.int v3)], []), h)) ?_ ?_
      · clear H
        have H := E16
        clear E16
        by_cases c9 : x7 = 0
        · rw [if_pos c9] at H
          refine am_G.br (tgt := 35) rfl rfl (if_pos c9) rfl ?_
          obtain rfl := Option.some.inj H
          exact am_G.nd rfl
        · rw [if_neg c9] at H
          refine am_G.br (tgt := 23) rfl rfl (if_neg c9) rfl ?_
          refine am_G.fr 2 (g := (25, [some (.ref v0), some (.int v1), some (.int v2), some (.int v3)], [.ref v0, .int v2])) rfl ?_
          obtain ⟨told10, e11, H⟩ := am_bd H
          refine am_G.gR rfl e11 ?_
          obtain ⟨lenders12, e13, H⟩ := am_bd H
          refine am_G.gR rfl e13 ?_
          refine am_G.fr 1 (g := (32, [some (.ref v0), some (.int v1), some (.int v2), some (.int v3)], [.int v3, .ref lenders12, .int v2])) rfl ?_
          obtain ⟨x14, e15, H⟩ := am_bd H
          refine am_G.aI rfl e15 ?_
          refine am_G.fr 2 (g := (35, [some (.ref v0), some (.int v1), some (.int (v2 ||| x14)), some (.int v3)], [])) rfl ?_
          obtain rfl := Option.some.inj H
          exact am_G.nd rfl
      · clear E16
        refine am_G.fr 2 (g := (4, [some (.ref v0), some (.int v1), some (.int jv8), some (.int (v3 + (1 : Int32)))], [])) rfl ?_
        exact ih _ _ _ _ _ _ H
set_option maxHeartbeats 4000000 in
set_option maxRecDepth 100000 in
theorem lX9_lendersOf {sc : Nat × (Nat → Int32)} {a0 : Nat} {a1 : Int32} {h : am_H} {r : Int32} (H : fX9_lendersOf a0 a1 h = some r) : am_Cl am_T am_N sc 2 114 [.ref a0, .int a1] h (some (.int r)) h := by
  unfold fX9_lendersOf at H
  obtain ⟨_, hO, H⟩ := am_bd H
  obtain ⟨fs0, hO⟩ := am_isO_ok hO
  refine am_mk (q := qX9_lendersOf) rfl (fun _ => ⟨_, _, _, _, _, rfl, hO, rfl, rfl⟩) (fun z => absurd z (by decide)) (Nat.le_of_ble_eq_true rfl) rfl ?_
  show am_G sc (am_Cl am_T am_N sc 1) (am_at kX9_lendersOf) (fun t => t.2 = h ∧ am_ret 1 (am_at kX9_lendersOf) t.1 = some (some (.int r))) ((0, [some (.ref a0), some (.int a1), none, none], []), h)
  refine am_G.fr 4 (g := (4, [some (.ref a0), some (.int a1), some (.int ((0 : Int32))), some (.int ((0 : Int32)))], [])) rfl ?_
  obtain ⟨lw17, E18, H⟩ := am_bd H
  refine am_G.sq (lX9_lendersOf_L4 _ _ _ _ _ _ _ E18) ?_
  clear E18
  refine am_G.fr 1 (g := (42, [none, none, some (.int lw17), none], [.int lw17])) rfl ?_
  obtain rfl := Option.some.inj H
  exact am_G.nd ⟨rfl, rfl⟩
def fX9_through_L25 : Nat → Nat → Int32 → Int32 → Int32 → am_H → Option ((Unit) ⊕ (Int32))
  | 0, _, _, _, _, _ => none
  | n + 1, v0, v2, v3, v4, h =>
    (am_gR h v0 8 9).bind fun told7 =>
    (am_gI h told7 7 11).bind fun houses9 =>
    if houses9 ≤ v4 then
      some (.inl ())
    else
      (fX9_has v3 v2 h).bind fun x13 =>
      if x13 = 0 then
        (fX9_lendersOf v0 v3 h).bind fun x16 =>
        fX9_through_L25 n v0 v2 (v3 ||| x16) (v4 + (1 : Int32)) h
      else
        some (.inr v4)
def fX9_through (a0 : Nat) (a1 : Int32) (a2 : Int32) (h : am_H) : Option (Int32) :=
  (am_isO h a0 8).bind fun _ =>
  (fX9_isHouse a0 a1 h).bind fun x2 =>
  if x2 = 0 then
    some ((-1 : Int32))
  else
    (fX9_isHouse a0 a2 h).bind fun x5 =>
    if ¬ x5 = 0 then
      (fX9_through_L25 4000 a0 a2 (((1 : Int32)) <<< (a1 &&& 31)) ((0 : Int32)) h).bind fun o18 => match o18 with
        | .inl _ =>
          some ((-1 : Int32))
        | .inr y19 => some y19
    else
      some ((-1 : Int32))
set_option maxHeartbeats 4000000 in
set_option maxRecDepth 100000 in
theorem lX9_through_L25 {sc : Nat × (Nat → Int32)} : ∀ (n : Nat) (v0 : Nat) (v2 : Int32) (v3 : Int32) (v4 : Int32) (h : am_H) (o : (Unit) ⊕ (Int32)), fX9_through_L25 n v0 v2 v3 v4 h = some o → am_G sc (am_Cl am_T am_N sc 2) (am_at kX9_through) (fun t => match o with
    | .inl _ => t = ((62, [none, none, none, none, none], []), h)
    | .inr y => t.2 = h ∧ am_ret 1 (am_at kX9_through) t.1 = some (some (.int y))) ((25, [some (.ref v0), none, some (.int v2), some (.int v3), some (.int v4)], []), h) := by
  intro n
  induction n with
  | zero => intro _ _ _ _ _ _ H; cases H
  | succ n ih =>
    intro v0 v2 v3 v4 h o H
    rw [fX9_through_L25] at H
    refine am_G.fr 2 (g := (28, [some (.ref v0), none, some (.int v2), some (.int v3), some (.int v4)], [.ref v0, .int v4])) rfl ?_
    obtain ⟨told7, e8, H⟩ := am_bd H
    refine am_G.gR rfl e8 ?_
    obtain ⟨houses9, e10, H⟩ := am_bd H
    refine am_G.gI rfl e10 ?_
    by_cases c11 : houses9 ≤ v4
    · rw [if_pos c11] at H
      refine am_G.br (tgt := 62) rfl rfl (if_pos c11) rfl ?_
      obtain rfl := Option.some.inj H
      refine am_G.fg [none, none, none, none, none] (by simp only [am_sub, and_self]) ?_
      exact am_G.nd rfl
    · rw [if_neg c11] at H
      refine am_G.br (tgt := 37) rfl rfl (if_neg c11) rfl ?_
      refine am_G.fr 2 (g := (39, [some (.ref v0), none, some (.int v2), some (.int v3), some (.int v4)], [.int v2, .int v3])) rfl ?_
      obtain ⟨x13, e12, H⟩ := am_bd H
      refine am_G.cl [.int v3, .int v2] [] (am_Cl.mono (by decide) (lX9_has e12)) rfl rfl rfl rfl (Nat.le_of_ble_eq_true rfl) ?_
      by_cases c14 : x13 = 0
      · rw [if_pos c14] at H
        refine am_G.br (tgt := 48) rfl rfl (if_pos c14) rfl ?_
        refine am_G.fr 3 (g := (51, [some (.ref v0), none, some (.int v2), some (.int v3), some (.int v4)], [.int v3, .ref v0, .int v3])) rfl ?_
        obtain ⟨x16, e15, H⟩ := am_bd H
        refine am_G.cl [.ref v0, .int v3] [.int v3] (am_Cl.mono (by decide) (lX9_lendersOf e15)) rfl rfl rfl rfl (Nat.le_of_ble_eq_true rfl) ?_
        refine am_G.fr 4 (g := (25, [some (.ref v0), none, some (.int v2), some (.int (v3 ||| x16)), some (.int (v4 + (1 : Int32)))], [])) rfl ?_
        exact ih _ _ _ _ _ _ H
      · rw [if_neg c14] at H
        refine am_G.br (tgt := 45) rfl rfl (if_neg c14) rfl ?_
        refine am_G.fr 1 (g := (47, [some (.ref v0), none, some (.int v2), some (.int v3), some (.int v4)], [.int v4])) rfl ?_
        obtain rfl := Option.some.inj H
        exact am_G.nd ⟨rfl, rfl⟩
set_option maxHeartbeats 4000000 in
set_option maxRecDepth 100000 in
theorem lX9_through {sc : Nat × (Nat → Int32)} {a0 : Nat} {a1 : Int32} {a2 : Int32} {h : am_H} {r : Int32} (H : fX9_through a0 a1 a2 h = some r) : am_Cl am_T am_N sc 3 113 [.ref a0, .int a1, .int a2] h (some (.int r)) h := by
  unfold fX9_through at H
  obtain ⟨_, hO, H⟩ := am_bd H
  obtain ⟨fs0, hO⟩ := am_isO_ok hO
  refine am_mk (q := qX9_through) rfl (fun _ => ⟨_, _, _, _, _, rfl, hO, rfl, rfl⟩) (fun z => absurd z (by decide)) (Nat.le_of_ble_eq_true rfl) rfl ?_
  show am_G sc (am_Cl am_T am_N sc 2) (am_at kX9_through) (fun t => t.2 = h ∧ am_ret 1 (am_at kX9_through) t.1 = some (some (.int r))) ((0, [some (.ref a0), some (.int a1), some (.int a2), none, none], []), h)
  refine am_G.fr 2 (g := (2, [some (.ref a0), some (.int a1), some (.int a2), none, none], [.int a1, .ref a0])) rfl ?_
  obtain ⟨x2, e1, H⟩ := am_bd H
  refine am_G.cl [.ref a0, .int a1] [] (am_Cl.mono (by decide) (lX9_isHouse e1)) rfl rfl rfl rfl (Nat.le_of_ble_eq_true rfl) ?_
  by_cases c3 : x2 = 0
  · rw [if_pos c3] at H
    refine am_G.br (tgt := 16) rfl rfl (if_pos c3) rfl ?_
    refine am_G.fr 1 (g := (17, [some (.ref a0), some (.int a1), some (.int a2), none, none], [.int ((-1 : Int32))])) rfl ?_
    obtain rfl := Option.some.inj H
    exact am_G.nd ⟨rfl, rfl⟩
  · rw [if_neg c3] at H
    refine am_G.br (tgt := 8) rfl rfl (if_neg c3) rfl ?_
    refine am_G.fr 2 (g := (10, [some (.ref a0), some (.int a1), some (.int a2), none, none], [.int a2, .ref a0])) rfl ?_
    obtain ⟨x5, e4, H⟩ := am_bd H
    refine am_G.cl [.ref a0, .int a2] [] (am_Cl.mono (by decide) (lX9_isHouse e4)) rfl rfl rfl rfl (Nat.le_of_ble_eq_true rfl) ?_
    by_cases c6 : ¬ x5 = 0
    · rw [if_pos c6] at H
      refine am_G.br (tgt := 18) rfl rfl (if_pos c6) rfl ?_
      refine am_G.fr 6 (g := (25, [some (.ref a0), some (.int a1), some (.int a2), some (.int (((1 : Int32)) <<< (a1 &&& 31))), some (.int ((0 : Int32)))], [])) rfl ?_
      obtain ⟨o18, E17, H⟩ := am_bd H
      refine am_G.fg [some (.ref a0), none, some (.int a2), some (.int (((1 : Int32)) <<< (a1 &&& 31))), some (.int ((0 : Int32)))] (by simp only [am_sub, and_self]) ?_
      have hL := lX9_through_L25 (sc := sc) _ _ _ _ _ _ _ E17
      clear E17
      rcases o18 with _ | y19
      · dsimp only at H
        refine am_G.sq hL ?_
        refine am_G.fr 1 (g := (63, [none, none, none, none, none], [.int ((-1 : Int32))])) rfl ?_
        obtain rfl := Option.some.inj H
        exact am_G.nd ⟨rfl, rfl⟩
      · dsimp only at H
        obtain rfl := Option.some.inj H
        exact hL
    · rw [if_neg c6] at H
      refine am_G.br (tgt := 16) rfl rfl (if_neg c6) rfl ?_
      refine am_G.fr 1 (g := (17, [some (.ref a0), some (.int a1), some (.int a2), none, none], [.int ((-1 : Int32))])) rfl ?_
      obtain rfl := Option.some.inj H
      exact am_G.nd ⟨rfl, rfl⟩
def fX9_quiet_L4 : Nat → Nat → Int32 → Int32 → am_H → Option (Int32)
  | 0, _, _, _, _ => none
  | n + 1, v0, v1, v2, h =>
    (am_gR h v0 8 9).bind fun told1 =>
    (am_gI h told1 7 12).bind fun days3 =>
    if days3 ≤ v2 then
      some v1
    else
      Option.bind (
        if v1 = ((-1 : Int32)) then
          some v2
        else
          (am_gR h v0 8 1).bind fun now8 =>
          (am_gR h now8 5 2).bind fun says10 =>
          (am_aI h 0 says10 v2).bind fun x12 =>
          (am_gR h v0 8 1).bind fun now14 =>
          (am_gR h now14 5 2).bind fun says16 =>
          (am_aI h 0 says16 v1).bind fun x18 =>
          if x18 ≤ x12 then
            some v1
          else
            some v2) fun jv6 =>
      fX9_quiet_L4 n v0 jv6 (v2 + (1 : Int32)) h
def fX9_quiet (a0 : Nat) (h : am_H) : Option (Int32) :=
  (am_isO h a0 8).bind fun _ =>
  Option.bind (fX9_quiet_L4 4000 a0 ((-1 : Int32)) ((0 : Int32)) h) fun lw22 =>
  some lw22
set_option maxHeartbeats 4000000 in
set_option maxRecDepth 100000 in
theorem lX9_quiet_L4 {sc : Nat × (Nat → Int32)} : ∀ (n : Nat) (v0 : Nat) (v1 : Int32) (v2 : Int32) (h : am_H) (w1 : Int32), fX9_quiet_L4 n v0 v1 v2 h = some w1 → am_G sc (am_Cl am_T am_N sc 0) (am_at kX9_quiet) (fun t => t = ((49, [none, some (.int w1), none], []), h)) ((4, [some (.ref v0), some (.int v1), some (.int v2)], []), h) := by
  intro n
  induction n with
  | zero => intro _ _ _ _ _ H; cases H
  | succ n ih =>
    intro v0 v1 v2 h w1 H
    rw [fX9_quiet_L4] at H
    refine am_G.fr 2 (g := (6, [some (.ref v0), some (.int v1), some (.int v2)], [.ref v0, .int v2])) rfl ?_
    obtain ⟨told1, e2, H⟩ := am_bd H
    refine am_G.gR rfl e2 ?_
    obtain ⟨days3, e4, H⟩ := am_bd H
    refine am_G.gI rfl e4 ?_
    by_cases c5 : days3 ≤ v2
    · rw [if_pos c5] at H
      refine am_G.br (tgt := 49) rfl rfl (if_pos c5) rfl ?_
      obtain rfl := Option.some.inj H
      refine am_G.fg [none, some (.int v1), none] (by simp only [am_sub, and_self]) ?_
      exact am_G.nd rfl
    · rw [if_neg c5] at H
      refine am_G.br (tgt := 15) rfl rfl (if_neg c5) rfl ?_
      refine am_G.fr 2 (g := (17, [some (.ref v0), some (.int v1), some (.int v2)], [.int ((-1 : Int32)), .int v1])) rfl ?_
      obtain ⟨jv6, E21, H⟩ := am_bd H
      refine am_G.sq (t := ((43, [some (.ref v0), some (.int jv6), some (.int v2)], []), h)) ?_ ?_
      · clear H
        have H := E21
        clear E21
        by_cases c7 : v1 = ((-1 : Int32))
        · rw [if_pos c7] at H
          refine am_G.br (tgt := 41) rfl rfl (if_pos c7) rfl ?_
          refine am_G.fr 2 (g := (43, [some (.ref v0), some (.int v2), some (.int v2)], [])) rfl ?_
          obtain rfl := Option.some.inj H
          exact am_G.nd rfl
        · rw [if_neg c7] at H
          refine am_G.br (tgt := 20) rfl rfl (if_neg c7) rfl ?_
          refine am_G.fr 1 (g := (21, [some (.ref v0), some (.int v1), some (.int v2)], [.ref v0])) rfl ?_
          obtain ⟨now8, e9, H⟩ := am_bd H
          refine am_G.gR rfl e9 ?_
          obtain ⟨says10, e11, H⟩ := am_bd H
          refine am_G.gR rfl e11 ?_
          refine am_G.fr 1 (g := (28, [some (.ref v0), some (.int v1), some (.int v2)], [.int v2, .ref says10])) rfl ?_
          obtain ⟨x12, e13, H⟩ := am_bd H
          refine am_G.aI rfl e13 ?_
          refine am_G.fr 1 (g := (30, [some (.ref v0), some (.int v1), some (.int v2)], [.ref v0, .int x12])) rfl ?_
          obtain ⟨now14, e15, H⟩ := am_bd H
          refine am_G.gR rfl e15 ?_
          obtain ⟨says16, e17, H⟩ := am_bd H
          refine am_G.gR rfl e17 ?_
          refine am_G.fr 1 (g := (37, [some (.ref v0), some (.int v1), some (.int v2)], [.int v1, .ref says16, .int x12])) rfl ?_
          obtain ⟨x18, e19, H⟩ := am_bd H
          refine am_G.aI rfl e19 ?_
          by_cases c20 : x18 ≤ x12
          · rw [if_pos c20] at H
            refine am_G.br (tgt := 43) rfl rfl (if_pos c20) rfl ?_
            obtain rfl := Option.some.inj H
            exact am_G.nd rfl
          · rw [if_neg c20] at H
            refine am_G.br (tgt := 41) rfl rfl (if_neg c20) rfl ?_
            refine am_G.fr 2 (g := (43, [some (.ref v0), some (.int v2), some (.int v2)], [])) rfl ?_
            obtain rfl := Option.some.inj H
            exact am_G.nd rfl
      · clear E21
        refine am_G.fr 2 (g := (4, [some (.ref v0), some (.int jv6), some (.int (v2 + (1 : Int32)))], [])) rfl ?_
        exact ih _ _ _ _ _ H
set_option maxHeartbeats 4000000 in
set_option maxRecDepth 100000 in
theorem lX9_quiet {sc : Nat × (Nat → Int32)} {a0 : Nat} {h : am_H} {r : Int32} (H : fX9_quiet a0 h = some r) : am_Cl am_T am_N sc 1 115 [.ref a0] h (some (.int r)) h := by
  unfold fX9_quiet at H
  obtain ⟨_, hO, H⟩ := am_bd H
  obtain ⟨fs0, hO⟩ := am_isO_ok hO
  refine am_mk (q := qX9_quiet) rfl (fun _ => ⟨_, _, _, _, _, rfl, hO, rfl, rfl⟩) (fun z => absurd z (by decide)) (Nat.le_of_ble_eq_true rfl) rfl ?_
  show am_G sc (am_Cl am_T am_N sc 0) (am_at kX9_quiet) (fun t => t.2 = h ∧ am_ret 1 (am_at kX9_quiet) t.1 = some (some (.int r))) ((0, [some (.ref a0), none, none], []), h)
  refine am_G.fr 4 (g := (4, [some (.ref a0), some (.int ((-1 : Int32))), some (.int ((0 : Int32)))], [])) rfl ?_
  obtain ⟨lw22, E23, H⟩ := am_bd H
  refine am_G.sq (lX9_quiet_L4 _ _ _ _ _ _ E23) ?_
  clear E23
  refine am_G.fr 1 (g := (50, [none, some (.int lw22), none], [.int lw22])) rfl ?_
  obtain rfl := Option.some.inj H
  exact am_G.nd ⟨rfl, rfl⟩
def fX9_peace_L4 : Nat → Nat → Int32 → Int32 → am_H → Option (Int32)
  | 0, _, _, _, _ => none
  | n + 1, v0, v1, v2, h =>
    (am_gR h v0 8 9).bind fun told1 =>
    (am_gI h told1 7 11).bind fun houses3 =>
    if houses3 ≤ v2 then
      some v1
    else
      (am_gR h v0 8 1).bind fun now6 =>
      (am_gR h v0 8 9).bind fun told8 =>
      (fX6_guests now6 told8 v2 h).bind fun x11 =>
      (fJ6_bitCount_0f7a4 x11 h).bind fun x13 =>
      (am_dv (x13 * (x13 - ((1 : Int32)))) ((2 : Int32))).bind fun q14 =>
      fX9_peace_L4 n v0 (v1 + q14) (v2 + (1 : Int32)) h
def fX9_peace (a0 : Nat) (h : am_H) : Option (Int32) :=
  (am_isO h a0 8).bind fun _ =>
  Option.bind (fX9_peace_L4 4000 a0 ((0 : Int32)) ((0 : Int32)) h) fun lw16 =>
  some lw16
set_option maxHeartbeats 4000000 in
set_option maxRecDepth 100000 in
theorem lX9_peace_L4 {sc : Nat × (Nat → Int32)} : ∀ (n : Nat) (v0 : Nat) (v1 : Int32) (v2 : Int32) (h : am_H) (w1 : Int32), fX9_peace_L4 n v0 v1 v2 h = some w1 → am_G sc (am_Cl am_T am_N sc 1) (am_at kX9_peace) (fun t => t = ((47, [none, some (.int w1), none, none], []), h)) ((4, [some (.ref v0), some (.int v1), some (.int v2), none], []), h) := by
  intro n
  induction n with
  | zero => intro _ _ _ _ _ H; cases H
  | succ n ih =>
    intro v0 v1 v2 h w1 H
    rw [fX9_peace_L4] at H
    refine am_G.fr 2 (g := (6, [some (.ref v0), some (.int v1), some (.int v2), none], [.ref v0, .int v2])) rfl ?_
    obtain ⟨told1, e2, H⟩ := am_bd H
    refine am_G.gR rfl e2 ?_
    obtain ⟨houses3, e4, H⟩ := am_bd H
    refine am_G.gI rfl e4 ?_
    by_cases c5 : houses3 ≤ v2
    · rw [if_pos c5] at H
      refine am_G.br (tgt := 47) rfl rfl (if_pos c5) rfl ?_
      obtain rfl := Option.some.inj H
      refine am_G.fg [none, some (.int v1), none, none] (by simp only [am_sub, and_self]) ?_
      exact am_G.nd rfl
    · rw [if_neg c5] at H
      refine am_G.br (tgt := 15) rfl rfl (if_neg c5) rfl ?_
      refine am_G.fr 1 (g := (16, [some (.ref v0), some (.int v1), some (.int v2), none], [.ref v0])) rfl ?_
      obtain ⟨now6, e7, H⟩ := am_bd H
      refine am_G.gR rfl e7 ?_
      refine am_G.fr 1 (g := (20, [some (.ref v0), some (.int v1), some (.int v2), none], [.ref v0, .ref now6])) rfl ?_
      obtain ⟨told8, e9, H⟩ := am_bd H
      refine am_G.gR rfl e9 ?_
      refine am_G.fr 1 (g := (24, [some (.ref v0), some (.int v1), some (.int v2), none], [.int v2, .ref told8, .ref now6])) rfl ?_
      obtain ⟨x11, e10, H⟩ := am_bd H
      refine am_G.cl [.ref now6, .ref told8, .int v2] [] (am_Cl.mono (by decide) (lX6_guests e10)) rfl rfl rfl rfl (Nat.le_of_ble_eq_true rfl) ?_
      obtain ⟨x13, e12, H⟩ := am_bd H
      refine am_G.cl [.int x11] [] (am_Cl.mono (by decide) (lJ6_bitCount_0f7a4 e12)) rfl rfl rfl rfl (Nat.le_of_ble_eq_true rfl) ?_
      refine am_G.fr 8 (g := (38, [some (.ref v0), some (.int v1), some (.int v2), some (.int x13)], [.int ((2 : Int32)), .int (x13 * (x13 - ((1 : Int32)))), .int v1])) rfl ?_
      obtain ⟨q14, e15, H⟩ := am_bd H
      refine am_G.dv rfl e15 ?_
      refine am_G.fr 4 (g := (4, [some (.ref v0), some (.int (v1 + q14)), some (.int (v2 + (1 : Int32))), some (.int x13)], [])) rfl ?_
      refine am_G.fg [some (.ref v0), some (.int (v1 + q14)), some (.int (v2 + (1 : Int32))), none] (by simp only [am_sub, and_self]) ?_
      exact ih _ _ _ _ _ H
set_option maxHeartbeats 4000000 in
set_option maxRecDepth 100000 in
theorem lX9_peace {sc : Nat × (Nat → Int32)} {a0 : Nat} {h : am_H} {r : Int32} (H : fX9_peace a0 h = some r) : am_Cl am_T am_N sc 2 116 [.ref a0] h (some (.int r)) h := by
  unfold fX9_peace at H
  obtain ⟨_, hO, H⟩ := am_bd H
  obtain ⟨fs0, hO⟩ := am_isO_ok hO
  refine am_mk (q := qX9_peace) rfl (fun _ => ⟨_, _, _, _, _, rfl, hO, rfl, rfl⟩) (fun z => absurd z (by decide)) (Nat.le_of_ble_eq_true rfl) rfl ?_
  show am_G sc (am_Cl am_T am_N sc 1) (am_at kX9_peace) (fun t => t.2 = h ∧ am_ret 1 (am_at kX9_peace) t.1 = some (some (.int r))) ((0, [some (.ref a0), none, none, none], []), h)
  refine am_G.fr 4 (g := (4, [some (.ref a0), some (.int ((0 : Int32))), some (.int ((0 : Int32))), none], [])) rfl ?_
  obtain ⟨lw16, E17, H⟩ := am_bd H
  refine am_G.sq (lX9_peace_L4 _ _ _ _ _ _ E17) ?_
  clear E17
  refine am_G.fr 1 (g := (48, [none, some (.int lw16), none, none], [.int lw16])) rfl ?_
  obtain rfl := Option.some.inj H
  exact am_G.nd ⟨rfl, rfl⟩
def fX9_loudest_L6 : Nat → Nat → Int32 → Int32 → Int32 → am_H → Option (Int32)
  | 0, _, _, _, _, _ => none
  | n + 1, v0, v1, v2, v3, h =>
    (am_gR h v0 8 9).bind fun told1 =>
    (am_gI h told1 7 11).bind fun houses3 =>
    if houses3 ≤ v3 then
      some v1
    else
      (am_gR h v0 8 1).bind fun now6 =>
      (am_gR h v0 8 9).bind fun told8 =>
      (fX6_talk now6 told8 v3 h).bind fun x11 =>
      am_b2 (
        if x11 ≤ v2 then
          some (v1, v2)
        else
          some (v3, x11)) fun jv12 jv13 =>
      fX9_loudest_L6 n v0 jv12 jv13 (v3 + (1 : Int32)) h
def fX9_loudest (a0 : Nat) (h : am_H) : Option (Int32) :=
  (am_isO h a0 8).bind fun _ =>
  Option.bind (fX9_loudest_L6 4000 a0 ((-1 : Int32)) ((0 : Int32)) ((0 : Int32)) h) fun lw16 =>
  some lw16
set_option maxHeartbeats 4000000 in
set_option maxRecDepth 100000 in
theorem lX9_loudest_L6 {sc : Nat × (Nat → Int32)} : ∀ (n : Nat) (v0 : Nat) (v1 : Int32) (v2 : Int32) (v3 : Int32) (h : am_H) (w1 : Int32), fX9_loudest_L6 n v0 v1 v2 v3 h = some w1 → am_G sc (am_Cl am_T am_N sc 1) (am_at kX9_loudest) (fun t => t = ((48, [none, some (.int w1), none, none, none], []), h)) ((6, [some (.ref v0), some (.int v1), some (.int v2), some (.int v3), none], []), h) := by
  intro n
  induction n with
  | zero => intro _ _ _ _ _ _ H; cases H
  | succ n ih =>
    intro v0 v1 v2 v3 h w1 H
    rw [fX9_loudest_L6] at H
    refine am_G.fr 2 (g := (8, [some (.ref v0), some (.int v1), some (.int v2), some (.int v3), none], [.ref v0, .int v3])) rfl ?_
    obtain ⟨told1, e2, H⟩ := am_bd H
    refine am_G.gR rfl e2 ?_
    obtain ⟨houses3, e4, H⟩ := am_bd H
    refine am_G.gI rfl e4 ?_
    by_cases c5 : houses3 ≤ v3
    · rw [if_pos c5] at H
      refine am_G.br (tgt := 48) rfl rfl (if_pos c5) rfl ?_
      obtain rfl := Option.some.inj H
      refine am_G.fg [none, some (.int v1), none, none, none] (by simp only [am_sub, and_self]) ?_
      exact am_G.nd rfl
    · rw [if_neg c5] at H
      refine am_G.br (tgt := 17) rfl rfl (if_neg c5) rfl ?_
      refine am_G.fr 1 (g := (18, [some (.ref v0), some (.int v1), some (.int v2), some (.int v3), none], [.ref v0])) rfl ?_
      obtain ⟨now6, e7, H⟩ := am_bd H
      refine am_G.gR rfl e7 ?_
      refine am_G.fr 1 (g := (22, [some (.ref v0), some (.int v1), some (.int v2), some (.int v3), none], [.ref v0, .ref now6])) rfl ?_
      obtain ⟨told8, e9, H⟩ := am_bd H
      refine am_G.gR rfl e9 ?_
      refine am_G.fr 1 (g := (26, [some (.ref v0), some (.int v1), some (.int v2), some (.int v3), none], [.int v3, .ref told8, .ref now6])) rfl ?_
      obtain ⟨x11, e10, H⟩ := am_bd H
      refine am_G.cl [.ref now6, .ref told8, .int v3] [] (am_Cl.mono (by decide) (lX6_talk e10)) rfl rfl rfl rfl (Nat.le_of_ble_eq_true rfl) ?_
      refine am_G.fr 3 (g := (34, [some (.ref v0), some (.int v1), some (.int v2), some (.int v3), some (.int x11)], [.int v2, .int x11])) rfl ?_
      obtain ⟨jv12, jv13, E15, H⟩ := am_bd2 H
      refine am_G.sq (t := ((42, [some (.ref v0), some (.int jv12), some (.int jv13), some (.int v3), none], []), h)) ?_ ?_
      · clear H
        have H := E15
        clear E15
        by_cases c14 : x11 ≤ v2
        · rw [if_pos c14] at H
          refine am_G.br (tgt := 42) rfl rfl (if_pos c14) rfl ?_
          obtain ⟨rfl, rfl⟩ := am_inj2 H
          refine am_G.fg [some (.ref v0), some (.int v1), some (.int v2), some (.int v3), none] (by simp only [am_sub, and_self]) ?_
          exact am_G.nd rfl
        · rw [if_neg c14] at H
          refine am_G.br (tgt := 37) rfl rfl (if_neg c14) rfl ?_
          refine am_G.fr 4 (g := (42, [some (.ref v0), some (.int v3), some (.int x11), some (.int v3), some (.int x11)], [])) rfl ?_
          obtain ⟨rfl, rfl⟩ := am_inj2 H
          refine am_G.fg [some (.ref v0), some (.int v3), some (.int x11), some (.int v3), none] (by simp only [am_sub, and_self]) ?_
          exact am_G.nd rfl
      · clear E15
        refine am_G.fr 2 (g := (6, [some (.ref v0), some (.int jv12), some (.int jv13), some (.int (v3 + (1 : Int32))), none], [])) rfl ?_
        exact ih _ _ _ _ _ _ H
set_option maxHeartbeats 4000000 in
set_option maxRecDepth 100000 in
theorem lX9_loudest {sc : Nat × (Nat → Int32)} {a0 : Nat} {h : am_H} {r : Int32} (H : fX9_loudest a0 h = some r) : am_Cl am_T am_N sc 2 117 [.ref a0] h (some (.int r)) h := by
  unfold fX9_loudest at H
  obtain ⟨_, hO, H⟩ := am_bd H
  obtain ⟨fs0, hO⟩ := am_isO_ok hO
  refine am_mk (q := qX9_loudest) rfl (fun _ => ⟨_, _, _, _, _, rfl, hO, rfl, rfl⟩) (fun z => absurd z (by decide)) (Nat.le_of_ble_eq_true rfl) rfl ?_
  show am_G sc (am_Cl am_T am_N sc 1) (am_at kX9_loudest) (fun t => t.2 = h ∧ am_ret 1 (am_at kX9_loudest) t.1 = some (some (.int r))) ((0, [some (.ref a0), none, none, none, none], []), h)
  refine am_G.fr 6 (g := (6, [some (.ref a0), some (.int ((-1 : Int32))), some (.int ((0 : Int32))), some (.int ((0 : Int32))), none], [])) rfl ?_
  obtain ⟨lw16, E17, H⟩ := am_bd H
  refine am_G.sq (lX9_loudest_L6 _ _ _ _ _ _ _ E17) ?_
  clear E17
  refine am_G.fr 1 (g := (49, [none, some (.int lw16), none, none, none], [.int lw16])) rfl ?_
  obtain rfl := Option.some.inj H
  exact am_G.nd ⟨rfl, rfl⟩
def fX9_eldest_L14 : Nat → Nat → Int32 → Int32 → Int32 → am_H → Option (Int32)
  | 0, _, _, _, _, _ => none
  | n + 1, v0, v1, v2, v3, h =>
    (am_gR h v0 8 9).bind fun told4 =>
    (am_gI h told4 7 12).bind fun days6 =>
    if days6 ≤ v3 then
      some v2
    else
      (am_gR h v0 8 1).bind fun now9 =>
      (am_gR h now9 5 3).bind fun at11 =>
      (am_aI h 0 at11 v3).bind fun x13 =>
      Option.bind (
        if ¬ x13 = v1 then
          some v2
        else
          if v2 = ((-1 : Int32)) then
            some v3
          else
            (am_gR h v0 8 1).bind fun now18 =>
            (am_gR h now18 5 4).bind fun been20 =>
            (am_aI h 0 been20 v3).bind fun x22 =>
            (am_gR h v0 8 1).bind fun now24 =>
            (am_gR h now24 5 4).bind fun been26 =>
            (am_aI h 0 been26 v2).bind fun x28 =>
            if x22 ≤ x28 then
              some v2
            else
              some v3) fun jv15 =>
      fX9_eldest_L14 n v0 v1 jv15 (v3 + (1 : Int32)) h
def fX9_eldest (a0 : Nat) (a1 : Int32) (h : am_H) : Option (Int32) :=
  (am_isO h a0 8).bind fun _ =>
  (fX9_isHouse a0 a1 h).bind fun x2 =>
  if ¬ x2 = 0 then
    Option.bind (fX9_eldest_L14 4000 a0 a1 ((-1 : Int32)) ((0 : Int32)) h) fun lw32 =>
    some lw32
  else
    some ((-1 : Int32))
set_option maxHeartbeats 4000000 in
set_option maxRecDepth 100000 in
theorem lX9_eldest_L14 {sc : Nat × (Nat → Int32)} : ∀ (n : Nat) (v0 : Nat) (v1 : Int32) (v2 : Int32) (v3 : Int32) (h : am_H) (w2 : Int32), fX9_eldest_L14 n v0 v1 v2 v3 h = some w2 → am_G sc (am_Cl am_T am_N sc 2) (am_at kX9_eldest) (fun t => t = ((72, [none, none, some (.int w2), none], []), h)) ((14, [some (.ref v0), some (.int v1), some (.int v2), some (.int v3)], []), h) := by
  intro n
  induction n with
  | zero => intro _ _ _ _ _ _ H; cases H
  | succ n ih =>
    intro v0 v1 v2 v3 h w2 H
    rw [fX9_eldest_L14] at H
    refine am_G.fr 2 (g := (16, [some (.ref v0), some (.int v1), some (.int v2), some (.int v3)], [.ref v0, .int v3])) rfl ?_
    obtain ⟨told4, e5, H⟩ := am_bd H
    refine am_G.gR rfl e5 ?_
    obtain ⟨days6, e7, H⟩ := am_bd H
    refine am_G.gI rfl e7 ?_
    by_cases c8 : days6 ≤ v3
    · rw [if_pos c8] at H
      refine am_G.br (tgt := 72) rfl rfl (if_pos c8) rfl ?_
      obtain rfl := Option.some.inj H
      refine am_G.fg [none, none, some (.int v2), none] (by simp only [am_sub, and_self]) ?_
      exact am_G.nd rfl
    · rw [if_neg c8] at H
      refine am_G.br (tgt := 25) rfl rfl (if_neg c8) rfl ?_
      refine am_G.fr 1 (g := (26, [some (.ref v0), some (.int v1), some (.int v2), some (.int v3)], [.ref v0])) rfl ?_
      obtain ⟨now9, e10, H⟩ := am_bd H
      refine am_G.gR rfl e10 ?_
      obtain ⟨at11, e12, H⟩ := am_bd H
      refine am_G.gR rfl e12 ?_
      refine am_G.fr 1 (g := (33, [some (.ref v0), some (.int v1), some (.int v2), some (.int v3)], [.int v3, .ref at11])) rfl ?_
      obtain ⟨x13, e14, H⟩ := am_bd H
      refine am_G.aI rfl e14 ?_
      refine am_G.fr 1 (g := (35, [some (.ref v0), some (.int v1), some (.int v2), some (.int v3)], [.int v1, .int x13])) rfl ?_
      obtain ⟨jv15, E31, H⟩ := am_bd H
      refine am_G.sq (t := ((66, [some (.ref v0), some (.int v1), some (.int jv15), some (.int v3)], []), h)) ?_ ?_
      · clear H
        have H := E31
        clear E31
        by_cases c16 : ¬ x13 = v1
        · rw [if_pos c16] at H
          refine am_G.br (tgt := 66) rfl rfl (if_pos c16) rfl ?_
          obtain rfl := Option.some.inj H
          exact am_G.nd rfl
        · rw [if_neg c16] at H
          refine am_G.br (tgt := 38) rfl rfl (if_neg c16) rfl ?_
          refine am_G.fr 2 (g := (40, [some (.ref v0), some (.int v1), some (.int v2), some (.int v3)], [.int ((-1 : Int32)), .int v2])) rfl ?_
          by_cases c17 : v2 = ((-1 : Int32))
          · rw [if_pos c17] at H
            refine am_G.br (tgt := 64) rfl rfl (if_pos c17) rfl ?_
            refine am_G.fr 2 (g := (66, [some (.ref v0), some (.int v1), some (.int v3), some (.int v3)], [])) rfl ?_
            obtain rfl := Option.some.inj H
            exact am_G.nd rfl
          · rw [if_neg c17] at H
            refine am_G.br (tgt := 43) rfl rfl (if_neg c17) rfl ?_
            refine am_G.fr 1 (g := (44, [some (.ref v0), some (.int v1), some (.int v2), some (.int v3)], [.ref v0])) rfl ?_
            obtain ⟨now18, e19, H⟩ := am_bd H
            refine am_G.gR rfl e19 ?_
            obtain ⟨been20, e21, H⟩ := am_bd H
            refine am_G.gR rfl e21 ?_
            refine am_G.fr 1 (g := (51, [some (.ref v0), some (.int v1), some (.int v2), some (.int v3)], [.int v3, .ref been20])) rfl ?_
            obtain ⟨x22, e23, H⟩ := am_bd H
            refine am_G.aI rfl e23 ?_
            refine am_G.fr 1 (g := (53, [some (.ref v0), some (.int v1), some (.int v2), some (.int v3)], [.ref v0, .int x22])) rfl ?_
            obtain ⟨now24, e25, H⟩ := am_bd H
            refine am_G.gR rfl e25 ?_
            obtain ⟨been26, e27, H⟩ := am_bd H
            refine am_G.gR rfl e27 ?_
            refine am_G.fr 1 (g := (60, [some (.ref v0), some (.int v1), some (.int v2), some (.int v3)], [.int v2, .ref been26, .int x22])) rfl ?_
            obtain ⟨x28, e29, H⟩ := am_bd H
            refine am_G.aI rfl e29 ?_
            by_cases c30 : x22 ≤ x28
            · rw [if_pos c30] at H
              refine am_G.br (tgt := 66) rfl rfl (if_pos c30) rfl ?_
              obtain rfl := Option.some.inj H
              exact am_G.nd rfl
            · rw [if_neg c30] at H
              refine am_G.br (tgt := 64) rfl rfl (if_neg c30) rfl ?_
              refine am_G.fr 2 (g := (66, [some (.ref v0), some (.int v1), some (.int v3), some (.int v3)], [])) rfl ?_
              obtain rfl := Option.some.inj H
              exact am_G.nd rfl
      · clear E31
        refine am_G.fr 2 (g := (14, [some (.ref v0), some (.int v1), some (.int jv15), some (.int (v3 + (1 : Int32)))], [])) rfl ?_
        exact ih _ _ _ _ _ _ H
set_option maxHeartbeats 4000000 in
set_option maxRecDepth 100000 in
theorem lX9_eldest {sc : Nat × (Nat → Int32)} {a0 : Nat} {a1 : Int32} {h : am_H} {r : Int32} (H : fX9_eldest a0 a1 h = some r) : am_Cl am_T am_N sc 3 118 [.ref a0, .int a1] h (some (.int r)) h := by
  unfold fX9_eldest at H
  obtain ⟨_, hO, H⟩ := am_bd H
  obtain ⟨fs0, hO⟩ := am_isO_ok hO
  refine am_mk (q := qX9_eldest) rfl (fun _ => ⟨_, _, _, _, _, rfl, hO, rfl, rfl⟩) (fun z => absurd z (by decide)) (Nat.le_of_ble_eq_true rfl) rfl ?_
  show am_G sc (am_Cl am_T am_N sc 2) (am_at kX9_eldest) (fun t => t.2 = h ∧ am_ret 1 (am_at kX9_eldest) t.1 = some (some (.int r))) ((0, [some (.ref a0), some (.int a1), none, none], []), h)
  refine am_G.fr 2 (g := (2, [some (.ref a0), some (.int a1), none, none], [.int a1, .ref a0])) rfl ?_
  obtain ⟨x2, e1, H⟩ := am_bd H
  refine am_G.cl [.ref a0, .int a1] [] (am_Cl.mono (by decide) (lX9_isHouse e1)) rfl rfl rfl rfl (Nat.le_of_ble_eq_true rfl) ?_
  by_cases c3 : ¬ x2 = 0
  · rw [if_pos c3] at H
    refine am_G.br (tgt := 10) rfl rfl (if_pos c3) rfl ?_
    refine am_G.fr 4 (g := (14, [some (.ref a0), some (.int a1), some (.int ((-1 : Int32))), some (.int ((0 : Int32)))], [])) rfl ?_
    obtain ⟨lw32, E33, H⟩ := am_bd H
    refine am_G.sq (lX9_eldest_L14 _ _ _ _ _ _ _ E33) ?_
    clear E33
    refine am_G.fr 1 (g := (73, [none, none, some (.int lw32), none], [.int lw32])) rfl ?_
    obtain rfl := Option.some.inj H
    exact am_G.nd ⟨rfl, rfl⟩
  · rw [if_neg c3] at H
    refine am_G.br (tgt := 8) rfl rfl (if_neg c3) rfl ?_
    refine am_G.fr 1 (g := (9, [some (.ref a0), some (.int a1), none, none], [.int ((-1 : Int32))])) rfl ?_
    obtain rfl := Option.some.inj H
    exact am_G.nd ⟨rfl, rfl⟩
def fX9_spare_L4 : Nat → Nat → Int32 → Int32 → am_H → Option (Int32 × am_H)
  | 0, _, _, _, _ => none
  | n + 1, v0, v1, v2, h =>
    (am_gR h v0 8 9).bind fun told1 =>
    (am_gI h told1 7 11).bind fun houses3 =>
    if houses3 ≤ v2 then
      some (v1, h)
    else
      (am_gR h v0 8 1).bind fun now6 =>
      (am_gR h now6 5 0).bind fun beds8 =>
      (am_aI h 0 beds8 v2).bind fun x10 =>
      am_b2 (
        if x10 ≤ ((1 : Int32)) then
          some (v1, h)
        else
          (am_gR h v0 8 2).bind fun ahead15 =>
          (am_gR h v0 8 1).bind fun now17 =>
          (fX6_copyFrom ahead15 now17 h).bind fun hh20 =>
          (am_gR hh20 v0 8 2).bind fun ahead21 =>
          (am_gR hh20 ahead21 5 0).bind fun beds23 =>
          (am_aI hh20 0 beds23 v2).bind fun x25 =>
          (am_sI hh20 0 beds23 v2 (x25 - ((1 : Int32)))).bind fun hh27 =>
          am_b2 (fX9_noneTurnedOff v0 ((24 : Int32)) hh27) fun x30 hh31 =>
          if x30 = 0 then
            some (v1, hh31)
          else
            some (v1 ||| (((1 : Int32)) <<< (v2 &&& 31)), hh31)) fun jv12 hh13 =>
      fX9_spare_L4 n v0 jv12 (v2 + (1 : Int32)) hh13
def fX9_spare (a0 : Nat) (h : am_H) : Option (Int32 × am_H) :=
  (am_isO h a0 8).bind fun _ =>
  am_b2 (fX9_spare_L4 4000 a0 ((0 : Int32)) ((0 : Int32)) h) fun lw34 hh35 =>
  some (lw34, hh35)
set_option maxHeartbeats 4000000 in
set_option maxRecDepth 100000 in
theorem lX9_spare_L4 {sc : Nat × (Nat → Int32)} : ∀ (n : Nat) (v0 : Nat) (v1 : Int32) (v2 : Int32) (h : am_H) (w1 : Int32) (h1 : am_H), fX9_spare_L4 n v0 v1 v2 h = some (w1, h1) → am_G sc (am_Cl am_T am_N sc 5) (am_at kX9_spare) (fun t => t = ((73, [none, some (.int w1), none], []), h1)) ((4, [some (.ref v0), some (.int v1), some (.int v2)], []), h) := by
  intro n
  induction n with
  | zero => intro _ _ _ _ _ _ H; cases H
  | succ n ih =>
    intro v0 v1 v2 h w1 h1 H
    rw [fX9_spare_L4] at H
    refine am_G.fr 2 (g := (6, [some (.ref v0), some (.int v1), some (.int v2)], [.ref v0, .int v2])) rfl ?_
    obtain ⟨told1, e2, H⟩ := am_bd H
    refine am_G.gR rfl e2 ?_
    obtain ⟨houses3, e4, H⟩ := am_bd H
    refine am_G.gI rfl e4 ?_
    by_cases c5 : houses3 ≤ v2
    · rw [if_pos c5] at H
      refine am_G.br (tgt := 73) rfl rfl (if_pos c5) rfl ?_
      obtain ⟨rfl, rfl⟩ := am_inj2 H
      refine am_G.fg [none, some (.int v1), none] (by simp only [am_sub, and_self]) ?_
      exact am_G.nd rfl
    · rw [if_neg c5] at H
      refine am_G.br (tgt := 15) rfl rfl (if_neg c5) rfl ?_
      refine am_G.fr 1 (g := (16, [some (.ref v0), some (.int v1), some (.int v2)], [.ref v0])) rfl ?_
      obtain ⟨now6, e7, H⟩ := am_bd H
      refine am_G.gR rfl e7 ?_
      obtain ⟨beds8, e9, H⟩ := am_bd H
      refine am_G.gR rfl e9 ?_
      refine am_G.fr 1 (g := (23, [some (.ref v0), some (.int v1), some (.int v2)], [.int v2, .ref beds8])) rfl ?_
      obtain ⟨x10, e11, H⟩ := am_bd H
      refine am_G.aI rfl e11 ?_
      refine am_G.fr 1 (g := (25, [some (.ref v0), some (.int v1), some (.int v2)], [.int ((1 : Int32)), .int x10])) rfl ?_
      obtain ⟨jv12, hh13, E33, H⟩ := am_bd2 H
      refine am_G.sq (t := ((67, [some (.ref v0), some (.int jv12), some (.int v2)], []), hh13)) ?_ ?_
      · clear H
        have H := E33
        clear E33
        by_cases c14 : x10 ≤ ((1 : Int32))
        · rw [if_pos c14] at H
          refine am_G.br (tgt := 67) rfl rfl (if_pos c14) rfl ?_
          obtain ⟨rfl, rfl⟩ := am_inj2 H
          exact am_G.nd rfl
        · rw [if_neg c14] at H
          refine am_G.br (tgt := 28) rfl rfl (if_neg c14) rfl ?_
          refine am_G.fr 1 (g := (29, [some (.ref v0), some (.int v1), some (.int v2)], [.ref v0])) rfl ?_
          obtain ⟨ahead15, e16, H⟩ := am_bd H
          refine am_G.gR rfl e16 ?_
          refine am_G.fr 1 (g := (33, [some (.ref v0), some (.int v1), some (.int v2)], [.ref v0, .ref ahead15])) rfl ?_
          obtain ⟨now17, e18, H⟩ := am_bd H
          refine am_G.gR rfl e18 ?_
          obtain ⟨hh20, e19, H⟩ := am_bd H
          refine am_G.cl [.ref ahead15, .ref now17] [] (am_Cl.mono (by decide) (lX6_copyFrom e19)) rfl rfl rfl rfl (Nat.le_of_ble_eq_true rfl) ?_
          refine am_G.fr 1 (g := (40, [some (.ref v0), some (.int v1), some (.int v2)], [.ref v0])) rfl ?_
          obtain ⟨ahead21, e22, H⟩ := am_bd H
          refine am_G.gR rfl e22 ?_
          obtain ⟨beds23, e24, H⟩ := am_bd H
          refine am_G.gR rfl e24 ?_
          refine am_G.fr 2 (g := (48, [some (.ref v0), some (.int v1), some (.int v2)], [.int v2, .ref beds23, .int v2, .ref beds23])) rfl ?_
          obtain ⟨x25, e26, H⟩ := am_bd H
          refine am_G.aI rfl e26 ?_
          refine am_G.fr 2 (g := (51, [some (.ref v0), some (.int v1), some (.int v2)], [.int (x25 - ((1 : Int32))), .int v2, .ref beds23])) rfl ?_
          obtain ⟨hh27, e28, H⟩ := am_bd H
          refine am_G.sI rfl e28 ?_
          refine am_G.fr 2 (g := (55, [some (.ref v0), some (.int v1), some (.int v2)], [.int ((24 : Int32)), .ref v0])) rfl ?_
          obtain ⟨x30, hh31, e29, H⟩ := am_bd2 H
          refine am_G.cl [.ref v0, .int ((24 : Int32))] [] (am_Cl.mono (by decide) (lX9_noneTurnedOff e29)) rfl rfl rfl rfl (Nat.le_of_ble_eq_true rfl) ?_
          by_cases c32 : x30 = 0
          · rw [if_pos c32] at H
            refine am_G.br (tgt := 67) rfl rfl (if_pos c32) rfl ?_
            obtain ⟨rfl, rfl⟩ := am_inj2 H
            exact am_G.nd rfl
          · rw [if_neg c32] at H
            refine am_G.br (tgt := 61) rfl rfl (if_neg c32) rfl ?_
            refine am_G.fr 6 (g := (67, [some (.ref v0), some (.int (v1 ||| (((1 : Int32)) <<< (v2 &&& 31)))), some (.int v2)], [])) rfl ?_
            obtain ⟨rfl, rfl⟩ := am_inj2 H
            exact am_G.nd rfl
      · clear E33
        refine am_G.fr 2 (g := (4, [some (.ref v0), some (.int jv12), some (.int (v2 + (1 : Int32)))], [])) rfl ?_
        exact ih _ _ _ _ _ _ H
set_option maxHeartbeats 4000000 in
set_option maxRecDepth 100000 in
theorem lX9_spare {sc : Nat × (Nat → Int32)} {a0 : Nat} {h : am_H} {r : Int32} {h1 : am_H} (H : fX9_spare a0 h = some (r, h1)) : am_Cl am_T am_N sc 6 119 [.ref a0] h (some (.int r)) h1 := by
  unfold fX9_spare at H
  obtain ⟨_, hO, H⟩ := am_bd H
  obtain ⟨fs0, hO⟩ := am_isO_ok hO
  refine am_mk (q := qX9_spare) rfl (fun _ => ⟨_, _, _, _, _, rfl, hO, rfl, rfl⟩) (fun z => absurd z (by decide)) (Nat.le_of_ble_eq_true rfl) rfl ?_
  show am_G sc (am_Cl am_T am_N sc 5) (am_at kX9_spare) (fun t => t.2 = h1 ∧ am_ret 1 (am_at kX9_spare) t.1 = some (some (.int r))) ((0, [some (.ref a0), none, none], []), h)
  refine am_G.fr 4 (g := (4, [some (.ref a0), some (.int ((0 : Int32))), some (.int ((0 : Int32)))], [])) rfl ?_
  obtain ⟨lw34, hh35, E36, H⟩ := am_bd2 H
  refine am_G.sq (lX9_spare_L4 _ _ _ _ _ _ _ E36) ?_
  clear E36
  refine am_G.fr 1 (g := (74, [none, some (.int lw34), none], [.int lw34])) rfl ?_
  obtain ⟨rfl, rfl⟩ := am_inj2 H
  exact am_G.nd ⟨rfl, rfl⟩
def fX9_isTurnedOffBy_L14 : Nat → Nat → Int32 → Int32 → Int32 → Int32 → am_H → Option ((am_H) ⊕ (Int32 × am_H))
  | 0, _, _, _, _, _, _ => none
  | n + 1, v0, v1, v2, v3, v4, h =>
    if v3 ≤ v4 then
      some (.inl h)
    else
      (fX9_has v1 v4 h).bind fun x9 =>
      Option.bind (
        if x9 = 0 then
          some h
        else
          (am_gR h v0 8 2).bind fun ahead12 =>
          (fX6_flood ahead12 h).bind fun hh15 =>
          some hh15) fun hh10 =>
      (am_gR hh10 v0 8 2).bind fun ahead16 =>
      (am_gR hh10 v0 8 9).bind fun told18 =>
      (fX6_passDate ahead16 told18 hh10).bind fun hh21 =>
      (am_gR hh21 v0 8 2).bind fun ahead22 =>
      (am_gI hh21 ahead22 5 10).bind fun off24 =>
      (fX9_has off24 v2 hh21).bind fun x27 =>
      if x27 = 0 then
        fX9_isTurnedOffBy_L14 n v0 v1 v2 v3 (v4 + (1 : Int32)) hh21
      else
        some (.inr ((1 : Int32), hh21))
def fX9_isTurnedOffBy (a0 : Nat) (a1 : Int32) (a2 : Int32) (a3 : Int32) (h : am_H) : Option (Int32 × am_H) :=
  (am_isO h a0 8).bind fun _ =>
  (am_gR h a0 8 2).bind fun ahead1 =>
  (am_gR h a0 8 1).bind fun now3 =>
  (fX6_copyFrom ahead1 now3 h).bind fun hh6 =>
  (fX9_isTurnedOffBy_L14 4000 a0 a1 a2 a3 ((0 : Int32)) hh6).bind fun o32 => match o32 with
    | .inl hh30 =>
      some ((0 : Int32), hh30)
    | .inr y33 => some y33
set_option maxHeartbeats 4000000 in
set_option maxRecDepth 100000 in
theorem lX9_isTurnedOffBy_L14 {sc : Nat × (Nat → Int32)} : ∀ (n : Nat) (v0 : Nat) (v1 : Int32) (v2 : Int32) (v3 : Int32) (v4 : Int32) (h : am_H) (o : (am_H) ⊕ (Int32 × am_H)), fX9_isTurnedOffBy_L14 n v0 v1 v2 v3 v4 h = some o → am_G sc (am_Cl am_T am_N sc 4) (am_at kX9_isTurnedOffBy) (fun t => match o with
    | .inl h1 => t = ((69, [none, none, none, none, none], []), h1)
    | .inr y => t.2 = y.2 ∧ am_ret 2 (am_at kX9_isTurnedOffBy) t.1 = some (some (.int y.1))) ((14, [some (.ref v0), some (.int v1), some (.int v2), some (.int v3), some (.int v4)], []), h) := by
  intro n
  induction n with
  | zero => intro _ _ _ _ _ _ _ H; cases H
  | succ n ih =>
    intro v0 v1 v2 v3 v4 h o H
    rw [fX9_isTurnedOffBy_L14] at H
    refine am_G.fr 2 (g := (17, [some (.ref v0), some (.int v1), some (.int v2), some (.int v3), some (.int v4)], [.int v3, .int v4])) rfl ?_
    by_cases c7 : v3 ≤ v4
    · rw [if_pos c7] at H
      refine am_G.br (tgt := 69) rfl rfl (if_pos c7) rfl ?_
      obtain rfl := Option.some.inj H
      refine am_G.fg [none, none, none, none, none] (by simp only [am_sub, and_self]) ?_
      exact am_G.nd rfl
    · rw [if_neg c7] at H
      refine am_G.br (tgt := 20) rfl rfl (if_neg c7) rfl ?_
      refine am_G.fr 2 (g := (23, [some (.ref v0), some (.int v1), some (.int v2), some (.int v3), some (.int v4)], [.int v4, .int v1])) rfl ?_
      obtain ⟨x9, e8, H⟩ := am_bd H
      refine am_G.cl [.int v1, .int v4] [] (am_Cl.mono (by decide) (lX9_has e8)) rfl rfl rfl rfl (Nat.le_of_ble_eq_true rfl) ?_
      obtain ⟨hh10, E29, H⟩ := am_bd H
      refine am_G.sq (t := ((36, [some (.ref v0), some (.int v1), some (.int v2), some (.int v3), some (.int v4)], []), hh10)) ?_ ?_
      · clear H
        have H := E29
        clear E29
        by_cases c11 : x9 = 0
        · rw [if_pos c11] at H
          refine am_G.br (tgt := 36) rfl rfl (if_pos c11) rfl ?_
          obtain rfl := Option.some.inj H
          exact am_G.nd rfl
        · rw [if_neg c11] at H
          refine am_G.br (tgt := 29) rfl rfl (if_neg c11) rfl ?_
          refine am_G.fr 1 (g := (30, [some (.ref v0), some (.int v1), some (.int v2), some (.int v3), some (.int v4)], [.ref v0])) rfl ?_
          obtain ⟨ahead12, e13, H⟩ := am_bd H
          refine am_G.gR rfl e13 ?_
          obtain ⟨hh15, e14, H⟩ := am_bd H
          refine am_G.cl [.ref ahead12] [] (am_Cl.mono (by decide) (lX6_flood e14)) rfl rfl rfl rfl (Nat.le_of_ble_eq_true rfl) ?_
          obtain rfl := Option.some.inj H
          exact am_G.nd rfl
      · clear E29
        refine am_G.fr 1 (g := (37, [some (.ref v0), some (.int v1), some (.int v2), some (.int v3), some (.int v4)], [.ref v0])) rfl ?_
        obtain ⟨ahead16, e17, H⟩ := am_bd H
        refine am_G.gR rfl e17 ?_
        refine am_G.fr 1 (g := (41, [some (.ref v0), some (.int v1), some (.int v2), some (.int v3), some (.int v4)], [.ref v0, .ref ahead16])) rfl ?_
        obtain ⟨told18, e19, H⟩ := am_bd H
        refine am_G.gR rfl e19 ?_
        obtain ⟨hh21, e20, H⟩ := am_bd H
        refine am_G.cl [.ref ahead16, .ref told18] [] (am_Cl.mono (by decide) (lX6_passDate e20)) rfl rfl rfl rfl (Nat.le_of_ble_eq_true rfl) ?_
        refine am_G.fr 1 (g := (48, [some (.ref v0), some (.int v1), some (.int v2), some (.int v3), some (.int v4)], [.ref v0])) rfl ?_
        obtain ⟨ahead22, e23, H⟩ := am_bd H
        refine am_G.gR rfl e23 ?_
        obtain ⟨off24, e25, H⟩ := am_bd H
        refine am_G.gI rfl e25 ?_
        refine am_G.fr 1 (g := (55, [some (.ref v0), some (.int v1), some (.int v2), some (.int v3), some (.int v4)], [.int v2, .int off24])) rfl ?_
        obtain ⟨x27, e26, H⟩ := am_bd H
        refine am_G.cl [.int off24, .int v2] [] (am_Cl.mono (by decide) (lX9_has e26)) rfl rfl rfl rfl (Nat.le_of_ble_eq_true rfl) ?_
        by_cases c28 : x27 = 0
        · rw [if_pos c28] at H
          refine am_G.br (tgt := 63) rfl rfl (if_pos c28) rfl ?_
          refine am_G.fr 2 (g := (14, [some (.ref v0), some (.int v1), some (.int v2), some (.int v3), some (.int (v4 + (1 : Int32)))], [])) rfl ?_
          exact ih _ _ _ _ _ _ _ H
        · rw [if_neg c28] at H
          refine am_G.br (tgt := 61) rfl rfl (if_neg c28) rfl ?_
          refine am_G.fr 1 (g := (62, [some (.ref v0), some (.int v1), some (.int v2), some (.int v3), some (.int v4)], [.int ((1 : Int32))])) rfl ?_
          obtain rfl := Option.some.inj H
          exact am_G.nd ⟨rfl, am_ret2 rfl (if_pos (by decide))⟩
set_option maxHeartbeats 4000000 in
set_option maxRecDepth 100000 in
theorem lX9_isTurnedOffBy {sc : Nat × (Nat → Int32)} {a0 : Nat} {a1 : Int32} {a2 : Int32} {a3 : Int32} {h : am_H} {r : Int32} {h1 : am_H} (H : fX9_isTurnedOffBy a0 a1 a2 a3 h = some (r, h1)) : am_Cl am_T am_N sc 5 122 [.ref a0, .int a1, .int a2, .int a3] h (some (.int r)) h1 := by
  unfold fX9_isTurnedOffBy at H
  obtain ⟨_, hO, H⟩ := am_bd H
  obtain ⟨fs0, hO⟩ := am_isO_ok hO
  refine am_mk (q := qX9_isTurnedOffBy) rfl (fun _ => ⟨_, _, _, _, _, rfl, hO, rfl, rfl⟩) (fun z => absurd z (by decide)) (Nat.le_of_ble_eq_true rfl) rfl ?_
  show am_G sc (am_Cl am_T am_N sc 4) (am_at kX9_isTurnedOffBy) (fun t => t.2 = h1 ∧ am_ret 2 (am_at kX9_isTurnedOffBy) t.1 = some (some (.int r))) ((0, [some (.ref a0), some (.int a1), some (.int a2), some (.int a3), none], []), h)
  refine am_G.fr 1 (g := (1, [some (.ref a0), some (.int a1), some (.int a2), some (.int a3), none], [.ref a0])) rfl ?_
  obtain ⟨ahead1, e2, H⟩ := am_bd H
  refine am_G.gR rfl e2 ?_
  refine am_G.fr 1 (g := (5, [some (.ref a0), some (.int a1), some (.int a2), some (.int a3), none], [.ref a0, .ref ahead1])) rfl ?_
  obtain ⟨now3, e4, H⟩ := am_bd H
  refine am_G.gR rfl e4 ?_
  obtain ⟨hh6, e5, H⟩ := am_bd H
  refine am_G.cl [.ref ahead1, .ref now3] [] (am_Cl.mono (by decide) (lX6_copyFrom e5)) rfl rfl rfl rfl (Nat.le_of_ble_eq_true rfl) ?_
  refine am_G.fr 2 (g := (14, [some (.ref a0), some (.int a1), some (.int a2), some (.int a3), some (.int ((0 : Int32)))], [])) rfl ?_
  obtain ⟨o32, E31, H⟩ := am_bd H
  have hL := lX9_isTurnedOffBy_L14 (sc := sc) _ _ _ _ _ _ _ _ E31
  clear E31
  rcases o32 with hh30 | y33
  · dsimp only at H
    refine am_G.sq hL ?_
    refine am_G.fr 1 (g := (70, [none, none, none, none, none], [.int ((0 : Int32))])) rfl ?_
    obtain ⟨rfl, rfl⟩ := am_inj2 H
    exact am_G.nd ⟨rfl, am_ret2 rfl (if_pos (by decide))⟩
  · dsimp only at H
    obtain rfl := Option.some.inj H
    exact hL
def fX9_weightOf_L5 : Nat → Int32 → Int32 → Int32 → Int32 → Int32 → am_H → Option (Int32)
  | 0, _, _, _, _, _, _ => none
  | n + 1, v0, v1, v2, v3, v4, h =>
    if ((6 : Int32)) ≤ v4 then
      some v3
    else
      Option.bind (
        if v4 < v1 then
          (fX9_has v0 v4 h).bind fun x5 =>
          Option.bind (
            if x5 = 0 then
              some (((10 : Int32)) - v2)
            else
              some v2) fun js6 =>
          some (v3 * js6)
        else
          some (v3 * ((10 : Int32)))) fun jv2 =>
      fX9_weightOf_L5 n v0 v1 v2 jv2 (v4 + (1 : Int32)) h
def fX9_weightOf (a0 : Int32) (a1 : Int32) (a2 : Int32) (h : am_H) : Option (Int32) :=
  Option.bind (fX9_weightOf_L5 4000 a0 a1 a2 ((1 : Int32)) ((0 : Int32)) h) fun lw10 =>
  some lw10
set_option maxHeartbeats 4000000 in
set_option maxRecDepth 100000 in
theorem lX9_weightOf_L5 {sc : Nat × (Nat → Int32)} : ∀ (n : Nat) (v0 : Int32) (v1 : Int32) (v2 : Int32) (v3 : Int32) (v4 : Int32) (h : am_H) (w3 : Int32), fX9_weightOf_L5 n v0 v1 v2 v3 v4 h = some w3 → am_G sc (am_Cl am_T am_N sc 1) (am_at kX9_weightOf) (fun t => t = ((52, [none, none, none, some (.int w3), none], []), h)) ((5, [some (.int v0), some (.int v1), some (.int v2), some (.int v3), some (.int v4)], []), h) := by
  intro n
  induction n with
  | zero => intro _ _ _ _ _ _ _ H; cases H
  | succ n ih =>
    intro v0 v1 v2 v3 v4 h w3 H
    rw [fX9_weightOf_L5] at H
    refine am_G.fr 2 (g := (9, [some (.int v0), some (.int v1), some (.int v2), some (.int v3), some (.int v4)], [.int ((6 : Int32)), .int v4])) rfl ?_
    by_cases c1 : ((6 : Int32)) ≤ v4
    · rw [if_pos c1] at H
      refine am_G.br (tgt := 52) rfl rfl (if_pos c1) rfl ?_
      obtain rfl := Option.some.inj H
      refine am_G.fg [none, none, none, some (.int v3), none] (by simp only [am_sub, and_self]) ?_
      exact am_G.nd rfl
    · rw [if_neg c1] at H
      refine am_G.br (tgt := 12) rfl rfl (if_neg c1) rfl ?_
      refine am_G.fr 2 (g := (15, [some (.int v0), some (.int v1), some (.int v2), some (.int v3), some (.int v4)], [.int v1, .int v4])) rfl ?_
      obtain ⟨jv2, E9, H⟩ := am_bd H
      refine am_G.sq (t := ((46, [some (.int v0), some (.int v1), some (.int v2), some (.int jv2), some (.int v4)], []), h)) ?_ ?_
      · clear H
        have H := E9
        clear E9
        by_cases c3 : v4 < v1
        · rw [if_pos c3] at H
          refine am_G.br (tgt := 26) rfl rfl (if_pos c3) rfl ?_
          refine am_G.fr 3 (g := (30, [some (.int v0), some (.int v1), some (.int v2), some (.int v3), some (.int v4)], [.int v4, .int v0, .int v3])) rfl ?_
          obtain ⟨x5, e4, H⟩ := am_bd H
          refine am_G.cl [.int v0, .int v4] [.int v3] (am_Cl.mono (by decide) (lX9_has e4)) rfl rfl rfl rfl (Nat.le_of_ble_eq_true rfl) ?_
          obtain ⟨js6, E8, H⟩ := am_bd H
          refine am_G.sq (t := ((44, [some (.int v0), some (.int v1), some (.int v2), none, some (.int v4)], [.int js6, .int v3]), h)) ?_ ?_
          · clear H
            have H := E8
            clear E8
            by_cases c7 : x5 = 0
            · rw [if_pos c7] at H
              refine am_G.br (tgt := 40) rfl rfl (if_pos c7) rfl ?_
              refine am_G.fr 3 (g := (44, [some (.int v0), some (.int v1), some (.int v2), some (.int v3), some (.int v4)], [.int (((10 : Int32)) - v2), .int v3])) rfl ?_
              obtain rfl := Option.some.inj H
              refine am_G.fg [some (.int v0), some (.int v1), some (.int v2), none, some (.int v4)] (by simp only [am_sub, and_self]) ?_
              exact am_G.nd rfl
            · rw [if_neg c7] at H
              refine am_G.br (tgt := 36) rfl rfl (if_neg c7) rfl ?_
              refine am_G.fr 2 (g := (44, [some (.int v0), some (.int v1), some (.int v2), some (.int v3), some (.int v4)], [.int v2, .int v3])) rfl ?_
              obtain rfl := Option.some.inj H
              refine am_G.fg [some (.int v0), some (.int v1), some (.int v2), none, some (.int v4)] (by simp only [am_sub, and_self]) ?_
              exact am_G.nd rfl
          · clear E8
            refine am_G.fr 2 (g := (46, [some (.int v0), some (.int v1), some (.int v2), some (.int (v3 * js6)), some (.int v4)], [])) rfl ?_
            obtain rfl := Option.some.inj H
            exact am_G.nd rfl
        · rw [if_neg c3] at H
          refine am_G.br (tgt := 18) rfl rfl (if_neg c3) rfl ?_
          refine am_G.fr 5 (g := (46, [some (.int v0), some (.int v1), some (.int v2), some (.int (v3 * ((10 : Int32)))), some (.int v4)], [])) rfl ?_
          obtain rfl := Option.some.inj H
          exact am_G.nd rfl
      · clear E9
        refine am_G.fr 2 (g := (5, [some (.int v0), some (.int v1), some (.int v2), some (.int jv2), some (.int (v4 + (1 : Int32)))], [])) rfl ?_
        exact ih _ _ _ _ _ _ _ H
set_option maxHeartbeats 4000000 in
set_option maxRecDepth 100000 in
theorem lX9_weightOf {sc : Nat × (Nat → Int32)} {a0 : Int32} {a1 : Int32} {a2 : Int32} {h : am_H} {r : Int32} (H : fX9_weightOf a0 a1 a2 h = some r) : am_Cl am_T am_N sc 2 121 [.int a0, .int a1, .int a2] h (some (.int r)) h := by
  unfold fX9_weightOf at H
  refine am_mk (q := qX9_weightOf) rfl (fun z => absurd z (by decide)) (fun z => absurd z (by decide)) (Nat.le_of_ble_eq_true rfl) rfl ?_
  show am_G sc (am_Cl am_T am_N sc 1) (am_at kX9_weightOf) (fun t => t.2 = h ∧ am_ret 1 (am_at kX9_weightOf) t.1 = some (some (.int r))) ((0, [some (.int a0), some (.int a1), some (.int a2), none, none], []), h)
  refine am_G.fr 4 (g := (5, [some (.int a0), some (.int a1), some (.int a2), some (.int ((1 : Int32))), some (.int ((0 : Int32)))], [])) rfl ?_
  obtain ⟨lw10, E11, H⟩ := am_bd H
  refine am_G.sq (lX9_weightOf_L5 _ _ _ _ _ _ _ _ E11) ?_
  clear E11
  refine am_G.fr 1 (g := (53, [none, none, none, some (.int lw10), none], [.int lw10])) rfl ?_
  obtain rfl := Option.some.inj H
  exact am_G.nd ⟨rfl, rfl⟩
def fX9_chance_L36 : Nat → Nat → Int32 → Int32 → Int32 → Int32 → Int32 → am_H → Option (Int32 × am_H)
  | 0, _, _, _, _, _, _, _ => none
  | n + 1, v0, v1, v2, v3, v4, v5, h =>
    if (((1 : Int32)) <<< (v2 &&& 31)) ≤ v5 then
      some (v4, h)
    else
      (fX9_weightOf v5 v2 v3 h).bind fun x12 =>
      am_b2 (
        if x12 ≤ 0 then
          some (v4, h)
        else
          am_b2 (fX9_isTurnedOffBy v0 v5 v1 v2 h) fun x17 hh18 =>
          if x17 = 0 then
            some (v4, hh18)
          else
            some (v4 + x12, hh18)) fun jv13 hh14 =>
      fX9_chance_L36 n v0 v1 v2 v3 jv13 (v5 + (1 : Int32)) hh14
def fX9_chance (a0 : Nat) (a1 : Int32) (a2 : Int32) (a3 : Int32) (h : am_H) : Option (Int32 × am_H) :=
  (am_isO h a0 8).bind fun _ =>
  (fX9_isDay a0 a1 h).bind fun x2 =>
  if x2 = 0 then
    some ((-1 : Int32), h)
  else
    (fX9_within a2 ((1 : Int32)) ((6 : Int32)) h).bind fun x5 =>
    if x5 = 0 then
      some ((-1 : Int32), h)
    else
      (fX9_within a3 ((0 : Int32)) ((10 : Int32)) h).bind fun x8 =>
      if ¬ x8 = 0 then
        am_b2 (fX9_chance_L36 4000 a0 a1 a2 a3 ((0 : Int32)) ((0 : Int32)) h) fun lw21 hh22 =>
        some (lw21, hh22)
      else
        some ((-1 : Int32), h)
set_option maxHeartbeats 4000000 in
set_option maxRecDepth 100000 in
theorem lX9_chance_L36 {sc : Nat × (Nat → Int32)} : ∀ (n : Nat) (v0 : Nat) (v1 : Int32) (v2 : Int32) (v3 : Int32) (v4 : Int32) (v5 : Int32) (h : am_H) (w4 : Int32) (h1 : am_H), fX9_chance_L36 n v0 v1 v2 v3 v4 v5 h = some (w4, h1) → am_G sc (am_Cl am_T am_N sc 5) (am_at kX9_chance) (fun t => t = ((82, [none, none, none, none, some (.int w4), none, none], []), h1)) ((36, [some (.ref v0), some (.int v1), some (.int v2), some (.int v3), some (.int v4), some (.int v5), none], []), h) := by
  intro n
  induction n with
  | zero => intro _ _ _ _ _ _ _ _ _ H; cases H
  | succ n ih =>
    intro v0 v1 v2 v3 v4 v5 h w4 h1 H
    rw [fX9_chance_L36] at H
    refine am_G.fr 4 (g := (41, [some (.ref v0), some (.int v1), some (.int v2), some (.int v3), some (.int v4), some (.int v5), none], [.int (((1 : Int32)) <<< (v2 &&& 31)), .int v5])) rfl ?_
    by_cases c10 : (((1 : Int32)) <<< (v2 &&& 31)) ≤ v5
    · rw [if_pos c10] at H
      refine am_G.br (tgt := 82) rfl rfl (if_pos c10) rfl ?_
      obtain ⟨rfl, rfl⟩ := am_inj2 H
      refine am_G.fg [none, none, none, none, some (.int v4), none, none] (by simp only [am_sub, and_self]) ?_
      exact am_G.nd rfl
    · rw [if_neg c10] at H
      refine am_G.br (tgt := 44) rfl rfl (if_neg c10) rfl ?_
      refine am_G.fr 3 (g := (48, [some (.ref v0), some (.int v1), some (.int v2), some (.int v3), some (.int v4), some (.int v5), none], [.int v3, .int v2, .int v5])) rfl ?_
      obtain ⟨x12, e11, H⟩ := am_bd H
      refine am_G.cl [.int v5, .int v2, .int v3] [] (am_Cl.mono (by decide) (lX9_weightOf e11)) rfl rfl rfl rfl (Nat.le_of_ble_eq_true rfl) ?_
      refine am_G.fr 2 (g := (55, [some (.ref v0), some (.int v1), some (.int v2), some (.int v3), some (.int v4), some (.int v5), some (.int x12)], [.int x12])) rfl ?_
      obtain ⟨jv13, hh14, E20, H⟩ := am_bd2 H
      refine am_G.sq (t := ((76, [some (.ref v0), some (.int v1), some (.int v2), some (.int v3), some (.int jv13), some (.int v5), none], []), hh14)) ?_ ?_
      · clear H
        have H := E20
        clear E20
        by_cases c15 : x12 ≤ 0
        · rw [if_pos c15] at H
          refine am_G.br (tgt := 76) rfl rfl (if_pos c15) rfl ?_
          obtain ⟨rfl, rfl⟩ := am_inj2 H
          refine am_G.fg [some (.ref v0), some (.int v1), some (.int v2), some (.int v3), some (.int v4), some (.int v5), none] (by simp only [am_sub, and_self]) ?_
          exact am_G.nd rfl
        · rw [if_neg c15] at H
          refine am_G.br (tgt := 58) rfl rfl (if_neg c15) rfl ?_
          refine am_G.fr 4 (g := (63, [some (.ref v0), some (.int v1), some (.int v2), some (.int v3), some (.int v4), some (.int v5), some (.int x12)], [.int v2, .int v1, .int v5, .ref v0])) rfl ?_
          obtain ⟨x17, hh18, e16, H⟩ := am_bd2 H
          refine am_G.cl [.ref v0, .int v5, .int v1, .int v2] [] (am_Cl.mono (by decide) (lX9_isTurnedOffBy e16)) rfl rfl rfl rfl (Nat.le_of_ble_eq_true rfl) ?_
          by_cases c19 : x17 = 0
          · rw [if_pos c19] at H
            refine am_G.br (tgt := 76) rfl rfl (if_pos c19) rfl ?_
            obtain ⟨rfl, rfl⟩ := am_inj2 H
            refine am_G.fg [some (.ref v0), some (.int v1), some (.int v2), some (.int v3), some (.int v4), some (.int v5), none] (by simp only [am_sub, and_self]) ?_
            exact am_G.nd rfl
          · rw [if_neg c19] at H
            refine am_G.br (tgt := 69) rfl rfl (if_neg c19) rfl ?_
            refine am_G.fr 4 (g := (76, [some (.ref v0), some (.int v1), some (.int v2), some (.int v3), some (.int (v4 + x12)), some (.int v5), some (.int x12)], [])) rfl ?_
            obtain ⟨rfl, rfl⟩ := am_inj2 H
            refine am_G.fg [some (.ref v0), some (.int v1), some (.int v2), some (.int v3), some (.int (v4 + x12)), some (.int v5), none] (by simp only [am_sub, and_self]) ?_
            exact am_G.nd rfl
      · clear E20
        refine am_G.fr 2 (g := (36, [some (.ref v0), some (.int v1), some (.int v2), some (.int v3), some (.int jv13), some (.int (v5 + (1 : Int32))), none], [])) rfl ?_
        exact ih _ _ _ _ _ _ _ _ _ H
set_option maxHeartbeats 4000000 in
set_option maxRecDepth 100000 in
theorem lX9_chance {sc : Nat × (Nat → Int32)} {a0 : Nat} {a1 : Int32} {a2 : Int32} {a3 : Int32} {h : am_H} {r : Int32} {h1 : am_H} (H : fX9_chance a0 a1 a2 a3 h = some (r, h1)) : am_Cl am_T am_N sc 6 120 [.ref a0, .int a1, .int a2, .int a3] h (some (.int r)) h1 := by
  unfold fX9_chance at H
  obtain ⟨_, hO, H⟩ := am_bd H
  obtain ⟨fs0, hO⟩ := am_isO_ok hO
  refine am_mk (q := qX9_chance) rfl (fun _ => ⟨_, _, _, _, _, rfl, hO, rfl, rfl⟩) (fun z => absurd z (by decide)) (Nat.le_of_ble_eq_true rfl) rfl ?_
  show am_G sc (am_Cl am_T am_N sc 5) (am_at kX9_chance) (fun t => t.2 = h1 ∧ am_ret 1 (am_at kX9_chance) t.1 = some (some (.int r))) ((0, [some (.ref a0), some (.int a1), some (.int a2), some (.int a3), none, none, none], []), h)
  refine am_G.fr 2 (g := (2, [some (.ref a0), some (.int a1), some (.int a2), some (.int a3), none, none, none], [.int a1, .ref a0])) rfl ?_
  obtain ⟨x2, e1, H⟩ := am_bd H
  refine am_G.cl [.ref a0, .int a1] [] (am_Cl.mono (by decide) (lX9_isDay e1)) rfl rfl rfl rfl (Nat.le_of_ble_eq_true rfl) ?_
  by_cases c3 : x2 = 0
  · rw [if_pos c3] at H
    refine am_G.br (tgt := 28) rfl rfl (if_pos c3) rfl ?_
    refine am_G.fr 1 (g := (29, [some (.ref a0), some (.int a1), some (.int a2), some (.int a3), none, none, none], [.int ((-1 : Int32))])) rfl ?_
    obtain ⟨rfl, rfl⟩ := am_inj2 H
    exact am_G.nd ⟨rfl, rfl⟩
  · rw [if_neg c3] at H
    refine am_G.br (tgt := 8) rfl rfl (if_neg c3) rfl ?_
    refine am_G.fr 3 (g := (12, [some (.ref a0), some (.int a1), some (.int a2), some (.int a3), none, none, none], [.int ((6 : Int32)), .int ((1 : Int32)), .int a2])) rfl ?_
    obtain ⟨x5, e4, H⟩ := am_bd H
    refine am_G.cl [.int a2, .int ((1 : Int32)), .int ((6 : Int32))] [] (am_Cl.mono (by decide) (lX9_within e4)) rfl rfl rfl rfl (Nat.le_of_ble_eq_true rfl) ?_
    by_cases c6 : x5 = 0
    · rw [if_pos c6] at H
      refine am_G.br (tgt := 28) rfl rfl (if_pos c6) rfl ?_
      refine am_G.fr 1 (g := (29, [some (.ref a0), some (.int a1), some (.int a2), some (.int a3), none, none, none], [.int ((-1 : Int32))])) rfl ?_
      obtain ⟨rfl, rfl⟩ := am_inj2 H
      exact am_G.nd ⟨rfl, rfl⟩
    · rw [if_neg c6] at H
      refine am_G.br (tgt := 18) rfl rfl (if_neg c6) rfl ?_
      refine am_G.fr 3 (g := (22, [some (.ref a0), some (.int a1), some (.int a2), some (.int a3), none, none, none], [.int ((10 : Int32)), .int ((0 : Int32)), .int a3])) rfl ?_
      obtain ⟨x8, e7, H⟩ := am_bd H
      refine am_G.cl [.int a3, .int ((0 : Int32)), .int ((10 : Int32))] [] (am_Cl.mono (by decide) (lX9_within e7)) rfl rfl rfl rfl (Nat.le_of_ble_eq_true rfl) ?_
      by_cases c9 : ¬ x8 = 0
      · rw [if_pos c9] at H
        refine am_G.br (tgt := 30) rfl rfl (if_pos c9) rfl ?_
        refine am_G.fr 4 (g := (36, [some (.ref a0), some (.int a1), some (.int a2), some (.int a3), some (.int ((0 : Int32))), some (.int ((0 : Int32))), none], [])) rfl ?_
        obtain ⟨lw21, hh22, E23, H⟩ := am_bd2 H
        refine am_G.sq (lX9_chance_L36 _ _ _ _ _ _ _ _ _ _ E23) ?_
        clear E23
        refine am_G.fr 1 (g := (84, [none, none, none, none, some (.int lw21), none, none], [.int lw21])) rfl ?_
        obtain ⟨rfl, rfl⟩ := am_inj2 H
        exact am_G.nd ⟨rfl, rfl⟩
      · rw [if_neg c9] at H
        refine am_G.br (tgt := 28) rfl rfl (if_neg c9) rfl ?_
        refine am_G.fr 1 (g := (29, [some (.ref a0), some (.int a1), some (.int a2), some (.int a3), none, none, none], [.int ((-1 : Int32))])) rfl ?_
        obtain ⟨rfl, rfl⟩ := am_inj2 H
        exact am_G.nd ⟨rfl, rfl⟩
def fX9_gain (a0 : Int32) (a1 : Int32) (a2 : Int32) (a3 : Int32) (a4 : Int32) (h : am_H) : Option (Int32) :=
  if ¬ a0 = ((1 : Int32)) then
    Option.bind (
      if ¬ a1 = ((1 : Int32)) then
        some ((0 : Int32))
      else
        some a4) fun js2 =>
    some js2
  else
    Option.bind (
      if ¬ a1 = ((1 : Int32)) then
        some a3
      else
        some (-a2)) fun js5 =>
    some js5
set_option maxHeartbeats 4000000 in
set_option maxRecDepth 100000 in
theorem lX9_gain {sc : Nat × (Nat → Int32)} {a0 : Int32} {a1 : Int32} {a2 : Int32} {a3 : Int32} {a4 : Int32} {h : am_H} {r : Int32} (H : fX9_gain a0 a1 a2 a3 a4 h = some r) : am_Cl am_T am_N sc 1 123 [.int a0, .int a1, .int a2, .int a3, .int a4] h (some (.int r)) h := by
  unfold fX9_gain at H
  refine am_mk (q := qX9_gain) rfl (fun z => absurd z (by decide)) (fun z => absurd z (by decide)) (Nat.le_of_ble_eq_true rfl) rfl ?_
  show am_G sc (am_Cl am_T am_N sc 0) (am_at kX9_gain) (fun t => t.2 = h ∧ am_ret 1 (am_at kX9_gain) t.1 = some (some (.int r))) ((0, [some (.int a0), some (.int a1), some (.int a2), some (.int a3), some (.int a4)], []), h)
  refine am_G.fr 2 (g := (2, [some (.int a0), some (.int a1), some (.int a2), some (.int a3), some (.int a4)], [.int ((1 : Int32)), .int a0])) rfl ?_
  by_cases c1 : ¬ a0 = ((1 : Int32))
  · rw [if_pos c1] at H
    refine am_G.br (tgt := 17) rfl rfl (if_pos c1) rfl ?_
    refine am_G.fr 2 (g := (19, [some (.int a0), some (.int a1), some (.int a2), some (.int a3), some (.int a4)], [.int ((1 : Int32)), .int a1])) rfl ?_
    obtain ⟨js2, E4, H⟩ := am_bd H
    refine am_G.sq (t := ((28, [none, none, none, none, none], [.int js2]), h)) ?_ ?_
    · clear H
      have H := E4
      clear E4
      by_cases c3 : ¬ a1 = ((1 : Int32))
      · rw [if_pos c3] at H
        refine am_G.br (tgt := 27) rfl rfl (if_pos c3) rfl ?_
        refine am_G.fr 1 (g := (28, [some (.int a0), some (.int a1), some (.int a2), some (.int a3), some (.int a4)], [.int ((0 : Int32))])) rfl ?_
        obtain rfl := Option.some.inj H
        refine am_G.fg [none, none, none, none, none] (by simp only [am_sub, and_self]) ?_
        exact am_G.nd rfl
      · rw [if_neg c3] at H
        refine am_G.br (tgt := 22) rfl rfl (if_neg c3) rfl ?_
        refine am_G.fr 2 (g := (28, [some (.int a0), some (.int a1), some (.int a2), some (.int a3), some (.int a4)], [.int a4])) rfl ?_
        obtain rfl := Option.some.inj H
        refine am_G.fg [none, none, none, none, none] (by simp only [am_sub, and_self]) ?_
        exact am_G.nd rfl
    · clear E4
      obtain rfl := Option.some.inj H
      exact am_G.nd ⟨rfl, rfl⟩
  · rw [if_neg c1] at H
    refine am_G.br (tgt := 5) rfl rfl (if_neg c1) rfl ?_
    refine am_G.fr 2 (g := (7, [some (.int a0), some (.int a1), some (.int a2), some (.int a3), some (.int a4)], [.int ((1 : Int32)), .int a1])) rfl ?_
    obtain ⟨js5, E7, H⟩ := am_bd H
    refine am_G.sq (t := ((16, [none, none, none, none, none], [.int js5]), h)) ?_ ?_
    · clear H
      have H := E7
      clear E7
      by_cases c6 : ¬ a1 = ((1 : Int32))
      · rw [if_pos c6] at H
        refine am_G.br (tgt := 15) rfl rfl (if_pos c6) rfl ?_
        refine am_G.fr 1 (g := (16, [some (.int a0), some (.int a1), some (.int a2), some (.int a3), some (.int a4)], [.int a3])) rfl ?_
        obtain rfl := Option.some.inj H
        refine am_G.fg [none, none, none, none, none] (by simp only [am_sub, and_self]) ?_
        exact am_G.nd rfl
      · rw [if_neg c6] at H
        refine am_G.br (tgt := 10) rfl rfl (if_neg c6) rfl ?_
        refine am_G.fr 3 (g := (16, [some (.int a0), some (.int a1), some (.int a2), some (.int a3), some (.int a4)], [.int (-a2)])) rfl ?_
        obtain rfl := Option.some.inj H
        refine am_G.fg [none, none, none, none, none] (by simp only [am_sub, and_self]) ?_
        exact am_G.nd rfl
    · clear E7
      obtain rfl := Option.some.inj H
      exact am_G.nd ⟨rfl, rfl⟩
def fX9_drawBelow (a0 : Nat) (a1 : Int32) (h : am_H) : Option (Int32 × am_H) :=
  (am_isO h a0 8).bind fun _ =>
  (am_gL h a0 8 13).bind fun drawn1 =>
  (am_rmL ((drawn1 * ((1103515245 : Int64))) + ((12345 : Int64))) ((2147483648 : Int64))).bind fun q3 =>
  (am_pF h a0 8 13 (.long q3)).bind fun hh5 =>
  Option.bind (
    if a1 ≤ 0 then
      some ((0 : Int32))
    else
      (am_gL hh5 a0 8 13).bind fun drawn9 =>
      (am_dvL drawn9 ((65536 : Int64))).bind fun q11 =>
      (am_rmL q11 a1.toInt64).bind fun q13 =>
      some q13.toInt32) fun js7 =>
  some (js7, hh5)
set_option maxHeartbeats 4000000 in
set_option maxRecDepth 100000 in
theorem lX9_drawBelow {sc : Nat × (Nat → Int32)} {a0 : Nat} {a1 : Int32} {h : am_H} {r : Int32} {h1 : am_H} (H : fX9_drawBelow a0 a1 h = some (r, h1)) : am_Cl am_T am_N sc 1 126 [.ref a0, .int a1] h (some (.int r)) h1 := by
  unfold fX9_drawBelow at H
  obtain ⟨_, hO, H⟩ := am_bd H
  obtain ⟨fs0, hO⟩ := am_isO_ok hO
  refine am_mk (q := qX9_drawBelow) rfl (fun _ => ⟨_, _, _, _, _, rfl, hO, rfl, rfl⟩) (fun z => absurd z (by decide)) (Nat.le_of_ble_eq_true rfl) rfl ?_
  show am_G sc (am_Cl am_T am_N sc 0) (am_at kX9_drawBelow) (fun t => t.2 = h1 ∧ am_ret 1 (am_at kX9_drawBelow) t.1 = some (some (.int r))) ((0, [some (.ref a0), some (.int a1)], []), h)
  refine am_G.fr 2 (g := (2, [some (.ref a0), some (.int a1)], [.ref a0, .ref a0])) rfl ?_
  obtain ⟨drawn1, e2, H⟩ := am_bd H
  refine am_G.gL rfl e2 ?_
  refine am_G.fr 5 (g := (16, [some (.ref a0), some (.int a1)], [.long ((2147483648 : Int64)), .long ((drawn1 * ((1103515245 : Int64))) + ((12345 : Int64))), .ref a0])) rfl ?_
  obtain ⟨q3, e4, H⟩ := am_bd H
  refine am_G.rmL rfl e4 ?_
  obtain ⟨hh5, e6, H⟩ := am_bd H
  refine am_G.pF rfl e6 ?_
  refine am_G.fr 1 (g := (21, [some (.ref a0), some (.int a1)], [.int a1])) rfl ?_
  obtain ⟨js7, E15, H⟩ := am_bd H
  refine am_G.sq (t := ((40, [none, none], [.int js7]), hh5)) ?_ ?_
  · clear H
    have H := E15
    clear E15
    by_cases c8 : a1 ≤ 0
    · rw [if_pos c8] at H
      refine am_G.br (tgt := 39) rfl rfl (if_pos c8) rfl ?_
      refine am_G.fr 1 (g := (40, [some (.ref a0), some (.int a1)], [.int ((0 : Int32))])) rfl ?_
      obtain rfl := Option.some.inj H
      refine am_G.fg [none, none] (by simp only [am_sub, and_self]) ?_
      exact am_G.nd rfl
    · rw [if_neg c8] at H
      refine am_G.br (tgt := 24) rfl rfl (if_neg c8) rfl ?_
      refine am_G.fr 1 (g := (25, [some (.ref a0), some (.int a1)], [.ref a0])) rfl ?_
      obtain ⟨drawn9, e10, H⟩ := am_bd H
      refine am_G.gL rfl e10 ?_
      refine am_G.fr 1 (g := (31, [some (.ref a0), some (.int a1)], [.long ((65536 : Int64)), .long drawn9])) rfl ?_
      obtain ⟨q11, e12, H⟩ := am_bd H
      refine am_G.dvL rfl e12 ?_
      refine am_G.fr 2 (g := (34, [some (.ref a0), some (.int a1)], [.long a1.toInt64, .long q11])) rfl ?_
      obtain ⟨q13, e14, H⟩ := am_bd H
      refine am_G.rmL rfl e14 ?_
      refine am_G.fr 2 (g := (40, [some (.ref a0), some (.int a1)], [.int q13.toInt32])) rfl ?_
      obtain rfl := Option.some.inj H
      refine am_G.fg [none, none] (by simp only [am_sub, and_self]) ?_
      exact am_G.nd rfl
  · clear E15
    obtain ⟨rfl, rfl⟩ := am_inj2 H
    exact am_G.nd ⟨rfl, rfl⟩
def fX9_actByDraw (a0 : Nat) (h : am_H) : Option (am_H) :=
  (am_isO h a0 8).bind fun _ =>
  am_b2 (fX9_drawBelow a0 ((6 : Int32)) h) fun x2 hh3 =>
  Option.bind (
    if ¬ x2 = 0 then
      if ¬ x2 = ((1 : Int32)) then
        some hh3
      else
        (am_gR hh3 a0 8 9).bind fun told7 =>
        (am_gI hh3 told7 7 12).bind fun days9 =>
        am_b2 (fX9_drawBelow a0 days9 hh3) fun x12 hh13 =>
        (am_gR hh13 a0 8 9).bind fun told14 =>
        (am_gI hh13 told14 7 11).bind fun houses16 =>
        am_b2 (fX9_drawBelow a0 houses16 hh13) fun x19 hh20 =>
        (am_gR hh20 a0 8 2).bind fun ahead21 =>
        (am_gR hh20 a0 8 9).bind fun told23 =>
        (fX6_canShift ahead21 told23 x12 x19 hh20).bind fun x26 =>
        if x26 = 0 then
          some hh20
        else
          (am_gR hh20 a0 8 2).bind fun ahead28 =>
          (fX6_shift ahead28 x12 x19 hh20).bind fun hh31 =>
          some hh31
    else
      (am_gR hh3 a0 8 9).bind fun told32 =>
      (am_gI hh3 told32 7 12).bind fun days34 =>
      am_b2 (fX9_drawBelow a0 days34 hh3) fun x37 hh38 =>
      (am_gR hh38 a0 8 2).bind fun ahead39 =>
      (am_gR hh38 ahead39 5 3).bind fun at41 =>
      (am_aI hh38 0 at41 x37).bind fun x43 =>
      Option.bind (
        if x43 = ((-1 : Int32)) then
          some hh38
        else
          (am_gR hh38 a0 8 2).bind fun ahead47 =>
          (fX6_leave ahead47 x37 hh38).bind fun hh50 =>
          some hh50) fun hh45 =>
      some hh45) fun hh4 =>
  some hh4
set_option maxHeartbeats 4000000 in
set_option maxRecDepth 100000 in
theorem lX9_actByDraw {sc : Nat × (Nat → Int32)} {a0 : Nat} {h : am_H} {h1 : am_H} (H : fX9_actByDraw a0 h = some h1) : am_Cl am_T am_N sc 4 125 [.ref a0] h none h1 := by
  unfold fX9_actByDraw at H
  obtain ⟨_, hO, H⟩ := am_bd H
  obtain ⟨fs0, hO⟩ := am_isO_ok hO
  refine am_mk (q := qX9_actByDraw) rfl (fun _ => ⟨_, _, _, _, _, rfl, hO, rfl, rfl⟩) (fun z => absurd z (by decide)) (Nat.le_of_ble_eq_true rfl) rfl ?_
  show am_G sc (am_Cl am_T am_N sc 3) (am_at kX9_actByDraw) (fun t => t.2 = h1 ∧ am_ret 0 (am_at kX9_actByDraw) t.1 = some none) ((0, [some (.ref a0), none, none, none], []), h)
  refine am_G.fr 2 (g := (3, [some (.ref a0), none, none, none], [.int ((6 : Int32)), .ref a0])) rfl ?_
  obtain ⟨x2, hh3, e1, H⟩ := am_bd2 H
  refine am_G.cl [.ref a0, .int ((6 : Int32))] [] (am_Cl.mono (by decide) (lX9_drawBelow e1)) rfl rfl rfl rfl (Nat.le_of_ble_eq_true rfl) ?_
  refine am_G.fr 2 (g := (8, [some (.ref a0), some (.int x2), none, none], [.int x2])) rfl ?_
  obtain ⟨hh4, E52, H⟩ := am_bd H
  refine am_G.sq (t := ((101, [none, none, none, none], []), hh4)) ?_ ?_
  · clear H
    have H := E52
    clear E52
    by_cases c5 : ¬ x2 = 0
    · rw [if_pos c5] at H
      refine am_G.br (tgt := 47) rfl rfl (if_pos c5) rfl ?_
      refine am_G.fr 2 (g := (49, [some (.ref a0), some (.int x2), none, none], [.int ((1 : Int32)), .int x2])) rfl ?_
      by_cases c6 : ¬ x2 = ((1 : Int32))
      · rw [if_pos c6] at H
        refine am_G.br (tgt := 101) rfl rfl (if_pos c6) rfl ?_
        obtain rfl := Option.some.inj H
        refine am_G.fg [none, none, none, none] (by simp only [am_sub, and_self]) ?_
        exact am_G.nd rfl
      · rw [if_neg c6] at H
        refine am_G.br (tgt := 52) rfl rfl (if_neg c6) rfl ?_
        refine am_G.fr 2 (g := (54, [some (.ref a0), some (.int x2), none, none], [.ref a0, .ref a0])) rfl ?_
        obtain ⟨told7, e8, H⟩ := am_bd H
        refine am_G.gR rfl e8 ?_
        obtain ⟨days9, e10, H⟩ := am_bd H
        refine am_G.gI rfl e10 ?_
        obtain ⟨x12, hh13, e11, H⟩ := am_bd2 H
        refine am_G.cl [.ref a0, .int days9] [] (am_Cl.mono (by decide) (lX9_drawBelow e11)) rfl rfl rfl rfl (Nat.le_of_ble_eq_true rfl) ?_
        refine am_G.fr 3 (g := (66, [some (.ref a0), some (.int x2), some (.int x12), none], [.ref a0, .ref a0])) rfl ?_
        obtain ⟨told14, e15, H⟩ := am_bd H
        refine am_G.gR rfl e15 ?_
        obtain ⟨houses16, e17, H⟩ := am_bd H
        refine am_G.gI rfl e17 ?_
        obtain ⟨x19, hh20, e18, H⟩ := am_bd2 H
        refine am_G.cl [.ref a0, .int houses16] [] (am_Cl.mono (by decide) (lX9_drawBelow e18)) rfl rfl rfl rfl (Nat.le_of_ble_eq_true rfl) ?_
        refine am_G.fr 2 (g := (77, [some (.ref a0), some (.int x2), some (.int x12), some (.int x19)], [.ref a0])) rfl ?_
        obtain ⟨ahead21, e22, H⟩ := am_bd H
        refine am_G.gR rfl e22 ?_
        refine am_G.fr 1 (g := (81, [some (.ref a0), some (.int x2), some (.int x12), some (.int x19)], [.ref a0, .ref ahead21])) rfl ?_
        obtain ⟨told23, e24, H⟩ := am_bd H
        refine am_G.gR rfl e24 ?_
        refine am_G.fr 2 (g := (86, [some (.ref a0), some (.int x2), some (.int x12), some (.int x19)], [.int x19, .int x12, .ref told23, .ref ahead21])) rfl ?_
        obtain ⟨x26, e25, H⟩ := am_bd H
        refine am_G.cl [.ref ahead21, .ref told23, .int x12, .int x19] [] (am_Cl.mono (by decide) (lX6_canShift e25)) rfl rfl rfl rfl (Nat.le_of_ble_eq_true rfl) ?_
        by_cases c27 : x26 = 0
        · rw [if_pos c27] at H
          refine am_G.br (tgt := 101) rfl rfl (if_pos c27) rfl ?_
          obtain rfl := Option.some.inj H
          refine am_G.fg [none, none, none, none] (by simp only [am_sub, and_self]) ?_
          exact am_G.nd rfl
        · rw [if_neg c27] at H
          refine am_G.br (tgt := 92) rfl rfl (if_neg c27) rfl ?_
          refine am_G.fr 1 (g := (93, [some (.ref a0), some (.int x2), some (.int x12), some (.int x19)], [.ref a0])) rfl ?_
          obtain ⟨ahead28, e29, H⟩ := am_bd H
          refine am_G.gR rfl e29 ?_
          refine am_G.fr 2 (g := (98, [some (.ref a0), some (.int x2), some (.int x12), some (.int x19)], [.int x19, .int x12, .ref ahead28])) rfl ?_
          obtain ⟨hh31, e30, H⟩ := am_bd H
          refine am_G.cl [.ref ahead28, .int x12, .int x19] [] (am_Cl.mono (by decide) (lX6_shift e30)) rfl rfl rfl rfl (Nat.le_of_ble_eq_true rfl) ?_
          obtain rfl := Option.some.inj H
          refine am_G.fg [none, none, none, none] (by simp only [am_sub, and_self]) ?_
          exact am_G.nd rfl
    · rw [if_neg c5] at H
      refine am_G.br (tgt := 11) rfl rfl (if_neg c5) rfl ?_
      refine am_G.fr 2 (g := (13, [some (.ref a0), some (.int x2), none, none], [.ref a0, .ref a0])) rfl ?_
      obtain ⟨told32, e33, H⟩ := am_bd H
      refine am_G.gR rfl e33 ?_
      obtain ⟨days34, e35, H⟩ := am_bd H
      refine am_G.gI rfl e35 ?_
      obtain ⟨x37, hh38, e36, H⟩ := am_bd2 H
      refine am_G.cl [.ref a0, .int days34] [] (am_Cl.mono (by decide) (lX9_drawBelow e36)) rfl rfl rfl rfl (Nat.le_of_ble_eq_true rfl) ?_
      refine am_G.fr 2 (g := (24, [some (.ref a0), some (.int x2), some (.int x37), none], [.ref a0])) rfl ?_
      obtain ⟨ahead39, e40, H⟩ := am_bd H
      refine am_G.gR rfl e40 ?_
      obtain ⟨at41, e42, H⟩ := am_bd H
      refine am_G.gR rfl e42 ?_
      refine am_G.fr 1 (g := (31, [some (.ref a0), some (.int x2), some (.int x37), none], [.int x37, .ref at41])) rfl ?_
      obtain ⟨x43, e44, H⟩ := am_bd H
      refine am_G.aI rfl e44 ?_
      refine am_G.fr 1 (g := (33, [some (.ref a0), some (.int x2), some (.int x37), none], [.int ((-1 : Int32)), .int x43])) rfl ?_
      obtain ⟨hh45, E51, H⟩ := am_bd H
      refine am_G.sq (t := ((44, [none, none, none, none], []), hh45)) ?_ ?_
      · clear H
        have H := E51
        clear E51
        by_cases c46 : x43 = ((-1 : Int32))
        · rw [if_pos c46] at H
          refine am_G.br (tgt := 44) rfl rfl (if_pos c46) rfl ?_
          obtain rfl := Option.some.inj H
          refine am_G.fg [none, none, none, none] (by simp only [am_sub, and_self]) ?_
          exact am_G.nd rfl
        · rw [if_neg c46] at H
          refine am_G.br (tgt := 36) rfl rfl (if_neg c46) rfl ?_
          refine am_G.fr 1 (g := (37, [some (.ref a0), some (.int x2), some (.int x37), none], [.ref a0])) rfl ?_
          obtain ⟨ahead47, e48, H⟩ := am_bd H
          refine am_G.gR rfl e48 ?_
          refine am_G.fr 1 (g := (41, [some (.ref a0), some (.int x2), some (.int x37), none], [.int x37, .ref ahead47])) rfl ?_
          obtain ⟨hh50, e49, H⟩ := am_bd H
          refine am_G.cl [.ref ahead47, .int x37] [] (am_Cl.mono (by decide) (lX6_leave e49)) rfl rfl rfl rfl (Nat.le_of_ble_eq_true rfl) ?_
          obtain rfl := Option.some.inj H
          refine am_G.fg [none, none, none, none] (by simp only [am_sub, and_self]) ?_
          exact am_G.nd rfl
      · clear E51
        refine am_G.fr 1 (g := (101, [none, none, none, none], [])) rfl ?_
        obtain rfl := Option.some.inj H
        exact am_G.nd rfl
  · clear E52
    obtain rfl := Option.some.inj H
    exact am_G.nd ⟨rfl, rfl⟩
def fX9_ages_L58 : Nat → Nat → Int32 → Int32 → Int32 → Int32 → Int32 → am_H → Option (Int32 × Int32 × am_H)
  | 0, _, _, _, _, _, _, _ => none
  | n + 1, v0, v2, v3, v4, v5, v6, h =>
    if v2 ≤ v6 then
      some (v4, v5, h)
    else
      (am_gR h v0 8 9).bind fun told19 =>
      (am_gI h told19 7 12).bind fun days21 =>
      Option.bind (
        if days21 ≤ 0 then
          some h
        else
          (fX9_actByDraw v0 h).bind fun hh26 =>
          some hh26) fun hh23 =>
      (am_gR hh23 v0 8 2).bind fun ahead27 =>
      (am_gR hh23 v0 8 9).bind fun told29 =>
      (fX6_passDate ahead27 told29 hh23).bind fun hh32 =>
      (am_gR hh32 v0 8 2).bind fun ahead33 =>
      (am_gI hh32 ahead33 5 9).bind fun came35 =>
      (fJ6_bitCount_0f7a4 came35 hh32).bind fun x38 =>
      (am_gR hh32 v0 8 2).bind fun ahead39 =>
      (am_gI hh32 ahead39 5 10).bind fun off41 =>
      (fJ6_bitCount_0f7a4 off41 hh32).bind fun x44 =>
      fX9_ages_L58 n v0 v2 v3 (v4 + x38) (v5 + x44) (v6 + (1 : Int32)) hh32
def fX9_ages (a0 : Nat) (a1 : Int32) (a2 : Int32) (a3 : Int32) (h : am_H) : Option (Int32 × am_H) :=
  (am_isO h a0 8).bind fun _ =>
  (fX9_within a1 ((0 : Int32)) ((9999 : Int32)) h).bind fun x2 =>
  if x2 = 0 then
    some ((-1 : Int32), h)
  else
    (fX9_within a2 ((1 : Int32)) ((99 : Int32)) h).bind fun x5 =>
    if x5 = 0 then
      some ((-1 : Int32), h)
    else
      (fX9_within a3 ((0 : Int32)) ((2 : Int32)) h).bind fun x8 =>
      if ¬ x8 = 0 then
        (am_pF h a0 8 13 (.long a1.toInt64)).bind fun hh10 =>
        (am_gR hh10 a0 8 2).bind fun ahead12 =>
        (am_gR hh10 a0 8 1).bind fun now14 =>
        (fX6_copyFrom ahead12 now14 hh10).bind fun hh17 =>
        am_b3 (fX9_ages_L58 4000 a0 a2 a3 ((0 : Int32)) ((0 : Int32)) ((0 : Int32)) hh17) fun lw46 lw47 hh48 =>
        if ¬ a3 = ((2 : Int32)) then
          Option.bind (
            if ¬ a3 = 0 then
              some lw47
            else
              some lw46) fun js51 =>
          some (js51, hh48)
        else
          (am_gR hh48 a0 8 2).bind fun ahead54 =>
          (am_gR hh48 a0 8 9).bind fun told56 =>
          (fX6_talkOfAll ahead54 told56 hh48).bind fun x59 =>
          some (x59, hh48)
      else
        some ((-1 : Int32), h)
set_option maxHeartbeats 4000000 in
set_option maxRecDepth 100000 in
theorem lX9_ages_L58 {sc : Nat × (Nat → Int32)} : ∀ (n : Nat) (v0 : Nat) (v2 : Int32) (v3 : Int32) (v4 : Int32) (v5 : Int32) (v6 : Int32) (h : am_H) (w4 : Int32) (w5 : Int32) (h1 : am_H), fX9_ages_L58 n v0 v2 v3 v4 v5 v6 h = some (w4, w5, h1) → am_G sc (am_Cl am_T am_N sc 4) (am_at kX9_ages) (fun t => t = ((125, [some (.ref v0), none, none, some (.int v3), some (.int w4), some (.int w5), none], []), h1)) ((58, [some (.ref v0), none, some (.int v2), some (.int v3), some (.int v4), some (.int v5), some (.int v6)], []), h) := by
  intro n
  induction n with
  | zero => intro _ _ _ _ _ _ _ _ _ _ H; cases H
  | succ n ih =>
    intro v0 v2 v3 v4 v5 v6 h w4 w5 h1 H
    rw [fX9_ages_L58] at H
    refine am_G.fr 2 (g := (61, [some (.ref v0), none, some (.int v2), some (.int v3), some (.int v4), some (.int v5), some (.int v6)], [.int v2, .int v6])) rfl ?_
    by_cases c18 : v2 ≤ v6
    · rw [if_pos c18] at H
      refine am_G.br (tgt := 125) rfl rfl (if_pos c18) rfl ?_
      obtain ⟨rfl, rfl, rfl⟩ := am_inj3 H
      refine am_G.fg [some (.ref v0), none, none, some (.int v3), some (.int v4), some (.int v5), none] (by simp only [am_sub, and_self]) ?_
      exact am_G.nd rfl
    · rw [if_neg c18] at H
      refine am_G.br (tgt := 64) rfl rfl (if_neg c18) rfl ?_
      refine am_G.fr 1 (g := (65, [some (.ref v0), none, some (.int v2), some (.int v3), some (.int v4), some (.int v5), some (.int v6)], [.ref v0])) rfl ?_
      obtain ⟨told19, e20, H⟩ := am_bd H
      refine am_G.gR rfl e20 ?_
      obtain ⟨days21, e22, H⟩ := am_bd H
      refine am_G.gI rfl e22 ?_
      obtain ⟨hh23, E45, H⟩ := am_bd H
      refine am_G.sq (t := ((78, [some (.ref v0), none, some (.int v2), some (.int v3), some (.int v4), some (.int v5), some (.int v6)], []), hh23)) ?_ ?_
      · clear H
        have H := E45
        clear E45
        by_cases c24 : days21 ≤ 0
        · rw [if_pos c24] at H
          refine am_G.br (tgt := 78) rfl rfl (if_pos c24) rfl ?_
          obtain rfl := Option.some.inj H
          exact am_G.nd rfl
        · rw [if_neg c24] at H
          refine am_G.br (tgt := 74) rfl rfl (if_neg c24) rfl ?_
          refine am_G.fr 1 (g := (75, [some (.ref v0), none, some (.int v2), some (.int v3), some (.int v4), some (.int v5), some (.int v6)], [.ref v0])) rfl ?_
          obtain ⟨hh26, e25, H⟩ := am_bd H
          refine am_G.cl [.ref v0] [] (am_Cl.mono (by decide) (lX9_actByDraw e25)) rfl rfl rfl rfl (Nat.le_of_ble_eq_true rfl) ?_
          obtain rfl := Option.some.inj H
          exact am_G.nd rfl
      · clear E45
        refine am_G.fr 1 (g := (79, [some (.ref v0), none, some (.int v2), some (.int v3), some (.int v4), some (.int v5), some (.int v6)], [.ref v0])) rfl ?_
        obtain ⟨ahead27, e28, H⟩ := am_bd H
        refine am_G.gR rfl e28 ?_
        refine am_G.fr 1 (g := (83, [some (.ref v0), none, some (.int v2), some (.int v3), some (.int v4), some (.int v5), some (.int v6)], [.ref v0, .ref ahead27])) rfl ?_
        obtain ⟨told29, e30, H⟩ := am_bd H
        refine am_G.gR rfl e30 ?_
        obtain ⟨hh32, e31, H⟩ := am_bd H
        refine am_G.cl [.ref ahead27, .ref told29] [] (am_Cl.mono (by decide) (lX6_passDate e31)) rfl rfl rfl rfl (Nat.le_of_ble_eq_true rfl) ?_
        refine am_G.fr 2 (g := (92, [some (.ref v0), none, some (.int v2), some (.int v3), some (.int v4), some (.int v5), some (.int v6)], [.ref v0, .int v4])) rfl ?_
        obtain ⟨ahead33, e34, H⟩ := am_bd H
        refine am_G.gR rfl e34 ?_
        obtain ⟨came35, e36, H⟩ := am_bd H
        refine am_G.gI rfl e36 ?_
        obtain ⟨x38, e37, H⟩ := am_bd H
        refine am_G.cl [.int came35] [.int v4] (am_Cl.mono (by decide) (lJ6_bitCount_0f7a4 e37)) rfl rfl rfl rfl (Nat.le_of_ble_eq_true rfl) ?_
        refine am_G.fr 4 (g := (107, [some (.ref v0), none, some (.int v2), some (.int v3), some (.int (v4 + x38)), some (.int v5), some (.int v6)], [.ref v0, .int v5])) rfl ?_
        obtain ⟨ahead39, e40, H⟩ := am_bd H
        refine am_G.gR rfl e40 ?_
        obtain ⟨off41, e42, H⟩ := am_bd H
        refine am_G.gI rfl e42 ?_
        obtain ⟨x44, e43, H⟩ := am_bd H
        refine am_G.cl [.int off41] [.int v5] (am_Cl.mono (by decide) (lJ6_bitCount_0f7a4 e43)) rfl rfl rfl rfl (Nat.le_of_ble_eq_true rfl) ?_
        refine am_G.fr 4 (g := (58, [some (.ref v0), none, some (.int v2), some (.int v3), some (.int (v4 + x38)), some (.int (v5 + x44)), some (.int (v6 + (1 : Int32)))], [])) rfl ?_
        exact ih _ _ _ _ _ _ _ _ _ _ H
set_option maxHeartbeats 4000000 in
set_option maxRecDepth 100000 in
theorem lX9_ages {sc : Nat × (Nat → Int32)} {a0 : Nat} {a1 : Int32} {a2 : Int32} {a3 : Int32} {h : am_H} {r : Int32} {h1 : am_H} (H : fX9_ages a0 a1 a2 a3 h = some (r, h1)) : am_Cl am_T am_N sc 5 124 [.ref a0, .int a1, .int a2, .int a3] h (some (.int r)) h1 := by
  unfold fX9_ages at H
  obtain ⟨_, hO, H⟩ := am_bd H
  obtain ⟨fs0, hO⟩ := am_isO_ok hO
  refine am_mk (q := qX9_ages) rfl (fun _ => ⟨_, _, _, _, _, rfl, hO, rfl, rfl⟩) (fun z => absurd z (by decide)) (Nat.le_of_ble_eq_true rfl) rfl ?_
  show am_G sc (am_Cl am_T am_N sc 4) (am_at kX9_ages) (fun t => t.2 = h1 ∧ am_ret 1 (am_at kX9_ages) t.1 = some (some (.int r))) ((0, [some (.ref a0), some (.int a1), some (.int a2), some (.int a3), none, none, none], []), h)
  refine am_G.fr 3 (g := (5, [some (.ref a0), some (.int a1), some (.int a2), some (.int a3), none, none, none], [.int ((9999 : Int32)), .int ((0 : Int32)), .int a1])) rfl ?_
  obtain ⟨x2, e1, H⟩ := am_bd H
  refine am_G.cl [.int a1, .int ((0 : Int32)), .int ((9999 : Int32))] [] (am_Cl.mono (by decide) (lX9_within e1)) rfl rfl rfl rfl (Nat.le_of_ble_eq_true rfl) ?_
  by_cases c3 : x2 = 0
  · rw [if_pos c3] at H
    refine am_G.br (tgt := 30) rfl rfl (if_pos c3) rfl ?_
    refine am_G.fr 1 (g := (31, [some (.ref a0), some (.int a1), some (.int a2), some (.int a3), none, none, none], [.int ((-1 : Int32))])) rfl ?_
    obtain ⟨rfl, rfl⟩ := am_inj2 H
    exact am_G.nd ⟨rfl, rfl⟩
  · rw [if_neg c3] at H
    refine am_G.br (tgt := 11) rfl rfl (if_neg c3) rfl ?_
    refine am_G.fr 3 (g := (15, [some (.ref a0), some (.int a1), some (.int a2), some (.int a3), none, none, none], [.int ((99 : Int32)), .int ((1 : Int32)), .int a2])) rfl ?_
    obtain ⟨x5, e4, H⟩ := am_bd H
    refine am_G.cl [.int a2, .int ((1 : Int32)), .int ((99 : Int32))] [] (am_Cl.mono (by decide) (lX9_within e4)) rfl rfl rfl rfl (Nat.le_of_ble_eq_true rfl) ?_
    by_cases c6 : x5 = 0
    · rw [if_pos c6] at H
      refine am_G.br (tgt := 30) rfl rfl (if_pos c6) rfl ?_
      refine am_G.fr 1 (g := (31, [some (.ref a0), some (.int a1), some (.int a2), some (.int a3), none, none, none], [.int ((-1 : Int32))])) rfl ?_
      obtain ⟨rfl, rfl⟩ := am_inj2 H
      exact am_G.nd ⟨rfl, rfl⟩
    · rw [if_neg c6] at H
      refine am_G.br (tgt := 21) rfl rfl (if_neg c6) rfl ?_
      refine am_G.fr 3 (g := (24, [some (.ref a0), some (.int a1), some (.int a2), some (.int a3), none, none, none], [.int ((2 : Int32)), .int ((0 : Int32)), .int a3])) rfl ?_
      obtain ⟨x8, e7, H⟩ := am_bd H
      refine am_G.cl [.int a3, .int ((0 : Int32)), .int ((2 : Int32))] [] (am_Cl.mono (by decide) (lX9_within e7)) rfl rfl rfl rfl (Nat.le_of_ble_eq_true rfl) ?_
      by_cases c9 : ¬ x8 = 0
      · rw [if_pos c9] at H
        refine am_G.br (tgt := 32) rfl rfl (if_pos c9) rfl ?_
        refine am_G.fr 3 (g := (35, [some (.ref a0), some (.int a1), some (.int a2), some (.int a3), none, none, none], [.long a1.toInt64, .ref a0])) rfl ?_
        obtain ⟨hh10, e11, H⟩ := am_bd H
        refine am_G.pF rfl e11 ?_
        refine am_G.fr 1 (g := (39, [some (.ref a0), some (.int a1), some (.int a2), some (.int a3), none, none, none], [.ref a0])) rfl ?_
        obtain ⟨ahead12, e13, H⟩ := am_bd H
        refine am_G.gR rfl e13 ?_
        refine am_G.fr 1 (g := (43, [some (.ref a0), some (.int a1), some (.int a2), some (.int a3), none, none, none], [.ref a0, .ref ahead12])) rfl ?_
        obtain ⟨now14, e15, H⟩ := am_bd H
        refine am_G.gR rfl e15 ?_
        obtain ⟨hh17, e16, H⟩ := am_bd H
        refine am_G.cl [.ref ahead12, .ref now14] [] (am_Cl.mono (by decide) (lX6_copyFrom e16)) rfl rfl rfl rfl (Nat.le_of_ble_eq_true rfl) ?_
        refine am_G.fr 6 (g := (58, [some (.ref a0), some (.int a1), some (.int a2), some (.int a3), some (.int ((0 : Int32))), some (.int ((0 : Int32))), some (.int ((0 : Int32)))], [])) rfl ?_
        obtain ⟨lw46, lw47, hh48, E49, H⟩ := am_bd3 H
        refine am_G.fg [some (.ref a0), none, some (.int a2), some (.int a3), some (.int ((0 : Int32))), some (.int ((0 : Int32))), some (.int ((0 : Int32)))] (by simp only [am_sub, and_self]) ?_
        refine am_G.sq (lX9_ages_L58 _ _ _ _ _ _ _ _ _ _ _ E49) ?_
        clear E49
        refine am_G.fr 2 (g := (127, [some (.ref a0), none, none, some (.int a3), some (.int lw46), some (.int lw47), none], [.int ((2 : Int32)), .int a3])) rfl ?_
        by_cases c50 : ¬ a3 = ((2 : Int32))
        · rw [if_pos c50] at H
          refine am_G.br (tgt := 142) rfl rfl (if_pos c50) rfl ?_
          refine am_G.fr 1 (g := (143, [some (.ref a0), none, none, some (.int a3), some (.int lw46), some (.int lw47), none], [.int a3])) rfl ?_
          obtain ⟨js51, E53, H⟩ := am_bd H
          refine am_G.sq (t := ((153, [none, none, none, none, none, none, none], [.int js51]), hh48)) ?_ ?_
          · clear H
            have H := E53
            clear E53
            by_cases c52 : ¬ a3 = 0
            · rw [if_pos c52] at H
              refine am_G.br (tgt := 151) rfl rfl (if_pos c52) rfl ?_
              refine am_G.fr 1 (g := (153, [some (.ref a0), none, none, some (.int a3), some (.int lw46), some (.int lw47), none], [.int lw47])) rfl ?_
              obtain rfl := Option.some.inj H
              refine am_G.fg [none, none, none, none, none, none, none] (by simp only [am_sub, and_self]) ?_
              exact am_G.nd rfl
            · rw [if_neg c52] at H
              refine am_G.br (tgt := 146) rfl rfl (if_neg c52) rfl ?_
              refine am_G.fr 2 (g := (153, [some (.ref a0), none, none, some (.int a3), some (.int lw46), some (.int lw47), none], [.int lw46])) rfl ?_
              obtain rfl := Option.some.inj H
              refine am_G.fg [none, none, none, none, none, none, none] (by simp only [am_sub, and_self]) ?_
              exact am_G.nd rfl
          · clear E53
            obtain ⟨rfl, rfl⟩ := am_inj2 H
            exact am_G.nd ⟨rfl, rfl⟩
        · rw [if_neg c50] at H
          refine am_G.br (tgt := 130) rfl rfl (if_neg c50) rfl ?_
          refine am_G.fr 1 (g := (131, [some (.ref a0), none, none, some (.int a3), some (.int lw46), some (.int lw47), none], [.ref a0])) rfl ?_
          obtain ⟨ahead54, e55, H⟩ := am_bd H
          refine am_G.gR rfl e55 ?_
          refine am_G.fr 1 (g := (135, [some (.ref a0), none, none, some (.int a3), some (.int lw46), some (.int lw47), none], [.ref a0, .ref ahead54])) rfl ?_
          obtain ⟨told56, e57, H⟩ := am_bd H
          refine am_G.gR rfl e57 ?_
          obtain ⟨x59, e58, H⟩ := am_bd H
          refine am_G.cl [.ref ahead54, .ref told56] [] (am_Cl.mono (by decide) (lX6_talkOfAll e58)) rfl rfl rfl rfl (Nat.le_of_ble_eq_true rfl) ?_
          obtain ⟨rfl, rfl⟩ := am_inj2 H
          exact am_G.nd ⟨rfl, rfl⟩
      · rw [if_neg c9] at H
        refine am_G.br (tgt := 30) rfl rfl (if_neg c9) rfl ?_
        refine am_G.fr 1 (g := (31, [some (.ref a0), some (.int a1), some (.int a2), some (.int a3), none, none, none], [.int ((-1 : Int32))])) rfl ?_
        obtain ⟨rfl, rfl⟩ := am_inj2 H
        exact am_G.nd ⟨rfl, rfl⟩
def fX9_mark (a0 : Nat) (a1 : Int32) (a2 : Int32) (h : am_H) : Option (Int32 × am_H) :=
  (am_isO h a0 8).bind fun _ =>
  (fX9_within a1 ((0 : Int32)) ((3 : Int32)) h).bind fun x2 =>
  if ¬ x2 = 0 then
    if ¬ a2 = 0 then
      (am_gR h a0 8 4).bind fun marks5 =>
      (am_aR h marks5 a1).bind fun r7 =>
      (am_gI h r7 2 2).bind fun laid9 =>
      if ¬ laid9 = 0 then
        (am_gR h a0 8 1).bind fun now12 =>
        (am_gR h a0 8 4).bind fun marks14 =>
        (am_aR h marks14 a1).bind fun r16 =>
        (am_gR h r16 2 0).bind fun stand18 =>
        (fX6_copyFrom now12 stand18 h).bind fun hh21 =>
        (am_gR hh21 a0 8 5).bind fun seen22 =>
        (am_gR hh21 a0 8 4).bind fun marks24 =>
        (am_aR hh21 marks24 a1).bind fun r26 =>
        (am_gR hh21 r26 2 1).bind fun seen28 =>
        (fX5_copyFrom seen22 seen28 hh21).bind fun hh31 =>
        (am_gR hh31 a0 8 3).bind fun history32 =>
        (am_pF hh31 history32 0 2 (.int ((0 : Int32)))).bind fun hh34 =>
        some ((1 : Int32), hh34)
      else
        some ((0 : Int32), h)
    else
      (am_gR h a0 8 4).bind fun marks36 =>
      (am_aR h marks36 a1).bind fun r38 =>
      (am_gR h a0 8 1).bind fun now40 =>
      (am_gR h a0 8 5).bind fun seen42 =>
      (fX2_lay r38 now40 seen42 h).bind fun hh45 =>
      some ((1 : Int32), hh45)
  else
    some ((0 : Int32), h)
set_option maxHeartbeats 4000000 in
set_option maxRecDepth 100000 in
theorem lX9_mark {sc : Nat × (Nat → Int32)} {a0 : Nat} {a1 : Int32} {a2 : Int32} {h : am_H} {r : Int32} {h1 : am_H} (H : fX9_mark a0 a1 a2 h = some (r, h1)) : am_Cl am_T am_N sc 3 127 [.ref a0, .int a1, .int a2] h (some (.int r)) h1 := by
  unfold fX9_mark at H
  obtain ⟨_, hO, H⟩ := am_bd H
  obtain ⟨fs0, hO⟩ := am_isO_ok hO
  refine am_mk (q := qX9_mark) rfl (fun _ => ⟨_, _, _, _, _, rfl, hO, rfl, rfl⟩) (fun z => absurd z (by decide)) (Nat.le_of_ble_eq_true rfl) rfl ?_
  show am_G sc (am_Cl am_T am_N sc 2) (am_at kX9_mark) (fun t => t.2 = h1 ∧ am_ret 2 (am_at kX9_mark) t.1 = some (some (.int r))) ((0, [some (.ref a0), some (.int a1), some (.int a2)], []), h)
  refine am_G.fr 3 (g := (3, [some (.ref a0), some (.int a1), some (.int a2)], [.int ((3 : Int32)), .int ((0 : Int32)), .int a1])) rfl ?_
  obtain ⟨x2, e1, H⟩ := am_bd H
  refine am_G.cl [.int a1, .int ((0 : Int32)), .int ((3 : Int32))] [] (am_Cl.mono (by decide) (lX9_within e1)) rfl rfl rfl rfl (Nat.le_of_ble_eq_true rfl) ?_
  by_cases c3 : ¬ x2 = 0
  · rw [if_pos c3] at H
    refine am_G.br (tgt := 11) rfl rfl (if_pos c3) rfl ?_
    refine am_G.fr 1 (g := (12, [some (.ref a0), some (.int a1), some (.int a2)], [.int a2])) rfl ?_
    by_cases c4 : ¬ a2 = 0
    · rw [if_pos c4] at H
      refine am_G.br (tgt := 34) rfl rfl (if_pos c4) rfl ?_
      refine am_G.fr 1 (g := (35, [some (.ref a0), some (.int a1), some (.int a2)], [.ref a0])) rfl ?_
      obtain ⟨marks5, e6, H⟩ := am_bd H
      refine am_G.gR rfl e6 ?_
      refine am_G.fr 1 (g := (39, [some (.ref a0), some (.int a1), some (.int a2)], [.int a1, .ref marks5])) rfl ?_
      obtain ⟨r7, e8, H⟩ := am_bd H
      refine am_G.aR rfl e8 ?_
      obtain ⟨laid9, e10, H⟩ := am_bd H
      refine am_G.gI rfl e10 ?_
      by_cases c11 : ¬ laid9 = 0
      · rw [if_pos c11] at H
        refine am_G.br (tgt := 48) rfl rfl (if_pos c11) rfl ?_
        refine am_G.fr 1 (g := (49, [some (.ref a0), some (.int a1), some (.int a2)], [.ref a0])) rfl ?_
        obtain ⟨now12, e13, H⟩ := am_bd H
        refine am_G.gR rfl e13 ?_
        refine am_G.fr 1 (g := (53, [some (.ref a0), some (.int a1), some (.int a2)], [.ref a0, .ref now12])) rfl ?_
        obtain ⟨marks14, e15, H⟩ := am_bd H
        refine am_G.gR rfl e15 ?_
        refine am_G.fr 1 (g := (57, [some (.ref a0), some (.int a1), some (.int a2)], [.int a1, .ref marks14, .ref now12])) rfl ?_
        obtain ⟨r16, e17, H⟩ := am_bd H
        refine am_G.aR rfl e17 ?_
        obtain ⟨stand18, e19, H⟩ := am_bd H
        refine am_G.gR rfl e19 ?_
        obtain ⟨hh21, e20, H⟩ := am_bd H
        refine am_G.cl [.ref now12, .ref stand18] [] (am_Cl.mono (by decide) (lX6_copyFrom e20)) rfl rfl rfl rfl (Nat.le_of_ble_eq_true rfl) ?_
        refine am_G.fr 1 (g := (65, [some (.ref a0), some (.int a1), some (.int a2)], [.ref a0])) rfl ?_
        obtain ⟨seen22, e23, H⟩ := am_bd H
        refine am_G.gR rfl e23 ?_
        refine am_G.fr 1 (g := (69, [some (.ref a0), some (.int a1), some (.int a2)], [.ref a0, .ref seen22])) rfl ?_
        obtain ⟨marks24, e25, H⟩ := am_bd H
        refine am_G.gR rfl e25 ?_
        refine am_G.fr 1 (g := (73, [some (.ref a0), some (.int a1), some (.int a2)], [.int a1, .ref marks24, .ref seen22])) rfl ?_
        obtain ⟨r26, e27, H⟩ := am_bd H
        refine am_G.aR rfl e27 ?_
        obtain ⟨seen28, e29, H⟩ := am_bd H
        refine am_G.gR rfl e29 ?_
        obtain ⟨hh31, e30, H⟩ := am_bd H
        refine am_G.cl [.ref seen22, .ref seen28] [] (am_Cl.mono (by decide) (lX5_copyFrom e30)) rfl rfl rfl rfl (Nat.le_of_ble_eq_true rfl) ?_
        refine am_G.fr 1 (g := (81, [some (.ref a0), some (.int a1), some (.int a2)], [.ref a0])) rfl ?_
        obtain ⟨history32, e33, H⟩ := am_bd H
        refine am_G.gR rfl e33 ?_
        refine am_G.fr 1 (g := (85, [some (.ref a0), some (.int a1), some (.int a2)], [.int ((0 : Int32)), .ref history32])) rfl ?_
        obtain ⟨hh34, e35, H⟩ := am_bd H
        refine am_G.pF rfl e35 ?_
        refine am_G.fr 1 (g := (89, [some (.ref a0), some (.int a1), some (.int a2)], [.int ((1 : Int32))])) rfl ?_
        obtain ⟨rfl, rfl⟩ := am_inj2 H
        exact am_G.nd ⟨rfl, am_ret2 rfl (if_pos (by decide))⟩
      · rw [if_neg c11] at H
        refine am_G.br (tgt := 46) rfl rfl (if_neg c11) rfl ?_
        refine am_G.fr 1 (g := (47, [some (.ref a0), some (.int a1), some (.int a2)], [.int ((0 : Int32))])) rfl ?_
        obtain ⟨rfl, rfl⟩ := am_inj2 H
        exact am_G.nd ⟨rfl, am_ret2 rfl (if_pos (by decide))⟩
    · rw [if_neg c4] at H
      refine am_G.br (tgt := 15) rfl rfl (if_neg c4) rfl ?_
      refine am_G.fr 1 (g := (16, [some (.ref a0), some (.int a1), some (.int a2)], [.ref a0])) rfl ?_
      obtain ⟨marks36, e37, H⟩ := am_bd H
      refine am_G.gR rfl e37 ?_
      refine am_G.fr 1 (g := (20, [some (.ref a0), some (.int a1), some (.int a2)], [.int a1, .ref marks36])) rfl ?_
      obtain ⟨r38, e39, H⟩ := am_bd H
      refine am_G.aR rfl e39 ?_
      refine am_G.fr 1 (g := (22, [some (.ref a0), some (.int a1), some (.int a2)], [.ref a0, .ref r38])) rfl ?_
      obtain ⟨now40, e41, H⟩ := am_bd H
      refine am_G.gR rfl e41 ?_
      refine am_G.fr 1 (g := (26, [some (.ref a0), some (.int a1), some (.int a2)], [.ref a0, .ref now40, .ref r38])) rfl ?_
      obtain ⟨seen42, e43, H⟩ := am_bd H
      refine am_G.gR rfl e43 ?_
      obtain ⟨hh45, e44, H⟩ := am_bd H
      refine am_G.cl [.ref r38, .ref now40, .ref seen42] [] (am_Cl.mono (by decide) (lX2_lay e44)) rfl rfl rfl rfl (Nat.le_of_ble_eq_true rfl) ?_
      refine am_G.fr 1 (g := (33, [some (.ref a0), some (.int a1), some (.int a2)], [.int ((1 : Int32))])) rfl ?_
      obtain ⟨rfl, rfl⟩ := am_inj2 H
      exact am_G.nd ⟨rfl, am_ret2 rfl (if_pos (by decide))⟩
  · rw [if_neg c3] at H
    refine am_G.br (tgt := 9) rfl rfl (if_neg c3) rfl ?_
    refine am_G.fr 1 (g := (10, [some (.ref a0), some (.int a1), some (.int a2)], [.int ((0 : Int32))])) rfl ?_
    obtain ⟨rfl, rfl⟩ := am_inj2 H
    exact am_G.nd ⟨rfl, am_ret2 rfl (if_pos (by decide))⟩
def fX9_count (a0 : Nat) (a1 : Int32) (h : am_H) : Option (Int32) :=
  (am_isO h a0 8).bind fun _ =>
  if a1.toInt < 0 ∨ 12 < a1.toInt then
    some ((-1 : Int32))
  else (some (a1.toInt - 0).toNat).bind fun k2 =>
  if k2 = 0 then
    (am_gR h a0 8 9).bind fun told4 =>
    (am_gI h told4 7 11).bind fun houses6 =>
    some houses6
  else if k2 = 1 then
    (am_gR h a0 8 9).bind fun told9 =>
    (am_gI h told9 7 12).bind fun days11 =>
    some days11
  else if k2 = 2 then
    (am_gR h a0 8 9).bind fun told14 =>
    (am_gI h told14 7 13).bind fun stays16 =>
    some stays16
  else if k2 = 3 then
    (am_gR h a0 8 1).bind fun now19 =>
    (am_gI h now19 5 7).bind fun year21 =>
    some year21
  else if k2 = 4 then
    (am_gR h a0 8 1).bind fun now24 =>
    (am_gI h now24 5 6).bind fun date26 =>
    some date26
  else if k2 = 5 then
    (am_gR h a0 8 1).bind fun now29 =>
    (am_gR h a0 8 9).bind fun told31 =>
    (fX6_somewhere now29 told31 h).bind fun x34 =>
    some x34
  else if k2 = 6 then
    (am_gR h a0 8 1).bind fun now36 =>
    (am_gR h a0 8 9).bind fun told38 =>
    (fX6_bedsOfAll now36 told38 h).bind fun x41 =>
    some x41
  else if k2 = 7 then
    (am_gR h a0 8 1).bind fun now43 =>
    (am_gI h now43 5 8).bind fun turnedOff45 =>
    some turnedOff45
  else if k2 = 8 then
    (am_gR h a0 8 1).bind fun now48 =>
    (am_gR h a0 8 9).bind fun told50 =>
    (fX6_faded now48 told50 h).bind fun x53 =>
    some x53
  else if k2 = 9 then
    (am_gR h a0 8 11).bind fun plan55 =>
    (am_gI h plan55 3 3).bind fun lines57 =>
    some lines57
  else if k2 = 10 then
    (am_gR h a0 8 5).bind fun seen60 =>
    (am_gI h seen60 4 2).bind fun size62 =>
    some size62
  else if k2 = 11 then
    (am_gR h a0 8 3).bind fun history65 =>
    (am_gI h history65 0 2).bind fun size67 =>
    some size67
  else if k2 = 12 then
    (am_gR h a0 8 0).bind fun tape70 =>
    (am_gI h tape70 6 1).bind fun length72 =>
    some length72
  else none
set_option maxHeartbeats 4000000 in
set_option maxRecDepth 100000 in
theorem lX9_count {sc : Nat × (Nat → Int32)} {a0 : Nat} {a1 : Int32} {h : am_H} {r : Int32} (H : fX9_count a0 a1 h = some r) : am_Cl am_T am_N sc 3 128 [.ref a0, .int a1] h (some (.int r)) h := by
  unfold fX9_count at H
  obtain ⟨_, hO, H⟩ := am_bd H
  obtain ⟨fs0, hO⟩ := am_isO_ok hO
  refine am_mk (q := qX9_count) rfl (fun _ => ⟨_, _, _, _, _, rfl, hO, rfl, rfl⟩) (fun z => absurd z (by decide)) (Nat.le_of_ble_eq_true rfl) rfl ?_
  show am_G sc (am_Cl am_T am_N sc 2) (am_at kX9_count) (fun t => t.2 = h ∧ am_ret 1 (am_at kX9_count) t.1 = some (some (.int r))) ((0, [some (.ref a0), some (.int a1)], []), h)
  refine am_G.fr 1 (g := (1, [some (.ref a0), some (.int a1)], [.int a1])) rfl ?_
  by_cases c1 : a1.toInt < 0 ∨ 12 < a1.toInt
  · rw [if_pos c1] at H
    refine am_G.swD (tgt := 184) rfl c1 rfl ?_
    refine am_G.fr 1 (g := (185, [some (.ref a0), some (.int a1)], [.int ((-1 : Int32))])) rfl ?_
    obtain rfl := Option.some.inj H
    exact am_G.nd ⟨rfl, rfl⟩
  · rw [if_neg c1] at H
    obtain ⟨k2, e3, H⟩ := am_bd H
    by_cases c8 : k2 = 0
    · rw [if_pos c8] at H
      refine am_G.sw (tgt := 68) (k0 := 0) rfl c1 ((Option.some.inj e3).trans c8) rfl rfl ?_
      refine am_G.fr 1 (g := (69, [some (.ref a0), some (.int a1)], [.ref a0])) rfl ?_
      obtain ⟨told4, e5, H⟩ := am_bd H
      refine am_G.gR rfl e5 ?_
      obtain ⟨houses6, e7, H⟩ := am_bd H
      refine am_G.gI rfl e7 ?_
      obtain rfl := Option.some.inj H
      exact am_G.nd ⟨rfl, rfl⟩
    · rw [if_neg c8] at H
      by_cases c13 : k2 = 1
      · rw [if_pos c13] at H
        refine am_G.sw (tgt := 76) (k0 := 1) rfl c1 ((Option.some.inj e3).trans c13) rfl rfl ?_
        refine am_G.fr 1 (g := (77, [some (.ref a0), some (.int a1)], [.ref a0])) rfl ?_
        obtain ⟨told9, e10, H⟩ := am_bd H
        refine am_G.gR rfl e10 ?_
        obtain ⟨days11, e12, H⟩ := am_bd H
        refine am_G.gI rfl e12 ?_
        obtain rfl := Option.some.inj H
        exact am_G.nd ⟨rfl, rfl⟩
      · rw [if_neg c13] at H
        by_cases c18 : k2 = 2
        · rw [if_pos c18] at H
          refine am_G.sw (tgt := 84) (k0 := 2) rfl c1 ((Option.some.inj e3).trans c18) rfl rfl ?_
          refine am_G.fr 1 (g := (85, [some (.ref a0), some (.int a1)], [.ref a0])) rfl ?_
          obtain ⟨told14, e15, H⟩ := am_bd H
          refine am_G.gR rfl e15 ?_
          obtain ⟨stays16, e17, H⟩ := am_bd H
          refine am_G.gI rfl e17 ?_
          obtain rfl := Option.some.inj H
          exact am_G.nd ⟨rfl, rfl⟩
        · rw [if_neg c18] at H
          by_cases c23 : k2 = 3
          · rw [if_pos c23] at H
            refine am_G.sw (tgt := 92) (k0 := 3) rfl c1 ((Option.some.inj e3).trans c23) rfl rfl ?_
            refine am_G.fr 1 (g := (93, [some (.ref a0), some (.int a1)], [.ref a0])) rfl ?_
            obtain ⟨now19, e20, H⟩ := am_bd H
            refine am_G.gR rfl e20 ?_
            obtain ⟨year21, e22, H⟩ := am_bd H
            refine am_G.gI rfl e22 ?_
            obtain rfl := Option.some.inj H
            exact am_G.nd ⟨rfl, rfl⟩
          · rw [if_neg c23] at H
            by_cases c28 : k2 = 4
            · rw [if_pos c28] at H
              refine am_G.sw (tgt := 100) (k0 := 4) rfl c1 ((Option.some.inj e3).trans c28) rfl rfl ?_
              refine am_G.fr 1 (g := (101, [some (.ref a0), some (.int a1)], [.ref a0])) rfl ?_
              obtain ⟨now24, e25, H⟩ := am_bd H
              refine am_G.gR rfl e25 ?_
              obtain ⟨date26, e27, H⟩ := am_bd H
              refine am_G.gI rfl e27 ?_
              obtain rfl := Option.some.inj H
              exact am_G.nd ⟨rfl, rfl⟩
            · rw [if_neg c28] at H
              by_cases c35 : k2 = 5
              · rw [if_pos c35] at H
                refine am_G.sw (tgt := 108) (k0 := 5) rfl c1 ((Option.some.inj e3).trans c35) rfl rfl ?_
                refine am_G.fr 1 (g := (109, [some (.ref a0), some (.int a1)], [.ref a0])) rfl ?_
                obtain ⟨now29, e30, H⟩ := am_bd H
                refine am_G.gR rfl e30 ?_
                refine am_G.fr 1 (g := (113, [some (.ref a0), some (.int a1)], [.ref a0, .ref now29])) rfl ?_
                obtain ⟨told31, e32, H⟩ := am_bd H
                refine am_G.gR rfl e32 ?_
                obtain ⟨x34, e33, H⟩ := am_bd H
                refine am_G.cl [.ref now29, .ref told31] [] (am_Cl.mono (by decide) (lX6_somewhere e33)) rfl rfl rfl rfl (Nat.le_of_ble_eq_true rfl) ?_
                obtain rfl := Option.some.inj H
                exact am_G.nd ⟨rfl, rfl⟩
              · rw [if_neg c35] at H
                by_cases c42 : k2 = 6
                · rw [if_pos c42] at H
                  refine am_G.sw (tgt := 120) (k0 := 6) rfl c1 ((Option.some.inj e3).trans c42) rfl rfl ?_
                  refine am_G.fr 1 (g := (121, [some (.ref a0), some (.int a1)], [.ref a0])) rfl ?_
                  obtain ⟨now36, e37, H⟩ := am_bd H
                  refine am_G.gR rfl e37 ?_
                  refine am_G.fr 1 (g := (125, [some (.ref a0), some (.int a1)], [.ref a0, .ref now36])) rfl ?_
                  obtain ⟨told38, e39, H⟩ := am_bd H
                  refine am_G.gR rfl e39 ?_
                  obtain ⟨x41, e40, H⟩ := am_bd H
                  refine am_G.cl [.ref now36, .ref told38] [] (am_Cl.mono (by decide) (lX6_bedsOfAll e40)) rfl rfl rfl rfl (Nat.le_of_ble_eq_true rfl) ?_
                  obtain rfl := Option.some.inj H
                  exact am_G.nd ⟨rfl, rfl⟩
                · rw [if_neg c42] at H
                  by_cases c47 : k2 = 7
                  · rw [if_pos c47] at H
                    refine am_G.sw (tgt := 132) (k0 := 7) rfl c1 ((Option.some.inj e3).trans c47) rfl rfl ?_
                    refine am_G.fr 1 (g := (133, [some (.ref a0), some (.int a1)], [.ref a0])) rfl ?_
                    obtain ⟨now43, e44, H⟩ := am_bd H
                    refine am_G.gR rfl e44 ?_
                    obtain ⟨turnedOff45, e46, H⟩ := am_bd H
                    refine am_G.gI rfl e46 ?_
                    obtain rfl := Option.some.inj H
                    exact am_G.nd ⟨rfl, rfl⟩
                  · rw [if_neg c47] at H
                    by_cases c54 : k2 = 8
                    · rw [if_pos c54] at H
                      refine am_G.sw (tgt := 140) (k0 := 8) rfl c1 ((Option.some.inj e3).trans c54) rfl rfl ?_
                      refine am_G.fr 1 (g := (141, [some (.ref a0), some (.int a1)], [.ref a0])) rfl ?_
                      obtain ⟨now48, e49, H⟩ := am_bd H
                      refine am_G.gR rfl e49 ?_
                      refine am_G.fr 1 (g := (145, [some (.ref a0), some (.int a1)], [.ref a0, .ref now48])) rfl ?_
                      obtain ⟨told50, e51, H⟩ := am_bd H
                      refine am_G.gR rfl e51 ?_
                      obtain ⟨x53, e52, H⟩ := am_bd H
                      refine am_G.cl [.ref now48, .ref told50] [] (am_Cl.mono (by decide) (lX6_faded e52)) rfl rfl rfl rfl (Nat.le_of_ble_eq_true rfl) ?_
                      obtain rfl := Option.some.inj H
                      exact am_G.nd ⟨rfl, rfl⟩
                    · rw [if_neg c54] at H
                      by_cases c59 : k2 = 9
                      · rw [if_pos c59] at H
                        refine am_G.sw (tgt := 152) (k0 := 9) rfl c1 ((Option.some.inj e3).trans c59) rfl rfl ?_
                        refine am_G.fr 1 (g := (153, [some (.ref a0), some (.int a1)], [.ref a0])) rfl ?_
                        obtain ⟨plan55, e56, H⟩ := am_bd H
                        refine am_G.gR rfl e56 ?_
                        obtain ⟨lines57, e58, H⟩ := am_bd H
                        refine am_G.gI rfl e58 ?_
                        obtain rfl := Option.some.inj H
                        exact am_G.nd ⟨rfl, rfl⟩
                      · rw [if_neg c59] at H
                        by_cases c64 : k2 = 10
                        · rw [if_pos c64] at H
                          refine am_G.sw (tgt := 160) (k0 := 10) rfl c1 ((Option.some.inj e3).trans c64) rfl rfl ?_
                          refine am_G.fr 1 (g := (161, [some (.ref a0), some (.int a1)], [.ref a0])) rfl ?_
                          obtain ⟨seen60, e61, H⟩ := am_bd H
                          refine am_G.gR rfl e61 ?_
                          obtain ⟨size62, e63, H⟩ := am_bd H
                          refine am_G.gI rfl e63 ?_
                          obtain rfl := Option.some.inj H
                          exact am_G.nd ⟨rfl, rfl⟩
                        · rw [if_neg c64] at H
                          by_cases c69 : k2 = 11
                          · rw [if_pos c69] at H
                            refine am_G.sw (tgt := 168) (k0 := 11) rfl c1 ((Option.some.inj e3).trans c69) rfl rfl ?_
                            refine am_G.fr 1 (g := (169, [some (.ref a0), some (.int a1)], [.ref a0])) rfl ?_
                            obtain ⟨history65, e66, H⟩ := am_bd H
                            refine am_G.gR rfl e66 ?_
                            obtain ⟨size67, e68, H⟩ := am_bd H
                            refine am_G.gI rfl e68 ?_
                            obtain rfl := Option.some.inj H
                            exact am_G.nd ⟨rfl, rfl⟩
                          · rw [if_neg c69] at H
                            by_cases c74 : k2 = 12
                            · rw [if_pos c74] at H
                              refine am_G.sw (tgt := 176) (k0 := 12) rfl c1 ((Option.some.inj e3).trans c74) rfl rfl ?_
                              refine am_G.fr 1 (g := (177, [some (.ref a0), some (.int a1)], [.ref a0])) rfl ?_
                              obtain ⟨tape70, e71, H⟩ := am_bd H
                              refine am_G.gR rfl e71 ?_
                              obtain ⟨length72, e73, H⟩ := am_bd H
                              refine am_G.gI rfl e73 ?_
                              obtain rfl := Option.some.inj H
                              exact am_G.nd ⟨rfl, rfl⟩
                            · rw [if_neg c74] at H
                              cases H
