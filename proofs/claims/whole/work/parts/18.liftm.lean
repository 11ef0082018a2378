/-! lifted methods -/
def fX10_keeps_L11 : Nat → Nat → Int32 → am_H → Option (am_H)
  | 0, _, _, _ => none
  | n + 1, v0, v1, h =>
    if ((16 : Int32)) ≤ v1 then
      some h
    else
      (fX10_copies v0 (((47 : Int32)) * (((5 : Int32)) + v1)) (((47 : Int32)) * ((((5 : Int32)) + v1) - ((1 : Int32)))) ((30 : Int32)) h).bind fun hh7 =>
      fX10_keeps_L11 n v0 (v1 + (1 : Int32)) hh7
def fX10_keeps (a0 : Nat) (h : am_H) : Option (am_H) :=
  (am_isO h a0 9).bind fun _ =>
  (am_gI h a0 9 25).bind fun undos1 =>
  Option.bind (
    if ¬ undos1 = ((16 : Int32)) then
      some h
    else
      Option.bind (fX10_keeps_L11 4000 a0 ((1 : Int32)) h) fun hh8 =>
      (am_gI hh8 a0 9 25).bind fun undos10 =>
      (am_pF hh8 a0 9 25 (.int (undos10 - ((1 : Int32))))).bind fun hh12 =>
      some hh12) fun hh3 =>
  (am_gI hh3 a0 9 25).bind fun undos14 =>
  (fX10_copies a0 ((0 : Int32)) (((47 : Int32)) * (((5 : Int32)) + undos14)) ((30 : Int32)) hh3).bind fun hh17 =>
  (am_gI hh17 a0 9 25).bind fun undos18 =>
  (am_pF hh17 a0 9 25 (.int (undos18 + ((1 : Int32))))).bind fun hh20 =>
  some hh20
set_option maxHeartbeats 4000000 in
set_option maxRecDepth 100000 in
theorem lX10_keeps_L11 {sc : Nat × (Nat → Int32)} : ∀ (n : Nat) (v0 : Nat) (v1 : Int32) (h : am_H) (h1 : am_H), fX10_keeps_L11 n v0 v1 h = some h1 → am_G sc (am_Cl am_T am_N sc 1) (am_at kX10_keeps) (fun t => t = ((43, [some (.ref v0), none], []), h1)) ((11, [some (.ref v0), some (.int v1)], []), h) := by
  intro n
  induction n with
  | zero => intro _ _ _ _ H; cases H
  | succ n ih =>
    intro v0 v1 h h1 H
    rw [fX10_keeps_L11] at H
    refine am_G.fr 2 (g := (14, [some (.ref v0), some (.int v1)], [.int ((16 : Int32)), .int v1])) rfl ?_
    by_cases c5 : ((16 : Int32)) ≤ v1
    · rw [if_pos c5] at H
      refine am_G.br (tgt := 43) rfl rfl (if_pos c5) rfl ?_
      obtain rfl := Option.some.inj H
      refine am_G.fg [some (.ref v0), none] (by simp only [am_sub, and_self]) ?_
      exact am_G.nd rfl
    · rw [if_neg c5] at H
      refine am_G.br (tgt := 17) rfl rfl (if_neg c5) rfl ?_
      refine am_G.fr 14 (g := (34, [some (.ref v0), some (.int v1)], [.int ((30 : Int32)), .int (((47 : Int32)) * ((((5 : Int32)) + v1) - ((1 : Int32)))), .int (((47 : Int32)) * (((5 : Int32)) + v1)), .ref v0])) rfl ?_
      obtain ⟨hh7, e6, H⟩ := am_bd H
      refine am_G.cl [.ref v0, .int (((47 : Int32)) * (((5 : Int32)) + v1)), .int (((47 : Int32)) * ((((5 : Int32)) + v1) - ((1 : Int32)))), .int ((30 : Int32))] [] (am_Cl.mono (by decide) (lX10_copies e6)) rfl rfl rfl rfl (Nat.le_of_ble_eq_true rfl) ?_
      refine am_G.fr 2 (g := (11, [some (.ref v0), some (.int (v1 + (1 : Int32)))], [])) rfl ?_
      exact ih _ _ _ _ H
set_option maxHeartbeats 4000000 in
set_option maxRecDepth 100000 in
theorem lX10_keeps {sc : Nat × (Nat → Int32)} {a0 : Nat} {h : am_H} {h1 : am_H} (H : fX10_keeps a0 h = some h1) : am_Cl am_T am_N sc 2 178 [.ref a0] h none h1 := by
  unfold fX10_keeps at H
  obtain ⟨_, hO, H⟩ := am_bd H
  obtain ⟨fs0, hO⟩ := am_isO_ok hO
  refine am_mk (q := qX10_keeps) rfl (fun _ => ⟨_, _, _, _, _, rfl, hO, rfl, rfl⟩) (fun z => absurd z (by decide)) (Nat.le_of_ble_eq_true rfl) rfl ?_
  show am_G sc (am_Cl am_T am_N sc 1) (am_at kX10_keeps) (fun t => t.2 = h1 ∧ am_ret 0 (am_at kX10_keeps) t.1 = some none) ((0, [some (.ref a0), none], []), h)
  refine am_G.fr 1 (g := (1, [some (.ref a0), none], [.ref a0])) rfl ?_
  obtain ⟨undos1, e2, H⟩ := am_bd H
  refine am_G.gI rfl e2 ?_
  refine am_G.fr 1 (g := (6, [some (.ref a0), none], [.int ((16 : Int32)), .int undos1])) rfl ?_
  obtain ⟨hh3, E22, H⟩ := am_bd H
  refine am_G.sq (t := ((53, [some (.ref a0), none], []), hh3)) ?_ ?_
  · clear H
    have H := E22
    clear E22
    by_cases c4 : ¬ undos1 = ((16 : Int32))
    · rw [if_pos c4] at H
      refine am_G.br (tgt := 53) rfl rfl (if_pos c4) rfl ?_
      obtain rfl := Option.some.inj H
      exact am_G.nd rfl
    · rw [if_neg c4] at H
      refine am_G.br (tgt := 9) rfl rfl (if_neg c4) rfl ?_
      refine am_G.fr 2 (g := (11, [some (.ref a0), some (.int ((1 : Int32)))], [])) rfl ?_
      obtain ⟨hh8, E9, H⟩ := am_bd H
      refine am_G.sq (lX10_keeps_L11 _ _ _ _ _ E9) ?_
      clear E9
      refine am_G.fr 2 (g := (45, [some (.ref a0), none], [.ref a0, .ref a0])) rfl ?_
      obtain ⟨undos10, e11, H⟩ := am_bd H
      refine am_G.gI rfl e11 ?_
      refine am_G.fr 2 (g := (50, [some (.ref a0), none], [.int (undos10 - ((1 : Int32))), .ref a0])) rfl ?_
      obtain ⟨hh12, e13, H⟩ := am_bd H
      refine am_G.pF rfl e13 ?_
      obtain rfl := Option.some.inj H
      exact am_G.nd rfl
  · clear E22
    refine am_G.fr 5 (g := (59, [some (.ref a0), none], [.ref a0, .int ((5 : Int32)), .int ((47 : Int32)), .int ((0 : Int32)), .ref a0])) rfl ?_
    obtain ⟨undos14, e15, H⟩ := am_bd H
    refine am_G.gI rfl e15 ?_
    refine am_G.fr 3 (g := (66, [some (.ref a0), none], [.int ((30 : Int32)), .int (((47 : Int32)) * (((5 : Int32)) + undos14)), .int ((0 : Int32)), .ref a0])) rfl ?_
    obtain ⟨hh17, e16, H⟩ := am_bd H
    refine am_G.cl [.ref a0, .int ((0 : Int32)), .int (((47 : Int32)) * (((5 : Int32)) + undos14)), .int ((30 : Int32))] [] (am_Cl.mono (by decide) (lX10_copies e16)) rfl rfl rfl rfl (Nat.le_of_ble_eq_true rfl) ?_
    refine am_G.fr 2 (g := (71, [some (.ref a0), none], [.ref a0, .ref a0])) rfl ?_
    obtain ⟨undos18, e19, H⟩ := am_bd H
    refine am_G.gI rfl e19 ?_
    refine am_G.fr 2 (g := (76, [some (.ref a0), none], [.int (undos18 + ((1 : Int32))), .ref a0])) rfl ?_
    obtain ⟨hh20, e21, H⟩ := am_bd H
    refine am_G.pF rfl e21 ?_
    obtain rfl := Option.some.inj H
    exact am_G.nd ⟨rfl, rfl⟩
def fX10_isHouse (a0 : Nat) (a1 : Int32) (h : am_H) : Option (Int32) :=
  (am_isO h a0 9).bind fun _ =>
  Option.bind (
    if a1 < 0 then
      some ((0 : Int32))
    else
      (fX10_houses a0 h).bind fun x4 =>
      if x4 ≤ a1 then
        some ((0 : Int32))
      else
        some ((1 : Int32))) fun js1 =>
  (am_z01 js1).bind fun b6 =>
  some b6
set_option maxHeartbeats 4000000 in
set_option maxRecDepth 100000 in
theorem lX10_isHouse {sc : Nat × (Nat → Int32)} {a0 : Nat} {a1 : Int32} {h : am_H} {r : Int32} (H : fX10_isHouse a0 a1 h = some r) : am_Cl am_T am_N sc 2 183 [.ref a0, .int a1] h (some (.int r)) h := by
  unfold fX10_isHouse at H
  obtain ⟨_, hO, H⟩ := am_bd H
  obtain ⟨fs0, hO⟩ := am_isO_ok hO
  refine am_mk (q := qX10_isHouse) rfl (fun _ => ⟨_, _, _, _, _, rfl, hO, rfl, rfl⟩) (fun z => absurd z (by decide)) (Nat.le_of_ble_eq_true rfl) rfl ?_
  show am_G sc (am_Cl am_T am_N sc 1) (am_at kX10_isHouse) (fun t => t.2 = h ∧ am_ret 2 (am_at kX10_isHouse) t.1 = some (some (.int r))) ((0, [some (.ref a0), some (.int a1)], []), h)
  refine am_G.fr 1 (g := (1, [some (.ref a0), some (.int a1)], [.int a1])) rfl ?_
  obtain ⟨js1, E8, H⟩ := am_bd H
  refine am_G.sq (t := ((17, [none, none], [.int js1]), h)) ?_ ?_
  · clear H
    have H := E8
    clear E8
    by_cases c2 : a1 < 0
    · rw [if_pos c2] at H
      refine am_G.br (tgt := 16) rfl rfl (if_pos c2) rfl ?_
      refine am_G.fr 1 (g := (17, [some (.ref a0), some (.int a1)], [.int ((0 : Int32))])) rfl ?_
      obtain rfl := Option.some.inj H
      refine am_G.fg [none, none] (by simp only [am_sub, and_self]) ?_
      exact am_G.nd rfl
    · rw [if_neg c2] at H
      refine am_G.br (tgt := 4) rfl rfl (if_neg c2) rfl ?_
      refine am_G.fr 2 (g := (6, [some (.ref a0), some (.int a1)], [.ref a0, .int a1])) rfl ?_
      obtain ⟨x4, e3, H⟩ := am_bd H
      refine am_G.cl [.ref a0] [.int a1] (am_Cl.mono (by decide) (lX10_houses e3)) rfl rfl rfl rfl (Nat.le_of_ble_eq_true rfl) ?_
      by_cases c5 : x4 ≤ a1
      · rw [if_pos c5] at H
        refine am_G.br (tgt := 16) rfl rfl (if_pos c5) rfl ?_
        refine am_G.fr 1 (g := (17, [some (.ref a0), some (.int a1)], [.int ((0 : Int32))])) rfl ?_
        obtain rfl := Option.some.inj H
        refine am_G.fg [none, none] (by simp only [am_sub, and_self]) ?_
        exact am_G.nd rfl
      · rw [if_neg c5] at H
        refine am_G.br (tgt := 12) rfl rfl (if_neg c5) rfl ?_
        refine am_G.fr 2 (g := (17, [some (.ref a0), some (.int a1)], [.int ((1 : Int32))])) rfl ?_
        obtain rfl := Option.some.inj H
        refine am_G.fg [none, none] (by simp only [am_sub, and_self]) ?_
        exact am_G.nd rfl
  · clear E8
    obtain ⟨b6, e7, H⟩ := am_bd H
    obtain rfl := Option.some.inj H
    exact am_G.nd ⟨rfl, am_ret2 rfl e7⟩
def fX10_isDay (a0 : Nat) (a1 : Int32) (h : am_H) : Option (Int32) :=
  (am_isO h a0 9).bind fun _ =>
  Option.bind (
    if a1 < 0 then
      some ((0 : Int32))
    else
      (fX10_days a0 h).bind fun x4 =>
      if x4 ≤ a1 then
        some ((0 : Int32))
      else
        some ((1 : Int32))) fun js1 =>
  (am_z01 js1).bind fun b6 =>
  some b6
set_option maxHeartbeats 4000000 in
set_option maxRecDepth 100000 in
theorem lX10_isDay {sc : Nat × (Nat → Int32)} {a0 : Nat} {a1 : Int32} {h : am_H} {r : Int32} (H : fX10_isDay a0 a1 h = some r) : am_Cl am_T am_N sc 2 184 [.ref a0, .int a1] h (some (.int r)) h := by
  unfold fX10_isDay at H
  obtain ⟨_, hO, H⟩ := am_bd H
  obtain ⟨fs0, hO⟩ := am_isO_ok hO
  refine am_mk (q := qX10_isDay) rfl (fun _ => ⟨_, _, _, _, _, rfl, hO, rfl, rfl⟩) (fun z => absurd z (by decide)) (Nat.le_of_ble_eq_true rfl) rfl ?_
  show am_G sc (am_Cl am_T am_N sc 1) (am_at kX10_isDay) (fun t => t.2 = h ∧ am_ret 2 (am_at kX10_isDay) t.1 = some (some (.int r))) ((0, [some (.ref a0), some (.int a1)], []), h)
  refine am_G.fr 1 (g := (1, [some (.ref a0), some (.int a1)], [.int a1])) rfl ?_
  obtain ⟨js1, E8, H⟩ := am_bd H
  refine am_G.sq (t := ((17, [none, none], [.int js1]), h)) ?_ ?_
  · clear H
    have H := E8
    clear E8
    by_cases c2 : a1 < 0
    · rw [if_pos c2] at H
      refine am_G.br (tgt := 16) rfl rfl (if_pos c2) rfl ?_
      refine am_G.fr 1 (g := (17, [some (.ref a0), some (.int a1)], [.int ((0 : Int32))])) rfl ?_
      obtain rfl := Option.some.inj H
      refine am_G.fg [none, none] (by simp only [am_sub, and_self]) ?_
      exact am_G.nd rfl
    · rw [if_neg c2] at H
      refine am_G.br (tgt := 4) rfl rfl (if_neg c2) rfl ?_
      refine am_G.fr 2 (g := (6, [some (.ref a0), some (.int a1)], [.ref a0, .int a1])) rfl ?_
      obtain ⟨x4, e3, H⟩ := am_bd H
      refine am_G.cl [.ref a0] [.int a1] (am_Cl.mono (by decide) (lX10_days e3)) rfl rfl rfl rfl (Nat.le_of_ble_eq_true rfl) ?_
      by_cases c5 : x4 ≤ a1
      · rw [if_pos c5] at H
        refine am_G.br (tgt := 16) rfl rfl (if_pos c5) rfl ?_
        refine am_G.fr 1 (g := (17, [some (.ref a0), some (.int a1)], [.int ((0 : Int32))])) rfl ?_
        obtain rfl := Option.some.inj H
        refine am_G.fg [none, none] (by simp only [am_sub, and_self]) ?_
        exact am_G.nd rfl
      · rw [if_neg c5] at H
        refine am_G.br (tgt := 12) rfl rfl (if_neg c5) rfl ?_
        refine am_G.fr 2 (g := (17, [some (.ref a0), some (.int a1)], [.int ((1 : Int32))])) rfl ?_
        obtain rfl := Option.some.inj H
        refine am_G.fg [none, none] (by simp only [am_sub, and_self]) ?_
        exact am_G.nd rfl
  · clear E8
    obtain ⟨b6, e7, H⟩ := am_bd H
    obtain rfl := Option.some.inj H
    exact am_G.nd ⟨rfl, am_ret2 rfl e7⟩
def fX10_widthOf (a0 : Nat) (a1 : Int32) (h : am_H) : Option (Int32) :=
  (am_isO h a0 9).bind fun _ =>
  (fX10_dayOf a0 a1 ((0 : Int32)) h).bind fun x2 =>
  Option.bind (
    if ¬ x2 = ((1 : Int32)) then
      some ((1 : Int32))
    else
      some ((2 : Int32))) fun js3 =>
  some js3
set_option maxHeartbeats 4000000 in
set_option maxRecDepth 100000 in
theorem lX10_widthOf {sc : Nat × (Nat → Int32)} {a0 : Nat} {a1 : Int32} {h : am_H} {r : Int32} (H : fX10_widthOf a0 a1 h = some r) : am_Cl am_T am_N sc 2 185 [.ref a0, .int a1] h (some (.int r)) h := by
  unfold fX10_widthOf at H
  obtain ⟨_, hO, H⟩ := am_bd H
  obtain ⟨fs0, hO⟩ := am_isO_ok hO
  refine am_mk (q := qX10_widthOf) rfl (fun _ => ⟨_, _, _, _, _, rfl, hO, rfl, rfl⟩) (fun z => absurd z (by decide)) (Nat.le_of_ble_eq_true rfl) rfl ?_
  show am_G sc (am_Cl am_T am_N sc 1) (am_at kX10_widthOf) (fun t => t.2 = h ∧ am_ret 1 (am_at kX10_widthOf) t.1 = some (some (.int r))) ((0, [some (.ref a0), some (.int a1)], []), h)
  refine am_G.fr 3 (g := (3, [some (.ref a0), some (.int a1)], [.int ((0 : Int32)), .int a1, .ref a0])) rfl ?_
  obtain ⟨x2, e1, H⟩ := am_bd H
  refine am_G.cl [.ref a0, .int a1, .int ((0 : Int32))] [] (am_Cl.mono (by decide) (lX10_dayOf e1)) rfl rfl rfl rfl (Nat.le_of_ble_eq_true rfl) ?_
  refine am_G.fr 1 (g := (7, [some (.ref a0), some (.int a1)], [.int ((1 : Int32)), .int x2])) rfl ?_
  obtain ⟨js3, E5, H⟩ := am_bd H
  refine am_G.sq (t := ((15, [none, none], [.int js3]), h)) ?_ ?_
  · clear H
    have H := E5
    clear E5
    by_cases c4 : ¬ x2 = ((1 : Int32))
    · rw [if_pos c4] at H
      refine am_G.br (tgt := 14) rfl rfl (if_pos c4) rfl ?_
      refine am_G.fr 1 (g := (15, [some (.ref a0), some (.int a1)], [.int ((1 : Int32))])) rfl ?_
      obtain rfl := Option.some.inj H
      refine am_G.fg [none, none] (by simp only [am_sub, and_self]) ?_
      exact am_G.nd rfl
    · rw [if_neg c4] at H
      refine am_G.br (tgt := 10) rfl rfl (if_neg c4) rfl ?_
      refine am_G.fr 2 (g := (15, [some (.ref a0), some (.int a1)], [.int ((2 : Int32))])) rfl ?_
      obtain rfl := Option.some.inj H
      refine am_G.fg [none, none] (by simp only [am_sub, and_self]) ?_
      exact am_G.nd rfl
  · clear E5
    obtain rfl := Option.some.inj H
    exact am_G.nd ⟨rfl, rfl⟩
def fX10_inHouse_L5 : Nat → Nat → Int32 → Int32 → Int32 → Int32 → am_H → Option (Int32)
  | 0, _, _, _, _, _, _ => none
  | n + 1, v0, v1, v2, v3, v4, h =>
    (fX10_days v0 h).bind fun x2 =>
    if x2 ≤ v4 then
      some v3
    else
      (am_gR h v0 9 24).bind fun state4 =>
      (am_aI h 0 state4 ((v1 + ((6 : Int32))) + v4)).bind fun x6 =>
      Option.bind (
        if ¬ x6 = v2 then
          some ((0 : Int32))
        else
          some (((1 : Int32)) <<< (v4 &&& 31))) fun js8 =>
      fX10_inHouse_L5 n v0 v1 v2 (v3 ||| js8) (v4 + (1 : Int32)) h
def fX10_inHouse (a0 : Nat) (a1 : Int32) (a2 : Int32) (h : am_H) : Option (Int32) :=
  (am_isO h a0 9).bind fun _ =>
  Option.bind (fX10_inHouse_L5 4000 a0 a1 a2 ((0 : Int32)) ((0 : Int32)) h) fun lw11 =>
  some lw11
set_option maxHeartbeats 4000000 in
set_option maxRecDepth 100000 in
theorem lX10_inHouse_L5 {sc : Nat × (Nat → Int32)} : ∀ (n : Nat) (v0 : Nat) (v1 : Int32) (v2 : Int32) (v3 : Int32) (v4 : Int32) (h : am_H) (w3 : Int32), fX10_inHouse_L5 n v0 v1 v2 v3 v4 h = some w3 → am_G sc (am_Cl am_T am_N sc 1) (am_at kX10_inHouse) (fun t => t = ((47, [none, none, none, some (.int w3), none], []), h)) ((5, [some (.ref v0), some (.int v1), some (.int v2), some (.int v3), some (.int v4)], []), h) := by
  intro n
  induction n with
  | zero => intro _ _ _ _ _ _ _ H; cases H
  | succ n ih =>
    intro v0 v1 v2 v3 v4 h w3 H
    rw [fX10_inHouse_L5] at H
    refine am_G.fr 2 (g := (8, [some (.ref v0), some (.int v1), some (.int v2), some (.int v3), some (.int v4)], [.ref v0, .int v4])) rfl ?_
    obtain ⟨x2, e1, H⟩ := am_bd H
    refine am_G.cl [.ref v0] [.int v4] (am_Cl.mono (by decide) (lX10_days e1)) rfl rfl rfl rfl (Nat.le_of_ble_eq_true rfl) ?_
    by_cases c3 : x2 ≤ v4
    · rw [if_pos c3] at H
      refine am_G.br (tgt := 47) rfl rfl (if_pos c3) rfl ?_
      obtain rfl := Option.some.inj H
      refine am_G.fg [none, none, none, some (.int v3), none] (by simp only [am_sub, and_self]) ?_
      exact am_G.nd rfl
    · rw [if_neg c3] at H
      refine am_G.br (tgt := 14) rfl rfl (if_neg c3) rfl ?_
      refine am_G.fr 2 (g := (16, [some (.ref v0), some (.int v1), some (.int v2), some (.int v3), some (.int v4)], [.ref v0, .int v3])) rfl ?_
      obtain ⟨state4, e5, H⟩ := am_bd H
      refine am_G.gR rfl e5 ?_
      refine am_G.fr 5 (g := (26, [some (.ref v0), some (.int v1), some (.int v2), some (.int v3), some (.int v4)], [.int ((v1 + ((6 : Int32))) + v4), .ref state4, .int v3])) rfl ?_
      obtain ⟨x6, e7, H⟩ := am_bd H
      refine am_G.aI rfl e7 ?_
      refine am_G.fr 1 (g := (28, [some (.ref v0), some (.int v1), some (.int v2), some (.int v3), some (.int v4)], [.int v2, .int x6, .int v3])) rfl ?_
      obtain ⟨js8, E10, H⟩ := am_bd H
      refine am_G.sq (t := ((39, [some (.ref v0), some (.int v1), some (.int v2), none, some (.int v4)], [.int js8, .int v3]), h)) ?_ ?_
      · clear H
        have H := E10
        clear E10
        by_cases c9 : ¬ x6 = v2
        · rw [if_pos c9] at H
          refine am_G.br (tgt := 38) rfl rfl (if_pos c9) rfl ?_
          refine am_G.fr 1 (g := (39, [some (.ref v0), some (.int v1), some (.int v2), some (.int v3), some (.int v4)], [.int ((0 : Int32)), .int v3])) rfl ?_
          obtain rfl := Option.some.inj H
          refine am_G.fg [some (.ref v0), some (.int v1), some (.int v2), none, some (.int v4)] (by simp only [am_sub, and_self]) ?_
          exact am_G.nd rfl
        · rw [if_neg c9] at H
          refine am_G.br (tgt := 31) rfl rfl (if_neg c9) rfl ?_
          refine am_G.fr 4 (g := (39, [some (.ref v0), some (.int v1), some (.int v2), some (.int v3), some (.int v4)], [.int (((1 : Int32)) <<< (v4 &&& 31)), .int v3])) rfl ?_
          obtain rfl := Option.some.inj H
          refine am_G.fg [some (.ref v0), some (.int v1), some (.int v2), none, some (.int v4)] (by simp only [am_sub, and_self]) ?_
          exact am_G.nd rfl
      · clear E10
        refine am_G.fr 4 (g := (5, [some (.ref v0), some (.int v1), some (.int v2), some (.int (v3 ||| js8)), some (.int (v4 + (1 : Int32)))], [])) rfl ?_
        exact ih _ _ _ _ _ _ _ H
set_option maxHeartbeats 4000000 in
set_option maxRecDepth 100000 in
theorem lX10_inHouse {sc : Nat × (Nat → Int32)} {a0 : Nat} {a1 : Int32} {a2 : Int32} {h : am_H} {r : Int32} (H : fX10_inHouse a0 a1 a2 h = some r) : am_Cl am_T am_N sc 2 186 [.ref a0, .int a1, .int a2] h (some (.int r)) h := by
  unfold fX10_inHouse at H
  obtain ⟨_, hO, H⟩ := am_bd H
  obtain ⟨fs0, hO⟩ := am_isO_ok hO
  refine am_mk (q := qX10_inHouse) rfl (fun _ => ⟨_, _, _, _, _, rfl, hO, rfl, rfl⟩) (fun z => absurd z (by decide)) (Nat.le_of_ble_eq_true rfl) rfl ?_
  show am_G sc (am_Cl am_T am_N sc 1) (am_at kX10_inHouse) (fun t => t.2 = h ∧ am_ret 1 (am_at kX10_inHouse) t.1 = some (some (.int r))) ((0, [some (.ref a0), some (.int a1), some (.int a2), none, none], []), h)
  refine am_G.fr 4 (g := (5, [some (.ref a0), some (.int a1), some (.int a2), some (.int ((0 : Int32))), some (.int ((0 : Int32)))], [])) rfl ?_
  obtain ⟨lw11, E12, H⟩ := am_bd H
  refine am_G.sq (lX10_inHouse_L5 _ _ _ _ _ _ _ _ E12) ?_
  clear E12
  refine am_G.fr 1 (g := (48, [none, none, none, some (.int lw11), none], [.int lw11])) rfl ?_
  obtain rfl := Option.some.inj H
  exact am_G.nd ⟨rfl, rfl⟩
def fX10_freeOf_L14 : Nat → Nat → Int32 → Int32 → Int32 → Int32 → am_H → Option (Int32)
  | 0, _, _, _, _, _, _ => none
  | n + 1, v0, v1, v2, v3, v4, h =>
    (fX10_days v0 h).bind fun x6 =>
    if x6 ≤ v4 then
      some v3
    else
      (am_gR h v0 9 24).bind fun state8 =>
      (am_aI h 0 state8 ((v1 + ((6 : Int32))) + v4)).bind fun x10 =>
      Option.bind (
        if ¬ x10 = v2 then
          some ((0 : Int32))
        else
          (fX10_widthOf v0 v4 h).bind fun x15 =>
          some x15) fun js12 =>
      fX10_freeOf_L14 n v0 v1 v2 (v3 - js12) (v4 + (1 : Int32)) h
def fX10_freeOf (a0 : Nat) (a1 : Int32) (a2 : Int32) (h : am_H) : Option (Int32) :=
  (am_isO h a0 9).bind fun _ =>
  (am_gR h a0 9 24).bind fun state1 =>
  (am_aI h 0 state1 ((a1 + ((2 : Int32))) + a2)).bind fun x3 =>
  Option.bind (fX10_freeOf_L14 4000 a0 a1 a2 x3 ((0 : Int32)) h) fun lw17 =>
  some lw17
set_option maxHeartbeats 4000000 in
set_option maxRecDepth 100000 in
theorem lX10_freeOf_L14 {sc : Nat × (Nat → Int32)} : ∀ (n : Nat) (v0 : Nat) (v1 : Int32) (v2 : Int32) (v3 : Int32) (v4 : Int32) (h : am_H) (w3 : Int32), fX10_freeOf_L14 n v0 v1 v2 v3 v4 h = some w3 → am_G sc (am_Cl am_T am_N sc 2) (am_at kX10_freeOf) (fun t => t = ((58, [none, none, none, some (.int w3), none], []), h)) ((14, [some (.ref v0), some (.int v1), some (.int v2), some (.int v3), some (.int v4)], []), h) := by
  intro n
  induction n with
  | zero => intro _ _ _ _ _ _ _ H; cases H
  | succ n ih =>
    intro v0 v1 v2 v3 v4 h w3 H
    rw [fX10_freeOf_L14] at H
    refine am_G.fr 2 (g := (17, [some (.ref v0), some (.int v1), some (.int v2), some (.int v3), some (.int v4)], [.ref v0, .int v4])) rfl ?_
    obtain ⟨x6, e5, H⟩ := am_bd H
    refine am_G.cl [.ref v0] [.int v4] (am_Cl.mono (by decide) (lX10_days e5)) rfl rfl rfl rfl (Nat.le_of_ble_eq_true rfl) ?_
    by_cases c7 : x6 ≤ v4
    · rw [if_pos c7] at H
      refine am_G.br (tgt := 58) rfl rfl (if_pos c7) rfl ?_
      obtain rfl := Option.some.inj H
      refine am_G.fg [none, none, none, some (.int v3), none] (by simp only [am_sub, and_self]) ?_
      exact am_G.nd rfl
    · rw [if_neg c7] at H
      refine am_G.br (tgt := 23) rfl rfl (if_neg c7) rfl ?_
      refine am_G.fr 2 (g := (25, [some (.ref v0), some (.int v1), some (.int v2), some (.int v3), some (.int v4)], [.ref v0, .int v3])) rfl ?_
      obtain ⟨state8, e9, H⟩ := am_bd H
      refine am_G.gR rfl e9 ?_
      refine am_G.fr 5 (g := (35, [some (.ref v0), some (.int v1), some (.int v2), some (.int v3), some (.int v4)], [.int ((v1 + ((6 : Int32))) + v4), .ref state8, .int v3])) rfl ?_
      obtain ⟨x10, e11, H⟩ := am_bd H
      refine am_G.aI rfl e11 ?_
      refine am_G.fr 1 (g := (37, [some (.ref v0), some (.int v1), some (.int v2), some (.int v3), some (.int v4)], [.int v2, .int x10, .int v3])) rfl ?_
      obtain ⟨js12, E16, H⟩ := am_bd H
      refine am_G.sq (t := ((50, [some (.ref v0), some (.int v1), some (.int v2), none, some (.int v4)], [.int js12, .int v3]), h)) ?_ ?_
      · clear H
        have H := E16
        clear E16
        by_cases c13 : ¬ x10 = v2
        · rw [if_pos c13] at H
          refine am_G.br (tgt := 49) rfl rfl (if_pos c13) rfl ?_
          refine am_G.fr 1 (g := (50, [some (.ref v0), some (.int v1), some (.int v2), some (.int v3), some (.int v4)], [.int ((0 : Int32)), .int v3])) rfl ?_
          obtain rfl := Option.some.inj H
          refine am_G.fg [some (.ref v0), some (.int v1), some (.int v2), none, some (.int v4)] (by simp only [am_sub, and_self]) ?_
          exact am_G.nd rfl
        · rw [if_neg c13] at H
          refine am_G.br (tgt := 40) rfl rfl (if_neg c13) rfl ?_
          refine am_G.fr 2 (g := (43, [some (.ref v0), some (.int v1), some (.int v2), some (.int v3), some (.int v4)], [.int v4, .ref v0, .int v3])) rfl ?_
          obtain ⟨x15, e14, H⟩ := am_bd H
          refine am_G.cl [.ref v0, .int v4] [.int v3] (am_Cl.mono (by decide) (lX10_widthOf e14)) rfl rfl rfl rfl (Nat.le_of_ble_eq_true rfl) ?_
          refine am_G.fr 1 (g := (50, [some (.ref v0), some (.int v1), some (.int v2), some (.int v3), some (.int v4)], [.int x15, .int v3])) rfl ?_
          obtain rfl := Option.some.inj H
          refine am_G.fg [some (.ref v0), some (.int v1), some (.int v2), none, some (.int v4)] (by simp only [am_sub, and_self]) ?_
          exact am_G.nd rfl
      · clear E16
        refine am_G.fr 4 (g := (14, [some (.ref v0), some (.int v1), some (.int v2), some (.int (v3 - js12)), some (.int (v4 + (1 : Int32)))], [])) rfl ?_
        exact ih _ _ _ _ _ _ _ H
set_option maxHeartbeats 4000000 in
set_option maxRecDepth 100000 in
theorem lX10_freeOf {sc : Nat × (Nat → Int32)} {a0 : Nat} {a1 : Int32} {a2 : Int32} {h : am_H} {r : Int32} (H : fX10_freeOf a0 a1 a2 h = some r) : am_Cl am_T am_N sc 3 187 [.ref a0, .int a1, .int a2] h (some (.int r)) h := by
  unfold fX10_freeOf at H
  obtain ⟨_, hO, H⟩ := am_bd H
  obtain ⟨fs0, hO⟩ := am_isO_ok hO
  refine am_mk (q := qX10_freeOf) rfl (fun _ => ⟨_, _, _, _, _, rfl, hO, rfl, rfl⟩) (fun z => absurd z (by decide)) (Nat.le_of_ble_eq_true rfl) rfl ?_
  show am_G sc (am_Cl am_T am_N sc 2) (am_at kX10_freeOf) (fun t => t.2 = h ∧ am_ret 1 (am_at kX10_freeOf) t.1 = some (some (.int r))) ((0, [some (.ref a0), some (.int a1), some (.int a2), none, none], []), h)
  refine am_G.fr 1 (g := (1, [some (.ref a0), some (.int a1), some (.int a2), none, none], [.ref a0])) rfl ?_
  obtain ⟨state1, e2, H⟩ := am_bd H
  refine am_G.gR rfl e2 ?_
  refine am_G.fr 5 (g := (9, [some (.ref a0), some (.int a1), some (.int a2), none, none], [.int ((a1 + ((2 : Int32))) + a2), .ref state1])) rfl ?_
  obtain ⟨x3, e4, H⟩ := am_bd H
  refine am_G.aI rfl e4 ?_
  refine am_G.fr 3 (g := (14, [some (.ref a0), some (.int a1), some (.int a2), some (.int x3), some (.int ((0 : Int32)))], [])) rfl ?_
  obtain ⟨lw17, E18, H⟩ := am_bd H
  refine am_G.sq (lX10_freeOf_L14 _ _ _ _ _ _ _ _ E18) ?_
  clear E18
  refine am_G.fr 1 (g := (59, [none, none, none, some (.int lw17), none], [.int lw17])) rfl ?_
  obtain rfl := Option.some.inj H
  exact am_G.nd ⟨rfl, rfl⟩
def fX10_doesHold (a0 : Nat) (a1 : Int32) (a2 : Int32) (a3 : Int32) (h : am_H) : Option (Int32) :=
  (am_isO h a0 9).bind fun _ =>
  (fX10_freeOf a0 a1 a2 h).bind fun x2 =>
  (fX10_widthOf a0 a3 h).bind fun x4 =>
  Option.bind (
    if x2 < x4 then
      some ((0 : Int32))
    else
      (fX10_inHouse a0 a1 a2 h).bind fun x8 =>
      (fX10_dayOf a0 a3 ((4 : Int32)) h).bind fun x10 =>
      if ¬ (x8 &&& x10) = 0 then
        some ((0 : Int32))
      else
        some ((1 : Int32))) fun js5 =>
  (am_z01 js5).bind fun b12 =>
  some b12
set_option maxHeartbeats 4000000 in
set_option maxRecDepth 100000 in
theorem lX10_doesHold {sc : Nat × (Nat → Int32)} {a0 : Nat} {a1 : Int32} {a2 : Int32} {a3 : Int32} {h : am_H} {r : Int32} (H : fX10_doesHold a0 a1 a2 a3 h = some r) : am_Cl am_T am_N sc 4 188 [.ref a0, .int a1, .int a2, .int a3] h (some (.int r)) h := by
  unfold fX10_doesHold at H
  obtain ⟨_, hO, H⟩ := am_bd H
  obtain ⟨fs0, hO⟩ := am_isO_ok hO
  refine am_mk (q := qX10_doesHold) rfl (fun _ => ⟨_, _, _, _, _, rfl, hO, rfl, rfl⟩) (fun z => absurd z (by decide)) (Nat.le_of_ble_eq_true rfl) rfl ?_
  show am_G sc (am_Cl am_T am_N sc 3) (am_at kX10_doesHold) (fun t => t.2 = h ∧ am_ret 2 (am_at kX10_doesHold) t.1 = some (some (.int r))) ((0, [some (.ref a0), some (.int a1), some (.int a2), some (.int a3)], []), h)
  refine am_G.fr 3 (g := (3, [some (.ref a0), some (.int a1), some (.int a2), some (.int a3)], [.int a2, .int a1, .ref a0])) rfl ?_
  obtain ⟨x2, e1, H⟩ := am_bd H
  refine am_G.cl [.ref a0, .int a1, .int a2] [] (am_Cl.mono (by decide) (lX10_freeOf e1)) rfl rfl rfl rfl (Nat.le_of_ble_eq_true rfl) ?_
  refine am_G.fr 2 (g := (8, [some (.ref a0), some (.int a1), some (.int a2), some (.int a3)], [.int a3, .ref a0, .int x2])) rfl ?_
  obtain ⟨x4, e3, H⟩ := am_bd H
  refine am_G.cl [.ref a0, .int a3] [.int x2] (am_Cl.mono (by decide) (lX10_widthOf e3)) rfl rfl rfl rfl (Nat.le_of_ble_eq_true rfl) ?_
  obtain ⟨js5, E14, H⟩ := am_bd H
  refine am_G.sq (t := ((35, [none, none, none, none], [.int js5]), h)) ?_ ?_
  · clear H
    have H := E14
    clear E14
    by_cases c6 : x2 < x4
    · rw [if_pos c6] at H
      refine am_G.br (tgt := 34) rfl rfl (if_pos c6) rfl ?_
      refine am_G.fr 1 (g := (35, [some (.ref a0), some (.int a1), some (.int a2), some (.int a3)], [.int ((0 : Int32))])) rfl ?_
      obtain rfl := Option.some.inj H
      refine am_G.fg [none, none, none, none] (by simp only [am_sub, and_self]) ?_
      exact am_G.nd rfl
    · rw [if_neg c6] at H
      refine am_G.br (tgt := 14) rfl rfl (if_neg c6) rfl ?_
      refine am_G.fr 3 (g := (17, [some (.ref a0), some (.int a1), some (.int a2), some (.int a3)], [.int a2, .int a1, .ref a0])) rfl ?_
      obtain ⟨x8, e7, H⟩ := am_bd H
      refine am_G.cl [.ref a0, .int a1, .int a2] [] (am_Cl.mono (by decide) (lX10_inHouse e7)) rfl rfl rfl rfl (Nat.le_of_ble_eq_true rfl) ?_
      refine am_G.fr 3 (g := (23, [some (.ref a0), some (.int a1), some (.int a2), some (.int a3)], [.int ((4 : Int32)), .int a3, .ref a0, .int x8])) rfl ?_
      obtain ⟨x10, e9, H⟩ := am_bd H
      refine am_G.cl [.ref a0, .int a3, .int ((4 : Int32))] [.int x8] (am_Cl.mono (by decide) (lX10_dayOf e9)) rfl rfl rfl rfl (Nat.le_of_ble_eq_true rfl) ?_
      refine am_G.fr 1 (g := (27, [some (.ref a0), some (.int a1), some (.int a2), some (.int a3)], [.int (x8 &&& x10)])) rfl ?_
      by_cases c11 : ¬ (x8 &&& x10) = 0
      · rw [if_pos c11] at H
        refine am_G.br (tgt := 34) rfl rfl (if_pos c11) rfl ?_
        refine am_G.fr 1 (g := (35, [some (.ref a0), some (.int a1), some (.int a2), some (.int a3)], [.int ((0 : Int32))])) rfl ?_
        obtain rfl := Option.some.inj H
        refine am_G.fg [none, none, none, none] (by simp only [am_sub, and_self]) ?_
        exact am_G.nd rfl
      · rw [if_neg c11] at H
        refine am_G.br (tgt := 30) rfl rfl (if_neg c11) rfl ?_
        refine am_G.fr 2 (g := (35, [some (.ref a0), some (.int a1), some (.int a2), some (.int a3)], [.int ((1 : Int32))])) rfl ?_
        obtain rfl := Option.some.inj H
        refine am_G.fg [none, none, none, none] (by simp only [am_sub, and_self]) ?_
        exact am_G.nd rfl
  · clear E14
    obtain ⟨b12, e13, H⟩ := am_bd H
    obtain rfl := Option.some.inj H
    exact am_G.nd ⟨rfl, am_ret2 rfl e13⟩
def fX10_bits_L4 : Nat → Int32 → Int32 → Int32 → am_H → Option (Int32)
  | 0, _, _, _, _ => none
  | n + 1, v0, v1, v2, h =>
    if ((30 : Int32)) ≤ v2 then
      some v1
    else
      fX10_bits_L4 n v0 (v1 + ((v0 >>> (v2 &&& 31)) &&& ((1 : Int32)))) (v2 + (1 : Int32)) h
def fX10_bits (a0 : Int32) (h : am_H) : Option (Int32) :=
  Option.bind (fX10_bits_L4 4000 a0 ((0 : Int32)) ((0 : Int32)) h) fun lw2 =>
  some lw2
set_option maxHeartbeats 4000000 in
set_option maxRecDepth 100000 in
theorem lX10_bits_L4 {sc : Nat × (Nat → Int32)} : ∀ (n : Nat) (v0 : Int32) (v1 : Int32) (v2 : Int32) (h : am_H) (w1 : Int32), fX10_bits_L4 n v0 v1 v2 h = some w1 → am_G sc (am_Cl am_T am_N sc 0) (am_at kX10_bits) (fun t => t = ((24, [none, some (.int w1), none], []), h)) ((4, [some (.int v0), some (.int v1), some (.int v2)], []), h) := by
  intro n
  induction n with
  | zero => intro _ _ _ _ _ H; cases H
  | succ n ih =>
    intro v0 v1 v2 h w1 H
    rw [fX10_bits_L4] at H
    refine am_G.fr 2 (g := (7, [some (.int v0), some (.int v1), some (.int v2)], [.int ((30 : Int32)), .int v2])) rfl ?_
    by_cases c1 : ((30 : Int32)) ≤ v2
    · rw [if_pos c1] at H
      refine am_G.br (tgt := 24) rfl rfl (if_pos c1) rfl ?_
      obtain rfl := Option.some.inj H
      refine am_G.fg [none, some (.int v1), none] (by simp only [am_sub, and_self]) ?_
      exact am_G.nd rfl
    · rw [if_neg c1] at H
      refine am_G.br (tgt := 10) rfl rfl (if_neg c1) rfl ?_
      refine am_G.fr 10 (g := (4, [some (.int v0), some (.int (v1 + ((v0 >>> (v2 &&& 31)) &&& ((1 : Int32))))), some (.int (v2 + (1 : Int32)))], [])) rfl ?_
      exact ih _ _ _ _ _ H
set_option maxHeartbeats 4000000 in
set_option maxRecDepth 100000 in
theorem lX10_bits {sc : Nat × (Nat → Int32)} {a0 : Int32} {h : am_H} {r : Int32} (H : fX10_bits a0 h = some r) : am_Cl am_T am_N sc 1 189 [.int a0] h (some (.int r)) h := by
  unfold fX10_bits at H
  refine am_mk (q := qX10_bits) rfl (fun z => absurd z (by decide)) (fun z => absurd z (by decide)) (Nat.le_of_ble_eq_true rfl) rfl ?_
  show am_G sc (am_Cl am_T am_N sc 0) (am_at kX10_bits) (fun t => t.2 = h ∧ am_ret 1 (am_at kX10_bits) t.1 = some (some (.int r))) ((0, [some (.int a0), none, none], []), h)
  refine am_G.fr 4 (g := (4, [some (.int a0), some (.int ((0 : Int32))), some (.int ((0 : Int32)))], [])) rfl ?_
  obtain ⟨lw2, E3, H⟩ := am_bd H
  refine am_G.sq (lX10_bits_L4 _ _ _ _ _ _ E3) ?_
  clear E3
  refine am_G.fr 1 (g := (25, [none, some (.int lw2), none], [.int lw2])) rfl ?_
  obtain rfl := Option.some.inj H
  exact am_G.nd ⟨rfl, rfl⟩
def fX10_somewhere_L4 : Nat → Nat → Int32 → Int32 → Int32 → am_H → Option (Int32)
  | 0, _, _, _, _, _ => none
  | n + 1, v0, v1, v2, v3, h =>
    (fX10_days v0 h).bind fun x2 =>
    if x2 ≤ v3 then
      some v2
    else
      (am_gR h v0 9 24).bind fun state4 =>
      (am_aI h 0 state4 ((v1 + ((6 : Int32))) + v3)).bind fun x6 =>
      Option.bind (
        if x6 < 0 then
          some ((0 : Int32))
        else
          some (((1 : Int32)) <<< (v3 &&& 31))) fun js8 =>
      fX10_somewhere_L4 n v0 v1 (v2 ||| js8) (v3 + (1 : Int32)) h
def fX10_somewhere (a0 : Nat) (a1 : Int32) (h : am_H) : Option (Int32) :=
  (am_isO h a0 9).bind fun _ =>
  Option.bind (fX10_somewhere_L4 4000 a0 a1 ((0 : Int32)) ((0 : Int32)) h) fun lw11 =>
  some lw11
set_option maxHeartbeats 4000000 in
set_option maxRecDepth 100000 in
theorem lX10_somewhere_L4 {sc : Nat × (Nat → Int32)} : ∀ (n : Nat) (v0 : Nat) (v1 : Int32) (v2 : Int32) (v3 : Int32) (h : am_H) (w2 : Int32), fX10_somewhere_L4 n v0 v1 v2 v3 h = some w2 → am_G sc (am_Cl am_T am_N sc 1) (am_at kX10_somewhere) (fun t => t = ((42, [none, none, some (.int w2), none], []), h)) ((4, [some (.ref v0), some (.int v1), some (.int v2), some (.int v3)], []), h) := by
  intro n
  induction n with
  | zero => intro _ _ _ _ _ _ H; cases H
  | succ n ih =>
    intro v0 v1 v2 v3 h w2 H
    rw [fX10_somewhere_L4] at H
    refine am_G.fr 2 (g := (6, [some (.ref v0), some (.int v1), some (.int v2), some (.int v3)], [.ref v0, .int v3])) rfl ?_
    obtain ⟨x2, e1, H⟩ := am_bd H
    refine am_G.cl [.ref v0] [.int v3] (am_Cl.mono (by decide) (lX10_days e1)) rfl rfl rfl rfl (Nat.le_of_ble_eq_true rfl) ?_
    by_cases c3 : x2 ≤ v3
    · rw [if_pos c3] at H
      refine am_G.br (tgt := 42) rfl rfl (if_pos c3) rfl ?_
      obtain rfl := Option.some.inj H
      refine am_G.fg [none, none, some (.int v2), none] (by simp only [am_sub, and_self]) ?_
      exact am_G.nd rfl
    · rw [if_neg c3] at H
      refine am_G.br (tgt := 12) rfl rfl (if_neg c3) rfl ?_
      refine am_G.fr 2 (g := (14, [some (.ref v0), some (.int v1), some (.int v2), some (.int v3)], [.ref v0, .int v2])) rfl ?_
      obtain ⟨state4, e5, H⟩ := am_bd H
      refine am_G.gR rfl e5 ?_
      refine am_G.fr 5 (g := (23, [some (.ref v0), some (.int v1), some (.int v2), some (.int v3)], [.int ((v1 + ((6 : Int32))) + v3), .ref state4, .int v2])) rfl ?_
      obtain ⟨x6, e7, H⟩ := am_bd H
      refine am_G.aI rfl e7 ?_
      obtain ⟨js8, E10, H⟩ := am_bd H
      refine am_G.sq (t := ((34, [some (.ref v0), some (.int v1), none, some (.int v3)], [.int js8, .int v2]), h)) ?_ ?_
      · clear H
        have H := E10
        clear E10
        by_cases c9 : x6 < 0
        · rw [if_pos c9] at H
          refine am_G.br (tgt := 33) rfl rfl (if_pos c9) rfl ?_
          refine am_G.fr 1 (g := (34, [some (.ref v0), some (.int v1), some (.int v2), some (.int v3)], [.int ((0 : Int32)), .int v2])) rfl ?_
          obtain rfl := Option.some.inj H
          refine am_G.fg [some (.ref v0), some (.int v1), none, some (.int v3)] (by simp only [am_sub, and_self]) ?_
          exact am_G.nd rfl
        · rw [if_neg c9] at H
          refine am_G.br (tgt := 27) rfl rfl (if_neg c9) rfl ?_
          refine am_G.fr 4 (g := (34, [some (.ref v0), some (.int v1), some (.int v2), some (.int v3)], [.int (((1 : Int32)) <<< (v3 &&& 31)), .int v2])) rfl ?_
          obtain rfl := Option.some.inj H
          refine am_G.fg [some (.ref v0), some (.int v1), none, some (.int v3)] (by simp only [am_sub, and_self]) ?_
          exact am_G.nd rfl
      · clear E10
        refine am_G.fr 4 (g := (4, [some (.ref v0), some (.int v1), some (.int (v2 ||| js8)), some (.int (v3 + (1 : Int32)))], [])) rfl ?_
        exact ih _ _ _ _ _ _ H
set_option maxHeartbeats 4000000 in
set_option maxRecDepth 100000 in
theorem lX10_somewhere {sc : Nat × (Nat → Int32)} {a0 : Nat} {a1 : Int32} {h : am_H} {r : Int32} (H : fX10_somewhere a0 a1 h = some r) : am_Cl am_T am_N sc 2 190 [.ref a0, .int a1] h (some (.int r)) h := by
  unfold fX10_somewhere at H
  obtain ⟨_, hO, H⟩ := am_bd H
  obtain ⟨fs0, hO⟩ := am_isO_ok hO
  refine am_mk (q := qX10_somewhere) rfl (fun _ => ⟨_, _, _, _, _, rfl, hO, rfl, rfl⟩) (fun z => absurd z (by decide)) (Nat.le_of_ble_eq_true rfl) rfl ?_
  show am_G sc (am_Cl am_T am_N sc 1) (am_at kX10_somewhere) (fun t => t.2 = h ∧ am_ret 1 (am_at kX10_somewhere) t.1 = some (some (.int r))) ((0, [some (.ref a0), some (.int a1), none, none], []), h)
  refine am_G.fr 4 (g := (4, [some (.ref a0), some (.int a1), some (.int ((0 : Int32))), some (.int ((0 : Int32)))], [])) rfl ?_
  obtain ⟨lw11, E12, H⟩ := am_bd H
  refine am_G.sq (lX10_somewhere_L4 _ _ _ _ _ _ _ E12) ?_
  clear E12
  refine am_G.fr 1 (g := (43, [none, none, some (.int lw11), none], [.int lw11])) rfl ?_
  obtain rfl := Option.some.inj H
  exact am_G.nd ⟨rfl, rfl⟩
def fX10_leaves (a0 : Nat) (a1 : Int32) (a2 : Int32) (h : am_H) : Option (am_H) :=
  (am_isO h a0 9).bind fun _ =>
  (am_gR h a0 9 24).bind fun state1 =>
  (am_sI h 0 state1 ((a1 + ((6 : Int32))) + a2) ((-1 : Int32))).bind fun hh3 =>
  (am_gR hh3 a0 9 24).bind fun state5 =>
  (am_sI hh3 0 state5 ((a1 + ((12 : Int32))) + a2) ((0 : Int32))).bind fun hh7 =>
  some hh7
set_option maxHeartbeats 4000000 in
set_option maxRecDepth 100000 in
theorem lX10_leaves {sc : Nat × (Nat → Int32)} {a0 : Nat} {a1 : Int32} {a2 : Int32} {h : am_H} {h1 : am_H} (H : fX10_leaves a0 a1 a2 h = some h1) : am_Cl am_T am_N sc 1 191 [.ref a0, .int a1, .int a2] h none h1 := by
  unfold fX10_leaves at H
  obtain ⟨_, hO, H⟩ := am_bd H
  obtain ⟨fs0, hO⟩ := am_isO_ok hO
  refine am_mk (q := qX10_leaves) rfl (fun _ => ⟨_, _, _, _, _, rfl, hO, rfl, rfl⟩) (fun z => absurd z (by decide)) (Nat.le_of_ble_eq_true rfl) rfl ?_
  show am_G sc (am_Cl am_T am_N sc 0) (am_at kX10_leaves) (fun t => t.2 = h1 ∧ am_ret 0 (am_at kX10_leaves) t.1 = some none) ((0, [some (.ref a0), some (.int a1), some (.int a2)], []), h)
  refine am_G.fr 1 (g := (1, [some (.ref a0), some (.int a1), some (.int a2)], [.ref a0])) rfl ?_
  obtain ⟨state1, e2, H⟩ := am_bd H
  refine am_G.gR rfl e2 ?_
  refine am_G.fr 6 (g := (11, [some (.ref a0), some (.int a1), some (.int a2)], [.int ((-1 : Int32)), .int ((a1 + ((6 : Int32))) + a2), .ref state1])) rfl ?_
  obtain ⟨hh3, e4, H⟩ := am_bd H
  refine am_G.sI rfl e4 ?_
  refine am_G.fr 1 (g := (13, [some (.ref a0), some (.int a1), some (.int a2)], [.ref a0])) rfl ?_
  obtain ⟨state5, e6, H⟩ := am_bd H
  refine am_G.gR rfl e6 ?_
  refine am_G.fr 6 (g := (23, [some (.ref a0), some (.int a1), some (.int a2)], [.int ((0 : Int32)), .int ((a1 + ((12 : Int32))) + a2), .ref state5])) rfl ?_
  obtain ⟨hh7, e8, H⟩ := am_bd H
  refine am_G.sI rfl e8 ?_
  obtain rfl := Option.some.inj H
  exact am_G.nd ⟨rfl, rfl⟩
def fX10_isDate (a0 : Nat) (a1 : Int32) (a2 : Int32) (h : am_H) : Option (Int32) :=
  (am_isO h a0 9).bind fun _ =>
  (fX10_dayOf a0 a2 ((0 : Int32)) h).bind fun x2 =>
  (am_gR h a0 9 24).bind fun state3 =>
  (am_aI h 0 state3 (a1 + ((0 : Int32)))).bind fun x5 =>
  (am_rm' x5 ((12 : Int32))).bind fun q7 =>
  Option.bind (
    if ¬ x2 = ((2 : Int32)) then
      (am_gR h a0 9 27).bind fun dates11 =>
      (am_aI h 0 dates11 a2).bind fun x13 =>
      if ¬ q7 = x13 then
        some ((0 : Int32))
      else
        if ¬ x2 = ((3 : Int32)) then
          some ((1 : Int32))
        else
          (am_gR h a0 9 24).bind fun state17 =>
          (am_aI h 0 state17 (a1 + ((0 : Int32)))).bind fun x19 =>
          (am_dv x19 ((12 : Int32))).bind fun q21 =>
          (am_rm' q21 ((4 : Int32))).bind fun q23 =>
          if ¬ q23 = 0 then
            some ((0 : Int32))
          else
            some ((1 : Int32))
    else
      (am_rm' (q7 + ((1 : Int32))) ((12 : Int32))).bind fun q26 =>
      (am_gR h a0 9 27).bind fun dates28 =>
      (am_aI h 0 dates28 a2).bind fun x30 =>
      if ¬ q26 = x30 then
        some ((0 : Int32))
      else
        some ((1 : Int32))) fun js9 =>
  (am_z01 js9).bind fun b33 =>
  some b33
set_option maxHeartbeats 4000000 in
set_option maxRecDepth 100000 in
theorem lX10_isDate {sc : Nat × (Nat → Int32)} {a0 : Nat} {a1 : Int32} {a2 : Int32} {h : am_H} {r : Int32} (H : fX10_isDate a0 a1 a2 h = some r) : am_Cl am_T am_N sc 2 192 [.ref a0, .int a1, .int a2] h (some (.int r)) h := by
  unfold fX10_isDate at H
  obtain ⟨_, hO, H⟩ := am_bd H
  obtain ⟨fs0, hO⟩ := am_isO_ok hO
  refine am_mk (q := qX10_isDate) rfl (fun _ => ⟨_, _, _, _, _, rfl, hO, rfl, rfl⟩) (fun z => absurd z (by decide)) (Nat.le_of_ble_eq_true rfl) rfl ?_
  show am_G sc (am_Cl am_T am_N sc 1) (am_at kX10_isDate) (fun t => t.2 = h ∧ am_ret 2 (am_at kX10_isDate) t.1 = some (some (.int r))) ((0, [some (.ref a0), some (.int a1), some (.int a2), none, none], []), h)
  refine am_G.fr 3 (g := (3, [some (.ref a0), some (.int a1), some (.int a2), none, none], [.int ((0 : Int32)), .int a2, .ref a0])) rfl ?_
  obtain ⟨x2, e1, H⟩ := am_bd H
  refine am_G.cl [.ref a0, .int a2, .int ((0 : Int32))] [] (am_Cl.mono (by decide) (lX10_dayOf e1)) rfl rfl rfl rfl (Nat.le_of_ble_eq_true rfl) ?_
  refine am_G.fr 2 (g := (8, [some (.ref a0), some (.int a1), some (.int a2), some (.int x2), none], [.ref a0])) rfl ?_
  obtain ⟨state3, e4, H⟩ := am_bd H
  refine am_G.gR rfl e4 ?_
  refine am_G.fr 3 (g := (14, [some (.ref a0), some (.int a1), some (.int a2), some (.int x2), none], [.int (a1 + ((0 : Int32))), .ref state3])) rfl ?_
  obtain ⟨x5, e6, H⟩ := am_bd H
  refine am_G.aI rfl e6 ?_
  refine am_G.fr 1 (g := (17, [some (.ref a0), some (.int a1), some (.int a2), some (.int x2), none], [.int ((12 : Int32)), .int x5])) rfl ?_
  obtain ⟨q7, e8, H⟩ := am_bd H
  refine am_G.rm rfl e8 ?_
  refine am_G.fr 3 (g := (22, [some (.ref a0), some (.int a1), some (.int a2), some (.int x2), some (.int q7)], [.int ((2 : Int32)), .int x2])) rfl ?_
  obtain ⟨js9, E35, H⟩ := am_bd H
  refine am_G.sq (t := ((86, [none, none, none, none, none], [.int js9]), h)) ?_ ?_
  · clear H
    have H := E35
    clear E35
    by_cases c10 : ¬ x2 = ((2 : Int32))
    · rw [if_pos c10] at H
      refine am_G.br (tgt := 49) rfl rfl (if_pos c10) rfl ?_
      refine am_G.fr 2 (g := (52, [some (.ref a0), some (.int a1), some (.int a2), some (.int x2), some (.int q7)], [.ref a0, .int q7])) rfl ?_
      obtain ⟨dates11, e12, H⟩ := am_bd H
      refine am_G.gR rfl e12 ?_
      refine am_G.fr 1 (g := (56, [some (.ref a0), some (.int a1), some (.int a2), some (.int x2), some (.int q7)], [.int a2, .ref dates11, .int q7])) rfl ?_
      obtain ⟨x13, e14, H⟩ := am_bd H
      refine am_G.aI rfl e14 ?_
      by_cases c15 : ¬ q7 = x13
      · rw [if_pos c15] at H
        refine am_G.br (tgt := 85) rfl rfl (if_pos c15) rfl ?_
        refine am_G.fr 1 (g := (86, [some (.ref a0), some (.int a1), some (.int a2), some (.int x2), some (.int q7)], [.int ((0 : Int32))])) rfl ?_
        obtain rfl := Option.some.inj H
        refine am_G.fg [none, none, none, none, none] (by simp only [am_sub, and_self]) ?_
        exact am_G.nd rfl
      · rw [if_neg c15] at H
        refine am_G.br (tgt := 60) rfl rfl (if_neg c15) rfl ?_
        refine am_G.fr 2 (g := (62, [some (.ref a0), some (.int a1), some (.int a2), some (.int x2), some (.int q7)], [.int ((3 : Int32)), .int x2])) rfl ?_
        by_cases c16 : ¬ x2 = ((3 : Int32))
        · rw [if_pos c16] at H
          refine am_G.br (tgt := 81) rfl rfl (if_pos c16) rfl ?_
          refine am_G.fr 2 (g := (86, [some (.ref a0), some (.int a1), some (.int a2), some (.int x2), some (.int q7)], [.int ((1 : Int32))])) rfl ?_
          obtain rfl := Option.some.inj H
          refine am_G.fg [none, none, none, none, none] (by simp only [am_sub, and_self]) ?_
          exact am_G.nd rfl
        · rw [if_neg c16] at H
          refine am_G.br (tgt := 65) rfl rfl (if_neg c16) rfl ?_
          refine am_G.fr 1 (g := (66, [some (.ref a0), some (.int a1), some (.int a2), some (.int x2), some (.int q7)], [.ref a0])) rfl ?_
          obtain ⟨state17, e18, H⟩ := am_bd H
          refine am_G.gR rfl e18 ?_
          refine am_G.fr 3 (g := (72, [some (.ref a0), some (.int a1), some (.int a2), some (.int x2), some (.int q7)], [.int (a1 + ((0 : Int32))), .ref state17])) rfl ?_
          obtain ⟨x19, e20, H⟩ := am_bd H
          refine am_G.aI rfl e20 ?_
          refine am_G.fr 1 (g := (75, [some (.ref a0), some (.int a1), some (.int a2), some (.int x2), some (.int q7)], [.int ((12 : Int32)), .int x19])) rfl ?_
          obtain ⟨q21, e22, H⟩ := am_bd H
          refine am_G.dv rfl e22 ?_
          refine am_G.fr 1 (g := (77, [some (.ref a0), some (.int a1), some (.int a2), some (.int x2), some (.int q7)], [.int ((4 : Int32)), .int q21])) rfl ?_
          obtain ⟨q23, e24, H⟩ := am_bd H
          refine am_G.rm rfl e24 ?_
          by_cases c25 : ¬ q23 = 0
          · rw [if_pos c25] at H
            refine am_G.br (tgt := 85) rfl rfl (if_pos c25) rfl ?_
            refine am_G.fr 1 (g := (86, [some (.ref a0), some (.int a1), some (.int a2), some (.int x2), some (.int q7)], [.int ((0 : Int32))])) rfl ?_
            obtain rfl := Option.some.inj H
            refine am_G.fg [none, none, none, none, none] (by simp only [am_sub, and_self]) ?_
            exact am_G.nd rfl
          · rw [if_neg c25] at H
            refine am_G.br (tgt := 81) rfl rfl (if_neg c25) rfl ?_
            refine am_G.fr 2 (g := (86, [some (.ref a0), some (.int a1), some (.int a2), some (.int x2), some (.int q7)], [.int ((1 : Int32))])) rfl ?_
            obtain rfl := Option.some.inj H
            refine am_G.fg [none, none, none, none, none] (by simp only [am_sub, and_self]) ?_
            exact am_G.nd rfl
    · rw [if_neg c10] at H
      refine am_G.br (tgt := 25) rfl rfl (if_neg c10) rfl ?_
      refine am_G.fr 4 (g := (31, [some (.ref a0), some (.int a1), some (.int a2), some (.int x2), some (.int q7)], [.int ((12 : Int32)), .int (q7 + ((1 : Int32)))])) rfl ?_
      obtain ⟨q26, e27, H⟩ := am_bd H
      refine am_G.rm rfl e27 ?_
      refine am_G.fr 1 (g := (33, [some (.ref a0), some (.int a1), some (.int a2), some (.int x2), some (.int q7)], [.ref a0, .int q26])) rfl ?_
      obtain ⟨dates28, e29, H⟩ := am_bd H
      refine am_G.gR rfl e29 ?_
      refine am_G.fr 1 (g := (37, [some (.ref a0), some (.int a1), some (.int a2), some (.int x2), some (.int q7)], [.int a2, .ref dates28, .int q26])) rfl ?_
      obtain ⟨x30, e31, H⟩ := am_bd H
      refine am_G.aI rfl e31 ?_
      by_cases c32 : ¬ q26 = x30
      · rw [if_pos c32] at H
        refine am_G.br (tgt := 45) rfl rfl (if_pos c32) rfl ?_
        refine am_G.fr 2 (g := (86, [some (.ref a0), some (.int a1), some (.int a2), some (.int x2), some (.int q7)], [.int ((0 : Int32))])) rfl ?_
        obtain rfl := Option.some.inj H
        refine am_G.fg [none, none, none, none, none] (by simp only [am_sub, and_self]) ?_
        exact am_G.nd rfl
      · rw [if_neg c32] at H
        refine am_G.br (tgt := 41) rfl rfl (if_neg c32) rfl ?_
        refine am_G.fr 2 (g := (86, [some (.ref a0), some (.int a1), some (.int a2), some (.int x2), some (.int q7)], [.int ((1 : Int32))])) rfl ?_
        obtain rfl := Option.some.inj H
        refine am_G.fg [none, none, none, none, none] (by simp only [am_sub, and_self]) ?_
        exact am_G.nd rfl
  · clear E35
    obtain ⟨b33, e34, H⟩ := am_bd H
    obtain rfl := Option.some.inj H
    exact am_G.nd ⟨rfl, am_ret2 rfl e34⟩
def fX10_bedFor_L22 : Nat → Nat → Int32 → Int32 → Int32 → Int32 → am_H → Option ((Unit) ⊕ (Int32))
  | 0, _, _, _, _, _, _ => none
  | n + 1, v0, v1, v2, v3, v4, h =>
    (fX10_houses v0 h).bind fun x7 =>
    if x7 ≤ v4 then
      some (.inl ())
    else
      (fX10_houseOf v0 v3 ((1 : Int32)) h).bind fun x10 =>
      if ¬ ((x10 >>> (v4 &&& 31)) &&& ((1 : Int32))) = ((1 : Int32)) then
        fX10_bedFor_L22 n v0 v1 v2 v3 (v4 + (1 : Int32)) h
      else
        (fX10_doesHold v0 v1 v4 v2 h).bind fun x13 =>
        if x13 = 0 then
          fX10_bedFor_L22 n v0 v1 v2 v3 (v4 + (1 : Int32)) h
        else
          some (.inr v4)
def fX10_bedFor (a0 : Nat) (a1 : Int32) (a2 : Int32) (h : am_H) : Option (Int32) :=
  (am_isO h a0 9).bind fun _ =>
  (fX10_dayOf a0 a2 ((1 : Int32)) h).bind fun x2 =>
  (fX10_doesHold a0 a1 x2 a2 h).bind fun x4 =>
  if x4 = 0 then
    (fX10_bedFor_L22 4000 a0 a1 a2 x2 ((0 : Int32)) h).bind fun o16 => match o16 with
      | .inl _ =>
        some ((-1 : Int32))
      | .inr y17 => some y17
  else
    some x2
set_option maxHeartbeats 4000000 in
set_option maxRecDepth 100000 in
theorem lX10_bedFor_L22 {sc : Nat × (Nat → Int32)} : ∀ (n : Nat) (v0 : Nat) (v1 : Int32) (v2 : Int32) (v3 : Int32) (v4 : Int32) (h : am_H) (o : (Unit) ⊕ (Int32)), fX10_bedFor_L22 n v0 v1 v2 v3 v4 h = some o → am_G sc (am_Cl am_T am_N sc 4) (am_at kX10_bedFor) (fun t => match o with
    | .inl _ => t = ((66, [none, none, none, none, none], []), h)
    | .inr y => t.2 = h ∧ am_ret 1 (am_at kX10_bedFor) t.1 = some (some (.int y))) ((22, [some (.ref v0), some (.int v1), some (.int v2), some (.int v3), some (.int v4)], []), h) := by
  intro n
  induction n with
  | zero => intro _ _ _ _ _ _ _ H; cases H
  | succ n ih =>
    intro v0 v1 v2 v3 v4 h o H
    rw [fX10_bedFor_L22] at H
    refine am_G.fr 2 (g := (25, [some (.ref v0), some (.int v1), some (.int v2), some (.int v3), some (.int v4)], [.ref v0, .int v4])) rfl ?_
    obtain ⟨x7, e6, H⟩ := am_bd H
    refine am_G.cl [.ref v0] [.int v4] (am_Cl.mono (by decide) (lX10_houses e6)) rfl rfl rfl rfl (Nat.le_of_ble_eq_true rfl) ?_
    by_cases c8 : x7 ≤ v4
    · rw [if_pos c8] at H
      refine am_G.br (tgt := 66) rfl rfl (if_pos c8) rfl ?_
      obtain rfl := Option.some.inj H
      refine am_G.fg [none, none, none, none, none] (by simp only [am_sub, and_self]) ?_
      exact am_G.nd rfl
    · rw [if_neg c8] at H
      refine am_G.br (tgt := 31) rfl rfl (if_neg c8) rfl ?_
      refine am_G.fr 3 (g := (34, [some (.ref v0), some (.int v1), some (.int v2), some (.int v3), some (.int v4)], [.int ((1 : Int32)), .int v3, .ref v0])) rfl ?_
      obtain ⟨x10, e9, H⟩ := am_bd H
      refine am_G.cl [.ref v0, .int v3, .int ((1 : Int32))] [] (am_Cl.mono (by decide) (lX10_houseOf e9)) rfl rfl rfl rfl (Nat.le_of_ble_eq_true rfl) ?_
      refine am_G.fr 5 (g := (43, [some (.ref v0), some (.int v1), some (.int v2), some (.int v3), some (.int v4)], [.int ((1 : Int32)), .int ((x10 >>> (v4 &&& 31)) &&& ((1 : Int32)))])) rfl ?_
      by_cases c11 : ¬ ((x10 >>> (v4 &&& 31)) &&& ((1 : Int32))) = ((1 : Int32))
      · rw [if_pos c11] at H
        refine am_G.br (tgt := 60) rfl rfl (if_pos c11) rfl ?_
        refine am_G.fr 2 (g := (22, [some (.ref v0), some (.int v1), some (.int v2), some (.int v3), some (.int (v4 + (1 : Int32)))], [])) rfl ?_
        exact ih _ _ _ _ _ _ _ H
      · rw [if_neg c11] at H
        refine am_G.br (tgt := 46) rfl rfl (if_neg c11) rfl ?_
        refine am_G.fr 4 (g := (51, [some (.ref v0), some (.int v1), some (.int v2), some (.int v3), some (.int v4)], [.int v2, .int v4, .int v1, .ref v0])) rfl ?_
        obtain ⟨x13, e12, H⟩ := am_bd H
        refine am_G.cl [.ref v0, .int v1, .int v4, .int v2] [] (am_Cl.mono (by decide) (lX10_doesHold e12)) rfl rfl rfl rfl (Nat.le_of_ble_eq_true rfl) ?_
        by_cases c14 : x13 = 0
        · rw [if_pos c14] at H
          refine am_G.br (tgt := 60) rfl rfl (if_pos c14) rfl ?_
          refine am_G.fr 2 (g := (22, [some (.ref v0), some (.int v1), some (.int v2), some (.int v3), some (.int (v4 + (1 : Int32)))], [])) rfl ?_
          exact ih _ _ _ _ _ _ _ H
        · rw [if_neg c14] at H
          refine am_G.br (tgt := 57) rfl rfl (if_neg c14) rfl ?_
          refine am_G.fr 1 (g := (59, [some (.ref v0), some (.int v1), some (.int v2), some (.int v3), some (.int v4)], [.int v4])) rfl ?_
          obtain rfl := Option.some.inj H
          exact am_G.nd ⟨rfl, rfl⟩
set_option maxHeartbeats 4000000 in
set_option maxRecDepth 100000 in
theorem lX10_bedFor {sc : Nat × (Nat → Int32)} {a0 : Nat} {a1 : Int32} {a2 : Int32} {h : am_H} {r : Int32} (H : fX10_bedFor a0 a1 a2 h = some r) : am_Cl am_T am_N sc 5 193 [.ref a0, .int a1, .int a2] h (some (.int r)) h := by
  unfold fX10_bedFor at H
  obtain ⟨_, hO, H⟩ := am_bd H
  obtain ⟨fs0, hO⟩ := am_isO_ok hO
  refine am_mk (q := qX10_bedFor) rfl (fun _ => ⟨_, _, _, _, _, rfl, hO, rfl, rfl⟩) (fun z => absurd z (by decide)) (Nat.le_of_ble_eq_true rfl) rfl ?_
  show am_G sc (am_Cl am_T am_N sc 4) (am_at kX10_bedFor) (fun t => t.2 = h ∧ am_ret 1 (am_at kX10_bedFor) t.1 = some (some (.int r))) ((0, [some (.ref a0), some (.int a1), some (.int a2), none, none], []), h)
  refine am_G.fr 3 (g := (3, [some (.ref a0), some (.int a1), some (.int a2), none, none], [.int ((1 : Int32)), .int a2, .ref a0])) rfl ?_
  obtain ⟨x2, e1, H⟩ := am_bd H
  refine am_G.cl [.ref a0, .int a2, .int ((1 : Int32))] [] (am_Cl.mono (by decide) (lX10_dayOf e1)) rfl rfl rfl rfl (Nat.le_of_ble_eq_true rfl) ?_
  refine am_G.fr 5 (g := (11, [some (.ref a0), some (.int a1), some (.int a2), some (.int x2), none], [.int a2, .int x2, .int a1, .ref a0])) rfl ?_
  obtain ⟨x4, e3, H⟩ := am_bd H
  refine am_G.cl [.ref a0, .int a1, .int x2, .int a2] [] (am_Cl.mono (by decide) (lX10_doesHold e3)) rfl rfl rfl rfl (Nat.le_of_ble_eq_true rfl) ?_
  by_cases c5 : x4 = 0
  · rw [if_pos c5] at H
    refine am_G.br (tgt := 19) rfl rfl (if_pos c5) rfl ?_
    refine am_G.fr 2 (g := (22, [some (.ref a0), some (.int a1), some (.int a2), some (.int x2), some (.int ((0 : Int32)))], [])) rfl ?_
    obtain ⟨o16, E15, H⟩ := am_bd H
    have hL := lX10_bedFor_L22 (sc := sc) _ _ _ _ _ _ _ _ E15
    clear E15
    rcases o16 with _ | y17
    · dsimp only at H
      refine am_G.sq hL ?_
      refine am_G.fr 1 (g := (67, [none, none, none, none, none], [.int ((-1 : Int32))])) rfl ?_
      obtain rfl := Option.some.inj H
      exact am_G.nd ⟨rfl, rfl⟩
    · dsimp only at H
      obtain rfl := Option.some.inj H
      exact hL
  · rw [if_neg c5] at H
    refine am_G.br (tgt := 17) rfl rfl (if_neg c5) rfl ?_
    refine am_G.fr 1 (g := (18, [some (.ref a0), some (.int a1), some (.int a2), some (.int x2), none], [.int x2])) rfl ?_
    obtain rfl := Option.some.inj H
    exact am_G.nd ⟨rfl, rfl⟩
def fX10_comes (a0 : Nat) (a1 : Int32) (a2 : Int32) (h : am_H) : Option (am_H) :=
  (am_isO h a0 9).bind fun _ =>
  (fX10_bedFor a0 a1 a2 h).bind fun x2 =>
  if 0 ≤ x2 then
    (am_gI h a0 9 28).bind fun came4 =>
    (am_pF h a0 9 28 (.int (came4 ||| (((1 : Int32)) <<< (a2 &&& 31))))).bind fun hh6 =>
    (am_gR hh6 a0 9 24).bind fun state8 =>
    (am_sI hh6 0 state8 ((a1 + ((6 : Int32))) + a2) x2).bind fun hh10 =>
    (am_gR hh10 a0 9 24).bind fun state12 =>
    (am_sI hh10 0 state12 ((a1 + ((12 : Int32))) + a2) ((0 : Int32))).bind fun hh14 =>
    (am_gR hh14 a0 9 24).bind fun state16 =>
    (am_aI hh14 0 state16 ((a1 + ((24 : Int32))) + a2)).bind fun x18 =>
    (am_sI hh14 0 state16 ((a1 + ((24 : Int32))) + a2) (x18 + ((1 : Int32)))).bind fun hh20 =>
    (am_gR hh20 a0 9 24).bind fun state22 =>
    (am_aI hh20 0 state22 ((a1 + ((18 : Int32))) + a2)).bind fun x24 =>
    (am_gR hh20 a0 9 22).bind fun facts26 =>
    (am_sI hh20 0 facts26 ((0 : Int32)) x24).bind fun hh28 =>
    (am_gR hh28 a0 9 22).bind fun facts30 =>
    (fX10_inHouse a0 a1 x2 hh28).bind fun x33 =>
    (fX10_bits x33 hh28).bind fun x35 =>
    (am_sI hh28 0 facts30 ((1 : Int32)) x35).bind fun hh36 =>
    (am_gR hh36 a0 9 22).bind fun facts38 =>
    (am_gR hh36 a0 9 24).bind fun state40 =>
    (am_aI hh36 0 state40 (a1 + ((0 : Int32)))).bind fun x42 =>
    (am_rm' x42 ((12 : Int32))).bind fun q44 =>
    (am_sI hh36 0 facts38 ((2 : Int32)) q44).bind fun hh46 =>
    (am_gR hh46 a0 9 22).bind fun facts48 =>
    (am_gR hh46 a0 9 24).bind fun state50 =>
    (am_aI hh46 0 state50 ((a1 + ((24 : Int32))) + a2)).bind fun x52 =>
    (am_sI hh46 0 facts48 ((3 : Int32)) x52).bind fun hh54 =>
    (am_gR hh54 a0 9 10).bind fun vales56 =>
    (am_aI hh54 0 vales56 ((3 : Int32))).bind fun x58 =>
    am_b2 (
      if 0 ≤ x58 then
        (am_gR hh54 a0 9 10).bind fun vales63 =>
        (am_aI hh54 0 vales63 ((3 : Int32))).bind fun x65 =>
        am_b2 (fX10_worthAt a0 x65 hh54) fun x68 hh69 =>
        some (x68, hh69)
      else
        some ((-1 : Int32), hh54)) fun js60 hh61 =>
    Option.bind (
      if ((-9 : Int32)) ≤ js60 then
        if js60 ≤ ((9 : Int32)) then
          some js60
        else
          some ((9 : Int32))
      else
        some ((-9 : Int32))) fun js70 =>
    (am_gR hh61 a0 9 24).bind fun state73 =>
    Option.bind (
      if 0 ≤ (x24 + js70) then
        if (x24 + js70) ≤ ((99 : Int32)) then
          some (x24 + js70)
        else
          some ((99 : Int32))
      else
        some ((0 : Int32))) fun js75 =>
    (am_sI hh61 0 state73 ((a1 + ((18 : Int32))) + a2) js75).bind fun hh78 =>
    some hh78
  else
    (am_gI h a0 9 29).bind fun off83 =>
    (am_pF h a0 9 29 (.int (off83 ||| (((1 : Int32)) <<< (a2 &&& 31))))).bind fun hh85 =>
    (am_gR hh85 a0 9 24).bind fun state87 =>
    (am_aI hh85 0 state87 (a1 + ((1 : Int32)))).bind fun x89 =>
    (am_sI hh85 0 state87 (a1 + ((1 : Int32))) (x89 + ((1 : Int32)))).bind fun hh91 =>
    some hh91
set_option maxHeartbeats 4000000 in
set_option maxRecDepth 100000 in
theorem lX10_comes {sc : Nat × (Nat → Int32)} {a0 : Nat} {a1 : Int32} {a2 : Int32} {h : am_H} {h1 : am_H} (H : fX10_comes a0 a1 a2 h = some h1) : am_Cl am_T am_N sc 6 194 [.ref a0, .int a1, .int a2] h none h1 := by
  unfold fX10_comes at H
  obtain ⟨_, hO, H⟩ := am_bd H
  obtain ⟨fs0, hO⟩ := am_isO_ok hO
  refine am_mk (q := qX10_comes) rfl (fun _ => ⟨_, _, _, _, _, rfl, hO, rfl, rfl⟩) (fun z => absurd z (by decide)) (Nat.le_of_ble_eq_true rfl) rfl ?_
  show am_G sc (am_Cl am_T am_N sc 5) (am_at kX10_comes) (fun t => t.2 = h1 ∧ am_ret 0 (am_at kX10_comes) t.1 = some none) ((0, [some (.ref a0), some (.int a1), some (.int a2), none, none, none], []), h)
  refine am_G.fr 3 (g := (3, [some (.ref a0), some (.int a1), some (.int a2), none, none, none], [.int a2, .int a1, .ref a0])) rfl ?_
  obtain ⟨x2, e1, H⟩ := am_bd H
  refine am_G.cl [.ref a0, .int a1, .int a2] [] (am_Cl.mono (by decide) (lX10_bedFor e1)) rfl rfl rfl rfl (Nat.le_of_ble_eq_true rfl) ?_
  refine am_G.fr 2 (g := (8, [some (.ref a0), some (.int a1), some (.int a2), some (.int x2), none, none], [.int x2])) rfl ?_
  by_cases c3 : 0 ≤ x2
  · rw [if_pos c3] at H
    refine am_G.br (tgt := 36) rfl rfl (if_pos c3) rfl ?_
    refine am_G.fr 2 (g := (38, [some (.ref a0), some (.int a1), some (.int a2), some (.int x2), none, none], [.ref a0, .ref a0])) rfl ?_
    obtain ⟨came4, e5, H⟩ := am_bd H
    refine am_G.gI rfl e5 ?_
    refine am_G.fr 4 (g := (45, [some (.ref a0), some (.int a1), some (.int a2), some (.int x2), none, none], [.int (came4 ||| (((1 : Int32)) <<< (a2 &&& 31))), .ref a0])) rfl ?_
    obtain ⟨hh6, e7, H⟩ := am_bd H
    refine am_G.pF rfl e7 ?_
    refine am_G.fr 1 (g := (49, [some (.ref a0), some (.int a1), some (.int a2), some (.int x2), none, none], [.ref a0])) rfl ?_
    obtain ⟨state8, e9, H⟩ := am_bd H
    refine am_G.gR rfl e9 ?_
    refine am_G.fr 6 (g := (59, [some (.ref a0), some (.int a1), some (.int a2), some (.int x2), none, none], [.int x2, .int ((a1 + ((6 : Int32))) + a2), .ref state8])) rfl ?_
    obtain ⟨hh10, e11, H⟩ := am_bd H
    refine am_G.sI rfl e11 ?_
    refine am_G.fr 1 (g := (61, [some (.ref a0), some (.int a1), some (.int a2), some (.int x2), none, none], [.ref a0])) rfl ?_
    obtain ⟨state12, e13, H⟩ := am_bd H
    refine am_G.gR rfl e13 ?_
    refine am_G.fr 6 (g := (71, [some (.ref a0), some (.int a1), some (.int a2), some (.int x2), none, none], [.int ((0 : Int32)), .int ((a1 + ((12 : Int32))) + a2), .ref state12])) rfl ?_
    obtain ⟨hh14, e15, H⟩ := am_bd H
    refine am_G.sI rfl e15 ?_
    refine am_G.fr 1 (g := (73, [some (.ref a0), some (.int a1), some (.int a2), some (.int x2), none, none], [.ref a0])) rfl ?_
    obtain ⟨state16, e17, H⟩ := am_bd H
    refine am_G.gR rfl e17 ?_
    refine am_G.fr 6 (g := (83, [some (.ref a0), some (.int a1), some (.int a2), some (.int x2), none, none], [.int ((a1 + ((24 : Int32))) + a2), .ref state16, .int ((a1 + ((24 : Int32))) + a2), .ref state16])) rfl ?_
    obtain ⟨x18, e19, H⟩ := am_bd H
    refine am_G.aI rfl e19 ?_
    refine am_G.fr 2 (g := (86, [some (.ref a0), some (.int a1), some (.int a2), some (.int x2), none, none], [.int (x18 + ((1 : Int32))), .int ((a1 + ((24 : Int32))) + a2), .ref state16])) rfl ?_
    obtain ⟨hh20, e21, H⟩ := am_bd H
    refine am_G.sI rfl e21 ?_
    refine am_G.fr 1 (g := (88, [some (.ref a0), some (.int a1), some (.int a2), some (.int x2), none, none], [.ref a0])) rfl ?_
    obtain ⟨state22, e23, H⟩ := am_bd H
    refine am_G.gR rfl e23 ?_
    refine am_G.fr 5 (g := (97, [some (.ref a0), some (.int a1), some (.int a2), some (.int x2), none, none], [.int ((a1 + ((18 : Int32))) + a2), .ref state22])) rfl ?_
    obtain ⟨x24, e25, H⟩ := am_bd H
    refine am_G.aI rfl e25 ?_
    refine am_G.fr 2 (g := (101, [some (.ref a0), some (.int a1), some (.int a2), some (.int x2), some (.int x24), none], [.ref a0])) rfl ?_
    obtain ⟨facts26, e27, H⟩ := am_bd H
    refine am_G.gR rfl e27 ?_
    refine am_G.fr 2 (g := (107, [some (.ref a0), some (.int a1), some (.int a2), some (.int x2), some (.int x24), none], [.int x24, .int ((0 : Int32)), .ref facts26])) rfl ?_
    obtain ⟨hh28, e29, H⟩ := am_bd H
    refine am_G.sI rfl e29 ?_
    refine am_G.fr 1 (g := (109, [some (.ref a0), some (.int a1), some (.int a2), some (.int x2), some (.int x24), none], [.ref a0])) rfl ?_
    obtain ⟨facts30, e31, H⟩ := am_bd H
    refine am_G.gR rfl e31 ?_
    refine am_G.fr 4 (g := (116, [some (.ref a0), some (.int a1), some (.int a2), some (.int x2), some (.int x24), none], [.int x2, .int a1, .ref a0, .int ((1 : Int32)), .ref facts30])) rfl ?_
    obtain ⟨x33, e32, H⟩ := am_bd H
    refine am_G.cl [.ref a0, .int a1, .int x2] [.int ((1 : Int32)), .ref facts30] (am_Cl.mono (by decide) (lX10_inHouse e32)) rfl rfl rfl rfl (Nat.le_of_ble_eq_true rfl) ?_
    obtain ⟨x35, e34, H⟩ := am_bd H
    refine am_G.cl [.int x33] [.int ((1 : Int32)), .ref facts30] (am_Cl.mono (by decide) (lX10_bits e34)) rfl rfl rfl rfl (Nat.le_of_ble_eq_true rfl) ?_
    obtain ⟨hh36, e37, H⟩ := am_bd H
    refine am_G.sI rfl e37 ?_
    refine am_G.fr 1 (g := (124, [some (.ref a0), some (.int a1), some (.int a2), some (.int x2), some (.int x24), none], [.ref a0])) rfl ?_
    obtain ⟨facts38, e39, H⟩ := am_bd H
    refine am_G.gR rfl e39 ?_
    refine am_G.fr 2 (g := (129, [some (.ref a0), some (.int a1), some (.int a2), some (.int x2), some (.int x24), none], [.ref a0, .int ((2 : Int32)), .ref facts38])) rfl ?_
    obtain ⟨state40, e41, H⟩ := am_bd H
    refine am_G.gR rfl e41 ?_
    refine am_G.fr 3 (g := (135, [some (.ref a0), some (.int a1), some (.int a2), some (.int x2), some (.int x24), none], [.int (a1 + ((0 : Int32))), .ref state40, .int ((2 : Int32)), .ref facts38])) rfl ?_
    obtain ⟨x42, e43, H⟩ := am_bd H
    refine am_G.aI rfl e43 ?_
    refine am_G.fr 1 (g := (138, [some (.ref a0), some (.int a1), some (.int a2), some (.int x2), some (.int x24), none], [.int ((12 : Int32)), .int x42, .int ((2 : Int32)), .ref facts38])) rfl ?_
    obtain ⟨q44, e45, H⟩ := am_bd H
    refine am_G.rm rfl e45 ?_
    obtain ⟨hh46, e47, H⟩ := am_bd H
    refine am_G.sI rfl e47 ?_
    refine am_G.fr 1 (g := (141, [some (.ref a0), some (.int a1), some (.int a2), some (.int x2), some (.int x24), none], [.ref a0])) rfl ?_
    obtain ⟨facts48, e49, H⟩ := am_bd H
    refine am_G.gR rfl e49 ?_
    refine am_G.fr 2 (g := (146, [some (.ref a0), some (.int a1), some (.int a2), some (.int x2), some (.int x24), none], [.ref a0, .int ((3 : Int32)), .ref facts48])) rfl ?_
    obtain ⟨state50, e51, H⟩ := am_bd H
    refine am_G.gR rfl e51 ?_
    refine am_G.fr 5 (g := (155, [some (.ref a0), some (.int a1), some (.int a2), some (.int x2), some (.int x24), none], [.int ((a1 + ((24 : Int32))) + a2), .ref state50, .int ((3 : Int32)), .ref facts48])) rfl ?_
    obtain ⟨x52, e53, H⟩ := am_bd H
    refine am_G.aI rfl e53 ?_
    obtain ⟨hh54, e55, H⟩ := am_bd H
    refine am_G.sI rfl e55 ?_
    refine am_G.fr 1 (g := (158, [some (.ref a0), some (.int a1), some (.int a2), some (.int x2), some (.int x24), none], [.ref a0])) rfl ?_
    obtain ⟨vales56, e57, H⟩ := am_bd H
    refine am_G.gR rfl e57 ?_
    refine am_G.fr 1 (g := (162, [some (.ref a0), some (.int a1), some (.int a2), some (.int x2), some (.int x24), none], [.int ((3 : Int32)), .ref vales56])) rfl ?_
    obtain ⟨x58, e59, H⟩ := am_bd H
    refine am_G.aI rfl e59 ?_
    obtain ⟨js60, hh61, E82, H⟩ := am_bd2 H
    refine am_G.sq (t := ((180, [some (.ref a0), some (.int a1), some (.int a2), none, some (.int x24), none], [.int js60]), hh61)) ?_ ?_
    · clear H
      have H := E82
      clear E82
      by_cases c62 : 0 ≤ x58
      · rw [if_pos c62] at H
        refine am_G.br (tgt := 170) rfl rfl (if_pos c62) rfl ?_
        refine am_G.fr 2 (g := (172, [some (.ref a0), some (.int a1), some (.int a2), some (.int x2), some (.int x24), none], [.ref a0, .ref a0])) rfl ?_
        obtain ⟨vales63, e64, H⟩ := am_bd H
        refine am_G.gR rfl e64 ?_
        refine am_G.fr 1 (g := (176, [some (.ref a0), some (.int a1), some (.int a2), some (.int x2), some (.int x24), none], [.int ((3 : Int32)), .ref vales63, .ref a0])) rfl ?_
        obtain ⟨x65, e66, H⟩ := am_bd H
        refine am_G.aI rfl e66 ?_
        obtain ⟨x68, hh69, e67, H⟩ := am_bd2 H
        refine am_G.cl [.ref a0, .int x65] [] (am_Cl.mono (by decide) (lX10_worthAt e67)) rfl rfl rfl rfl (Nat.le_of_ble_eq_true rfl) ?_
        obtain ⟨rfl, rfl⟩ := am_inj2 H
        refine am_G.fg [some (.ref a0), some (.int a1), some (.int a2), none, some (.int x24), none] (by simp only [am_sub, and_self]) ?_
        exact am_G.nd rfl
      · rw [if_neg c62] at H
        refine am_G.br (tgt := 166) rfl rfl (if_neg c62) rfl ?_
        refine am_G.fr 2 (g := (180, [some (.ref a0), some (.int a1), some (.int a2), some (.int x2), some (.int x24), none], [.int ((-1 : Int32))])) rfl ?_
        obtain ⟨rfl, rfl⟩ := am_inj2 H
        refine am_G.fg [some (.ref a0), some (.int a1), some (.int a2), none, some (.int x24), none] (by simp only [am_sub, and_self]) ?_
        exact am_G.nd rfl
    · clear E82
      refine am_G.fr 4 (g := (188, [some (.ref a0), some (.int a1), some (.int a2), none, some (.int x24), some (.int js60)], [.int ((-9 : Int32)), .int js60, .int x24])) rfl ?_
      obtain ⟨js70, E81, H⟩ := am_bd H
      refine am_G.sq (t := ((210, [some (.ref a0), some (.int a1), some (.int a2), none, none, none], [.int js70, .int x24]), hh61)) ?_ ?_
      · clear H
        have H := E81
        clear E81
        by_cases c71 : ((-9 : Int32)) ≤ js60
        · rw [if_pos c71] at H
          refine am_G.br (tgt := 196) rfl rfl (if_pos c71) rfl ?_
          refine am_G.fr 2 (g := (200, [some (.ref a0), some (.int a1), some (.int a2), none, some (.int x24), some (.int js60)], [.int ((9 : Int32)), .int js60, .int x24])) rfl ?_
          by_cases c72 : js60 ≤ ((9 : Int32))
          · rw [if_pos c72] at H
            refine am_G.br (tgt := 208) rfl rfl (if_pos c72) rfl ?_
            refine am_G.fr 1 (g := (210, [some (.ref a0), some (.int a1), some (.int a2), none, some (.int x24), some (.int js60)], [.int js60, .int x24])) rfl ?_
            obtain rfl := Option.some.inj H
            refine am_G.fg [some (.ref a0), some (.int a1), some (.int a2), none, none, none] (by simp only [am_sub, and_self]) ?_
            exact am_G.nd rfl
          · rw [if_neg c72] at H
            refine am_G.br (tgt := 203) rfl rfl (if_neg c72) rfl ?_
            refine am_G.fr 2 (g := (210, [some (.ref a0), some (.int a1), some (.int a2), none, some (.int x24), some (.int js60)], [.int ((9 : Int32)), .int x24])) rfl ?_
            obtain rfl := Option.some.inj H
            refine am_G.fg [some (.ref a0), some (.int a1), some (.int a2), none, none, none] (by simp only [am_sub, and_self]) ?_
            exact am_G.nd rfl
        · rw [if_neg c71] at H
          refine am_G.br (tgt := 191) rfl rfl (if_neg c71) rfl ?_
          refine am_G.fr 2 (g := (210, [some (.ref a0), some (.int a1), some (.int a2), none, some (.int x24), some (.int js60)], [.int ((-9 : Int32)), .int x24])) rfl ?_
          obtain rfl := Option.some.inj H
          refine am_G.fg [some (.ref a0), some (.int a1), some (.int a2), none, none, none] (by simp only [am_sub, and_self]) ?_
          exact am_G.nd rfl
      · clear E81
        refine am_G.fr 3 (g := (214, [some (.ref a0), some (.int a1), some (.int a2), none, some (.int (x24 + js70)), none], [.ref a0])) rfl ?_
        obtain ⟨state73, e74, H⟩ := am_bd H
        refine am_G.gR rfl e74 ?_
        refine am_G.fr 6 (g := (225, [some (.ref a0), some (.int a1), some (.int a2), none, some (.int (x24 + js70)), none], [.int (x24 + js70), .int ((a1 + ((18 : Int32))) + a2), .ref state73])) rfl ?_
        obtain ⟨js75, E80, H⟩ := am_bd H
        refine am_G.sq (t := ((246, [none, none, none, none, none, none], [.int js75, .int ((a1 + ((18 : Int32))) + a2), .ref state73]), hh61)) ?_ ?_
        · clear H
          have H := E80
          clear E80
          by_cases c76 : 0 ≤ (x24 + js70)
          · rw [if_pos c76] at H
            refine am_G.br (tgt := 232) rfl rfl (if_pos c76) rfl ?_
            refine am_G.fr 2 (g := (236, [some (.ref a0), some (.int a1), some (.int a2), none, some (.int (x24 + js70)), none], [.int ((99 : Int32)), .int (x24 + js70), .int ((a1 + ((18 : Int32))) + a2), .ref state73])) rfl ?_
            by_cases c77 : (x24 + js70) ≤ ((99 : Int32))
            · rw [if_pos c77] at H
              refine am_G.br (tgt := 244) rfl rfl (if_pos c77) rfl ?_
              refine am_G.fr 1 (g := (246, [some (.ref a0), some (.int a1), some (.int a2), none, some (.int (x24 + js70)), none], [.int (x24 + js70), .int ((a1 + ((18 : Int32))) + a2), .ref state73])) rfl ?_
              obtain rfl := Option.some.inj H
              refine am_G.fg [none, none, none, none, none, none] (by simp only [am_sub, and_self]) ?_
              exact am_G.nd rfl
            · rw [if_neg c77] at H
              refine am_G.br (tgt := 239) rfl rfl (if_neg c77) rfl ?_
              refine am_G.fr 2 (g := (246, [some (.ref a0), some (.int a1), some (.int a2), none, some (.int (x24 + js70)), none], [.int ((99 : Int32)), .int ((a1 + ((18 : Int32))) + a2), .ref state73])) rfl ?_
              obtain rfl := Option.some.inj H
              refine am_G.fg [none, none, none, none, none, none] (by simp only [am_sub, and_self]) ?_
              exact am_G.nd rfl
          · rw [if_neg c76] at H
            refine am_G.br (tgt := 228) rfl rfl (if_neg c76) rfl ?_
            refine am_G.fr 2 (g := (246, [some (.ref a0), some (.int a1), some (.int a2), none, some (.int (x24 + js70)), none], [.int ((0 : Int32)), .int ((a1 + ((18 : Int32))) + a2), .ref state73])) rfl ?_
            obtain rfl := Option.some.inj H
            refine am_G.fg [none, none, none, none, none, none] (by simp only [am_sub, and_self]) ?_
            exact am_G.nd rfl
        · clear E80
          obtain ⟨hh78, e79, H⟩ := am_bd H
          refine am_G.sI rfl e79 ?_
          obtain rfl := Option.some.inj H
          exact am_G.nd ⟨rfl, rfl⟩
  · rw [if_neg c3] at H
    refine am_G.br (tgt := 11) rfl rfl (if_neg c3) rfl ?_
    refine am_G.fr 2 (g := (13, [some (.ref a0), some (.int a1), some (.int a2), some (.int x2), none, none], [.ref a0, .ref a0])) rfl ?_
    obtain ⟨off83, e84, H⟩ := am_bd H
    refine am_G.gI rfl e84 ?_
    refine am_G.fr 4 (g := (20, [some (.ref a0), some (.int a1), some (.int a2), some (.int x2), none, none], [.int (off83 ||| (((1 : Int32)) <<< (a2 &&& 31))), .ref a0])) rfl ?_
    obtain ⟨hh85, e86, H⟩ := am_bd H
    refine am_G.pF rfl e86 ?_
    refine am_G.fr 1 (g := (24, [some (.ref a0), some (.int a1), some (.int a2), some (.int x2), none, none], [.ref a0])) rfl ?_
    obtain ⟨state87, e88, H⟩ := am_bd H
    refine am_G.gR rfl e88 ?_
    refine am_G.fr 4 (g := (31, [some (.ref a0), some (.int a1), some (.int a2), some (.int x2), none, none], [.int (a1 + ((1 : Int32))), .ref state87, .int (a1 + ((1 : Int32))), .ref state87])) rfl ?_
    obtain ⟨x89, e90, H⟩ := am_bd H
    refine am_G.aI rfl e90 ?_
    refine am_G.fr 2 (g := (34, [some (.ref a0), some (.int a1), some (.int a2), some (.int x2), none, none], [.int (x89 + ((1 : Int32))), .int (a1 + ((1 : Int32))), .ref state87])) rfl ?_
    obtain ⟨hh91, e92, H⟩ := am_bd H
    refine am_G.sI rfl e92 ?_
    obtain rfl := Option.some.inj H
    exact am_G.nd ⟨rfl, rfl⟩
def fX10_passes_L24 : Nat → Nat → Int32 → Int32 → am_H → Option (am_H)
  | 0, _, _, _, _ => none
  | n + 1, v0, v1, v2, h =>
    (fX10_days v0 h).bind fun x12 =>
    if x12 ≤ v2 then
      some h
    else
      (am_gR h v0 9 24).bind fun state14 =>
      (am_aI h 0 state14 ((v1 + ((6 : Int32))) + v2)).bind fun x16 =>
      Option.bind (
        if x16 < 0 then
          some h
        else
          (am_gR h v0 9 24).bind fun state20 =>
          (am_aI h 0 state20 ((v1 + ((12 : Int32))) + v2)).bind fun x22 =>
          (am_sI h 0 state20 ((v1 + ((12 : Int32))) + v2) (x22 + ((1 : Int32)))).bind fun hh24 =>
          (am_gR hh24 v0 9 24).bind fun state26 =>
          (am_aI hh24 0 state26 ((v1 + ((12 : Int32))) + v2)).bind fun x28 =>
          (am_gR hh24 v0 9 10).bind fun vales30 =>
          (am_aI hh24 0 vales30 ((2 : Int32))).bind fun x32 =>
          if ¬ x28 = x32 then
            some hh24
          else
            (fX10_leaves v0 v1 v2 hh24).bind fun hh36 =>
            some hh36) fun hh18 =>
      fX10_passes_L24 n v0 v1 (v2 + (1 : Int32)) hh18
def fX10_passes_L95 : Nat → Nat → Int32 → Int32 → am_H → Option (am_H)
  | 0, _, _, _, _ => none
  | n + 1, v0, v1, v2, h =>
    (fX10_days v0 h).bind fun x41 =>
    if x41 ≤ v2 then
      some h
    else
      (am_gR h v0 9 24).bind fun state43 =>
      (am_aI h 0 state43 ((v1 + ((6 : Int32))) + v2)).bind fun x45 =>
      Option.bind (
        if 0 ≤ x45 then
          some h
        else
          (am_gR h v0 9 24).bind fun state49 =>
          (am_aI h 0 state49 ((v1 + ((18 : Int32))) + v2)).bind fun x51 =>
          if x51 ≤ 0 then
            some h
          else
            (fX10_isDate v0 v1 v2 h).bind fun x55 =>
            if x55 = 0 then
              some h
            else
              (fX10_comes v0 v1 v2 h).bind fun hh58 =>
              some hh58) fun hh47 =>
      fX10_passes_L95 n v0 v1 (v2 + (1 : Int32)) hh47
def fX10_passes (a0 : Nat) (a1 : Int32) (h : am_H) : Option (am_H) :=
  (am_isO h a0 9).bind fun _ =>
  (am_gR h a0 9 24).bind fun state1 =>
  (am_aI h 0 state1 (a1 + ((0 : Int32)))).bind fun x3 =>
  (am_sI h 0 state1 (a1 + ((0 : Int32))) (x3 + ((1 : Int32)))).bind fun hh5 =>
  (am_pF hh5 a0 9 28 (.int ((0 : Int32)))).bind fun hh7 =>
  (am_pF hh7 a0 9 29 (.int ((0 : Int32)))).bind fun hh9 =>
  Option.bind (fX10_passes_L24 4000 a0 a1 ((0 : Int32)) hh9) fun hh38 =>
  Option.bind (fX10_passes_L95 4000 a0 a1 ((0 : Int32)) hh38) fun hh60 =>
  some hh60
set_option maxHeartbeats 4000000 in
set_option maxRecDepth 100000 in
theorem lX10_passes_L24 {sc : Nat × (Nat → Int32)} : ∀ (n : Nat) (v0 : Nat) (v1 : Int32) (v2 : Int32) (h : am_H) (h1 : am_H), fX10_passes_L24 n v0 v1 v2 h = some h1 → am_G sc (am_Cl am_T am_N sc 6) (am_at kX10_passes) (fun t => t = ((93, [some (.ref v0), some (.int v1), none], []), h1)) ((24, [some (.ref v0), some (.int v1), some (.int v2)], []), h) := by
  intro n
  induction n with
  | zero => intro _ _ _ _ _ H; cases H
  | succ n ih =>
    intro v0 v1 v2 h h1 H
    rw [fX10_passes_L24] at H
    refine am_G.fr 2 (g := (26, [some (.ref v0), some (.int v1), some (.int v2)], [.ref v0, .int v2])) rfl ?_
    obtain ⟨x12, e11, H⟩ := am_bd H
    refine am_G.cl [.ref v0] [.int v2] (am_Cl.mono (by decide) (lX10_days e11)) rfl rfl rfl rfl (Nat.le_of_ble_eq_true rfl) ?_
    by_cases c13 : x12 ≤ v2
    · rw [if_pos c13] at H
      refine am_G.br (tgt := 93) rfl rfl (if_pos c13) rfl ?_
      obtain rfl := Option.some.inj H
      refine am_G.fg [some (.ref v0), some (.int v1), none] (by simp only [am_sub, and_self]) ?_
      exact am_G.nd rfl
    · rw [if_neg c13] at H
      refine am_G.br (tgt := 32) rfl rfl (if_neg c13) rfl ?_
      refine am_G.fr 1 (g := (33, [some (.ref v0), some (.int v1), some (.int v2)], [.ref v0])) rfl ?_
      obtain ⟨state14, e15, H⟩ := am_bd H
      refine am_G.gR rfl e15 ?_
      refine am_G.fr 5 (g := (42, [some (.ref v0), some (.int v1), some (.int v2)], [.int ((v1 + ((6 : Int32))) + v2), .ref state14])) rfl ?_
      obtain ⟨x16, e17, H⟩ := am_bd H
      refine am_G.aI rfl e17 ?_
      obtain ⟨hh18, E37, H⟩ := am_bd H
      refine am_G.sq (t := ((87, [some (.ref v0), some (.int v1), some (.int v2)], []), hh18)) ?_ ?_
      · clear H
        have H := E37
        clear E37
        by_cases c19 : x16 < 0
        · rw [if_pos c19] at H
          refine am_G.br (tgt := 87) rfl rfl (if_pos c19) rfl ?_
          obtain rfl := Option.some.inj H
          exact am_G.nd rfl
        · rw [if_neg c19] at H
          refine am_G.br (tgt := 46) rfl rfl (if_neg c19) rfl ?_
          refine am_G.fr 1 (g := (47, [some (.ref v0), some (.int v1), some (.int v2)], [.ref v0])) rfl ?_
          obtain ⟨state20, e21, H⟩ := am_bd H
          refine am_G.gR rfl e21 ?_
          refine am_G.fr 6 (g := (57, [some (.ref v0), some (.int v1), some (.int v2)], [.int ((v1 + ((12 : Int32))) + v2), .ref state20, .int ((v1 + ((12 : Int32))) + v2), .ref state20])) rfl ?_
          obtain ⟨x22, e23, H⟩ := am_bd H
          refine am_G.aI rfl e23 ?_
          refine am_G.fr 2 (g := (60, [some (.ref v0), some (.int v1), some (.int v2)], [.int (x22 + ((1 : Int32))), .int ((v1 + ((12 : Int32))) + v2), .ref state20])) rfl ?_
          obtain ⟨hh24, e25, H⟩ := am_bd H
          refine am_G.sI rfl e25 ?_
          refine am_G.fr 1 (g := (62, [some (.ref v0), some (.int v1), some (.int v2)], [.ref v0])) rfl ?_
          obtain ⟨state26, e27, H⟩ := am_bd H
          refine am_G.gR rfl e27 ?_
          refine am_G.fr 5 (g := (71, [some (.ref v0), some (.int v1), some (.int v2)], [.int ((v1 + ((12 : Int32))) + v2), .ref state26])) rfl ?_
          obtain ⟨x28, e29, H⟩ := am_bd H
          refine am_G.aI rfl e29 ?_
          refine am_G.fr 1 (g := (73, [some (.ref v0), some (.int v1), some (.int v2)], [.ref v0, .int x28])) rfl ?_
          obtain ⟨vales30, e31, H⟩ := am_bd H
          refine am_G.gR rfl e31 ?_
          refine am_G.fr 1 (g := (77, [some (.ref v0), some (.int v1), some (.int v2)], [.int ((2 : Int32)), .ref vales30, .int x28])) rfl ?_
          obtain ⟨x32, e33, H⟩ := am_bd H
          refine am_G.aI rfl e33 ?_
          by_cases c34 : ¬ x28 = x32
          · rw [if_pos c34] at H
            refine am_G.br (tgt := 87) rfl rfl (if_pos c34) rfl ?_
            obtain rfl := Option.some.inj H
            exact am_G.nd rfl
          · rw [if_neg c34] at H
            refine am_G.br (tgt := 81) rfl rfl (if_neg c34) rfl ?_
            refine am_G.fr 3 (g := (84, [some (.ref v0), some (.int v1), some (.int v2)], [.int v2, .int v1, .ref v0])) rfl ?_
            obtain ⟨hh36, e35, H⟩ := am_bd H
            refine am_G.cl [.ref v0, .int v1, .int v2] [] (am_Cl.mono (by decide) (lX10_leaves e35)) rfl rfl rfl rfl (Nat.le_of_ble_eq_true rfl) ?_
            obtain rfl := Option.some.inj H
            exact am_G.nd rfl
      · clear E37
        refine am_G.fr 2 (g := (24, [some (.ref v0), some (.int v1), some (.int (v2 + (1 : Int32)))], [])) rfl ?_
        exact ih _ _ _ _ _ H
set_option maxHeartbeats 4000000 in
set_option maxRecDepth 100000 in
theorem lX10_passes_L95 {sc : Nat × (Nat → Int32)} : ∀ (n : Nat) (v0 : Nat) (v1 : Int32) (v2 : Int32) (h : am_H) (h1 : am_H), fX10_passes_L95 n v0 v1 v2 h = some h1 → am_G sc (am_Cl am_T am_N sc 6) (am_at kX10_passes) (fun t => t = ((152, [none, none, none], []), h1)) ((95, [some (.ref v0), some (.int v1), some (.int v2)], []), h) := by
  intro n
  induction n with
  | zero => intro _ _ _ _ _ H; cases H
  | succ n ih =>
    intro v0 v1 v2 h h1 H
    rw [fX10_passes_L95] at H
    refine am_G.fr 2 (g := (97, [some (.ref v0), some (.int v1), some (.int v2)], [.ref v0, .int v2])) rfl ?_
    obtain ⟨x41, e40, H⟩ := am_bd H
    refine am_G.cl [.ref v0] [.int v2] (am_Cl.mono (by decide) (lX10_days e40)) rfl rfl rfl rfl (Nat.le_of_ble_eq_true rfl) ?_
    by_cases c42 : x41 ≤ v2
    · rw [if_pos c42] at H
      refine am_G.br (tgt := 152) rfl rfl (if_pos c42) rfl ?_
      obtain rfl := Option.some.inj H
      refine am_G.fg [none, none, none] (by simp only [am_sub, and_self]) ?_
      exact am_G.nd rfl
    · rw [if_neg c42] at H
      refine am_G.br (tgt := 103) rfl rfl (if_neg c42) rfl ?_
      refine am_G.fr 1 (g := (104, [some (.ref v0), some (.int v1), some (.int v2)], [.ref v0])) rfl ?_
      obtain ⟨state43, e44, H⟩ := am_bd H
      refine am_G.gR rfl e44 ?_
      refine am_G.fr 5 (g := (113, [some (.ref v0), some (.int v1), some (.int v2)], [.int ((v1 + ((6 : Int32))) + v2), .ref state43])) rfl ?_
      obtain ⟨x45, e46, H⟩ := am_bd H
      refine am_G.aI rfl e46 ?_
      obtain ⟨hh47, E59, H⟩ := am_bd H
      refine am_G.sq (t := ((146, [some (.ref v0), some (.int v1), some (.int v2)], []), hh47)) ?_ ?_
      · clear H
        have H := E59
        clear E59
        by_cases c48 : 0 ≤ x45
        · rw [if_pos c48] at H
          refine am_G.br (tgt := 146) rfl rfl (if_pos c48) rfl ?_
          obtain rfl := Option.some.inj H
          exact am_G.nd rfl
        · rw [if_neg c48] at H
          refine am_G.br (tgt := 117) rfl rfl (if_neg c48) rfl ?_
          refine am_G.fr 1 (g := (118, [some (.ref v0), some (.int v1), some (.int v2)], [.ref v0])) rfl ?_
          obtain ⟨state49, e50, H⟩ := am_bd H
          refine am_G.gR rfl e50 ?_
          refine am_G.fr 5 (g := (127, [some (.ref v0), some (.int v1), some (.int v2)], [.int ((v1 + ((18 : Int32))) + v2), .ref state49])) rfl ?_
          obtain ⟨x51, e52, H⟩ := am_bd H
          refine am_G.aI rfl e52 ?_
          by_cases c53 : x51 ≤ 0
          · rw [if_pos c53] at H
            refine am_G.br (tgt := 146) rfl rfl (if_pos c53) rfl ?_
            obtain rfl := Option.some.inj H
            exact am_G.nd rfl
          · rw [if_neg c53] at H
            refine am_G.br (tgt := 131) rfl rfl (if_neg c53) rfl ?_
            refine am_G.fr 3 (g := (134, [some (.ref v0), some (.int v1), some (.int v2)], [.int v2, .int v1, .ref v0])) rfl ?_
            obtain ⟨x55, e54, H⟩ := am_bd H
            refine am_G.cl [.ref v0, .int v1, .int v2] [] (am_Cl.mono (by decide) (lX10_isDate e54)) rfl rfl rfl rfl (Nat.le_of_ble_eq_true rfl) ?_
            by_cases c56 : x55 = 0
            · rw [if_pos c56] at H
              refine am_G.br (tgt := 146) rfl rfl (if_pos c56) rfl ?_
              obtain rfl := Option.some.inj H
              exact am_G.nd rfl
            · rw [if_neg c56] at H
              refine am_G.br (tgt := 140) rfl rfl (if_neg c56) rfl ?_
              refine am_G.fr 3 (g := (143, [some (.ref v0), some (.int v1), some (.int v2)], [.int v2, .int v1, .ref v0])) rfl ?_
              obtain ⟨hh58, e57, H⟩ := am_bd H
              refine am_G.cl [.ref v0, .int v1, .int v2] [] (am_Cl.mono (by decide) (lX10_comes e57)) rfl rfl rfl rfl (Nat.le_of_ble_eq_true rfl) ?_
              obtain rfl := Option.some.inj H
              exact am_G.nd rfl
      · clear E59
        refine am_G.fr 2 (g := (95, [some (.ref v0), some (.int v1), some (.int (v2 + (1 : Int32)))], [])) rfl ?_
        exact ih _ _ _ _ _ H
set_option maxHeartbeats 4000000 in
set_option maxRecDepth 100000 in
theorem lX10_passes {sc : Nat × (Nat → Int32)} {a0 : Nat} {a1 : Int32} {h : am_H} {h1 : am_H} (H : fX10_passes a0 a1 h = some h1) : am_Cl am_T am_N sc 7 195 [.ref a0, .int a1] h none h1 := by
  unfold fX10_passes at H
  obtain ⟨_, hO, H⟩ := am_bd H
  obtain ⟨fs0, hO⟩ := am_isO_ok hO
  refine am_mk (q := qX10_passes) rfl (fun _ => ⟨_, _, _, _, _, rfl, hO, rfl, rfl⟩) (fun z => absurd z (by decide)) (Nat.le_of_ble_eq_true rfl) rfl ?_
  show am_G sc (am_Cl am_T am_N sc 6) (am_at kX10_passes) (fun t => t.2 = h1 ∧ am_ret 0 (am_at kX10_passes) t.1 = some none) ((0, [some (.ref a0), some (.int a1), none], []), h)
  refine am_G.fr 1 (g := (1, [some (.ref a0), some (.int a1), none], [.ref a0])) rfl ?_
  obtain ⟨state1, e2, H⟩ := am_bd H
  refine am_G.gR rfl e2 ?_
  refine am_G.fr 4 (g := (8, [some (.ref a0), some (.int a1), none], [.int (a1 + ((0 : Int32))), .ref state1, .int (a1 + ((0 : Int32))), .ref state1])) rfl ?_
  obtain ⟨x3, e4, H⟩ := am_bd H
  refine am_G.aI rfl e4 ?_
  refine am_G.fr 2 (g := (11, [some (.ref a0), some (.int a1), none], [.int (x3 + ((1 : Int32))), .int (a1 + ((0 : Int32))), .ref state1])) rfl ?_
  obtain ⟨hh5, e6, H⟩ := am_bd H
  refine am_G.sI rfl e6 ?_
  refine am_G.fr 2 (g := (14, [some (.ref a0), some (.int a1), none], [.int ((0 : Int32)), .ref a0])) rfl ?_
  obtain ⟨hh7, e8, H⟩ := am_bd H
  refine am_G.pF rfl e8 ?_
  refine am_G.fr 2 (g := (19, [some (.ref a0), some (.int a1), none], [.int ((0 : Int32)), .ref a0])) rfl ?_
  obtain ⟨hh9, e10, H⟩ := am_bd H
  refine am_G.pF rfl e10 ?_
  refine am_G.fr 2 (g := (24, [some (.ref a0), some (.int a1), some (.int ((0 : Int32)))], [])) rfl ?_
  obtain ⟨hh38, E39, H⟩ := am_bd H
  refine am_G.sq (lX10_passes_L24 _ _ _ _ _ _ E39) ?_
  clear E39
  refine am_G.fr 2 (g := (95, [some (.ref a0), some (.int a1), some (.int ((0 : Int32)))], [])) rfl ?_
  obtain ⟨hh60, E61, H⟩ := am_bd H
  refine am_G.sq (lX10_passes_L95 _ _ _ _ _ _ E61) ?_
  clear E61
  obtain rfl := Option.some.inj H
  exact am_G.nd ⟨rfl, rfl⟩
def fX10_talkIn_L5 : Nat → Nat → Int32 → Int32 → Int32 → Int32 → am_H → Option (Int32)
  | 0, _, _, _, _, _, _ => none
  | n + 1, v0, v1, v2, v3, v4, h =>
    (fX10_days v0 h).bind fun x2 =>
    if x2 ≤ v4 then
      some v3
    else
      (am_gR h v0 9 24).bind fun state4 =>
      (am_aI h 0 state4 ((v1 + ((6 : Int32))) + v4)).bind fun x6 =>
      Option.bind (
        if ¬ x6 = v2 then
          some ((0 : Int32))
        else
          (am_gR h v0 9 24).bind fun state10 =>
          (am_aI h 0 state10 ((v1 + ((18 : Int32))) + v4)).bind fun x12 =>
          some x12) fun js8 =>
      fX10_talkIn_L5 n v0 v1 v2 (v3 + js8) (v4 + (1 : Int32)) h
def fX10_talkIn (a0 : Nat) (a1 : Int32) (a2 : Int32) (h : am_H) : Option (Int32) :=
  (am_isO h a0 9).bind fun _ =>
  Option.bind (fX10_talkIn_L5 4000 a0 a1 a2 ((0 : Int32)) ((0 : Int32)) h) fun lw15 =>
  some lw15
set_option maxHeartbeats 4000000 in
set_option maxRecDepth 100000 in
theorem lX10_talkIn_L5 {sc : Nat × (Nat → Int32)} : ∀ (n : Nat) (v0 : Nat) (v1 : Int32) (v2 : Int32) (v3 : Int32) (v4 : Int32) (h : am_H) (w3 : Int32), fX10_talkIn_L5 n v0 v1 v2 v3 v4 h = some w3 → am_G sc (am_Cl am_T am_N sc 1) (am_at kX10_talkIn) (fun t => t = ((55, [none, none, none, some (.int w3), none], []), h)) ((5, [some (.ref v0), some (.int v1), some (.int v2), some (.int v3), some (.int v4)], []), h) := by
  intro n
  induction n with
  | zero => intro _ _ _ _ _ _ _ H; cases H
  | succ n ih =>
    intro v0 v1 v2 v3 v4 h w3 H
    rw [fX10_talkIn_L5] at H
    refine am_G.fr 2 (g := (8, [some (.ref v0), some (.int v1), some (.int v2), some (.int v3), some (.int v4)], [.ref v0, .int v4])) rfl ?_
    obtain ⟨x2, e1, H⟩ := am_bd H
    refine am_G.cl [.ref v0] [.int v4] (am_Cl.mono (by decide) (lX10_days e1)) rfl rfl rfl rfl (Nat.le_of_ble_eq_true rfl) ?_
    by_cases c3 : x2 ≤ v4
    · rw [if_pos c3] at H
      refine am_G.br (tgt := 55) rfl rfl (if_pos c3) rfl ?_
      obtain rfl := Option.some.inj H
      refine am_G.fg [none, none, none, some (.int v3), none] (by simp only [am_sub, and_self]) ?_
      exact am_G.nd rfl
    · rw [if_neg c3] at H
      refine am_G.br (tgt := 14) rfl rfl (if_neg c3) rfl ?_
      refine am_G.fr 2 (g := (16, [some (.ref v0), some (.int v1), some (.int v2), some (.int v3), some (.int v4)], [.ref v0, .int v3])) rfl ?_
      obtain ⟨state4, e5, H⟩ := am_bd H
      refine am_G.gR rfl e5 ?_
      refine am_G.fr 5 (g := (26, [some (.ref v0), some (.int v1), some (.int v2), some (.int v3), some (.int v4)], [.int ((v1 + ((6 : Int32))) + v4), .ref state4, .int v3])) rfl ?_
      obtain ⟨x6, e7, H⟩ := am_bd H
      refine am_G.aI rfl e7 ?_
      refine am_G.fr 1 (g := (28, [some (.ref v0), some (.int v1), some (.int v2), some (.int v3), some (.int v4)], [.int v2, .int x6, .int v3])) rfl ?_
      obtain ⟨js8, E14, H⟩ := am_bd H
      refine am_G.sq (t := ((47, [some (.ref v0), some (.int v1), some (.int v2), none, some (.int v4)], [.int js8, .int v3]), h)) ?_ ?_
      · clear H
        have H := E14
        clear E14
        by_cases c9 : ¬ x6 = v2
        · rw [if_pos c9] at H
          refine am_G.br (tgt := 46) rfl rfl (if_pos c9) rfl ?_
          refine am_G.fr 1 (g := (47, [some (.ref v0), some (.int v1), some (.int v2), some (.int v3), some (.int v4)], [.int ((0 : Int32)), .int v3])) rfl ?_
          obtain rfl := Option.some.inj H
          refine am_G.fg [some (.ref v0), some (.int v1), some (.int v2), none, some (.int v4)] (by simp only [am_sub, and_self]) ?_
          exact am_G.nd rfl
        · rw [if_neg c9] at H
          refine am_G.br (tgt := 31) rfl rfl (if_neg c9) rfl ?_
          refine am_G.fr 1 (g := (32, [some (.ref v0), some (.int v1), some (.int v2), some (.int v3), some (.int v4)], [.ref v0, .int v3])) rfl ?_
          obtain ⟨state10, e11, H⟩ := am_bd H
          refine am_G.gR rfl e11 ?_
          refine am_G.fr 5 (g := (42, [some (.ref v0), some (.int v1), some (.int v2), some (.int v3), some (.int v4)], [.int ((v1 + ((18 : Int32))) + v4), .ref state10, .int v3])) rfl ?_
          obtain ⟨x12, e13, H⟩ := am_bd H
          refine am_G.aI rfl e13 ?_
          refine am_G.fr 1 (g := (47, [some (.ref v0), some (.int v1), some (.int v2), some (.int v3), some (.int v4)], [.int x12, .int v3])) rfl ?_
          obtain rfl := Option.some.inj H
          refine am_G.fg [some (.ref v0), some (.int v1), some (.int v2), none, some (.int v4)] (by simp only [am_sub, and_self]) ?_
          exact am_G.nd rfl
      · clear E14
        refine am_G.fr 4 (g := (5, [some (.ref v0), some (.int v1), some (.int v2), some (.int (v3 + js8)), some (.int (v4 + (1 : Int32)))], [])) rfl ?_
        exact ih _ _ _ _ _ _ _ H
set_option maxHeartbeats 4000000 in
set_option maxRecDepth 100000 in
theorem lX10_talkIn {sc : Nat × (Nat → Int32)} {a0 : Nat} {a1 : Int32} {a2 : Int32} {h : am_H} {r : Int32} (H : fX10_talkIn a0 a1 a2 h = some r) : am_Cl am_T am_N sc 2 196 [.ref a0, .int a1, .int a2] h (some (.int r)) h := by
  unfold fX10_talkIn at H
  obtain ⟨_, hO, H⟩ := am_bd H
  obtain ⟨fs0, hO⟩ := am_isO_ok hO
  refine am_mk (q := qX10_talkIn) rfl (fun _ => ⟨_, _, _, _, _, rfl, hO, rfl, rfl⟩) (fun z => absurd z (by decide)) (Nat.le_of_ble_eq_true rfl) rfl ?_
  show am_G sc (am_Cl am_T am_N sc 1) (am_at kX10_talkIn) (fun t => t.2 = h ∧ am_ret 1 (am_at kX10_talkIn) t.1 = some (some (.int r))) ((0, [some (.ref a0), some (.int a1), some (.int a2), none, none], []), h)
  refine am_G.fr 4 (g := (5, [some (.ref a0), some (.int a1), some (.int a2), some (.int ((0 : Int32))), some (.int ((0 : Int32)))], [])) rfl ?_
  obtain ⟨lw15, E16, H⟩ := am_bd H
  refine am_G.sq (lX10_talkIn_L5 _ _ _ _ _ _ _ _ E16) ?_
  clear E16
  refine am_G.fr 1 (g := (56, [none, none, none, some (.int lw15), none], [.int lw15])) rfl ?_
  obtain rfl := Option.some.inj H
  exact am_G.nd ⟨rfl, rfl⟩
def fX10_house (a0 : Nat) (a1 : Int32) (a2 : Int32) (h : am_H) : Option (Int32 × am_H) :=
  (am_isO h a0 9).bind fun _ =>
  (am_pF h a0 9 0 (.int ((0 : Int32)))).bind fun hh1 =>
  (fX10_isHouse a0 a1 hh1).bind fun x4 =>
  if x4 = 0 then
    some ((-2 : Int32), hh1)
  else
    (fX10_within a2 ((0 : Int32)) ((4 : Int32)) hh1).bind fun x7 =>
    if ¬ x7 = 0 then
      if a2.toInt < 0 ∨ 3 < a2.toInt then
        (fX10_talkIn a0 ((0 : Int32)) a1 hh1).bind fun x13 =>
        some (x13, hh1)
      else (some (a2.toInt - 0).toNat).bind fun k10 =>
      if k10 = 0 then
        (am_gR hh1 a0 9 24).bind fun state14 =>
        (am_aI hh1 0 state14 (((2 : Int32)) + a1)).bind fun x16 =>
        some (x16, hh1)
      else if k10 = 1 then
        (fX10_freeOf a0 ((0 : Int32)) a1 hh1).bind fun x20 =>
        some (x20, hh1)
      else if k10 = 2 then
        (fX10_inHouse a0 ((0 : Int32)) a1 hh1).bind fun x23 =>
        some (x23, hh1)
      else if k10 = 3 then
        (fX10_houseOf a0 a1 ((1 : Int32)) hh1).bind fun x26 =>
        some (x26, hh1)
      else none
    else
      some ((-2 : Int32), hh1)
set_option maxHeartbeats 4000000 in
set_option maxRecDepth 100000 in
theorem lX10_house {sc : Nat × (Nat → Int32)} {a0 : Nat} {a1 : Int32} {a2 : Int32} {h : am_H} {r : Int32} {h1 : am_H} (H : fX10_house a0 a1 a2 h = some (r, h1)) : am_Cl am_T am_N sc 4 197 [.ref a0, .int a1, .int a2] h (some (.int r)) h1 := by
  unfold fX10_house at H
  obtain ⟨_, hO, H⟩ := am_bd H
  obtain ⟨fs0, hO⟩ := am_isO_ok hO
  refine am_mk (q := qX10_house) rfl (fun _ => ⟨_, _, _, _, _, rfl, hO, rfl, rfl⟩) (fun z => absurd z (by decide)) (Nat.le_of_ble_eq_true rfl) rfl ?_
  show am_G sc (am_Cl am_T am_N sc 3) (am_at kX10_house) (fun t => t.2 = h1 ∧ am_ret 1 (am_at kX10_house) t.1 = some (some (.int r))) ((0, [some (.ref a0), some (.int a1), some (.int a2)], []), h)
  refine am_G.fr 2 (g := (2, [some (.ref a0), some (.int a1), some (.int a2)], [.int ((0 : Int32)), .ref a0])) rfl ?_
  obtain ⟨hh1, e2, H⟩ := am_bd H
  refine am_G.pF rfl e2 ?_
  refine am_G.fr 2 (g := (7, [some (.ref a0), some (.int a1), some (.int a2)], [.int a1, .ref a0])) rfl ?_
  obtain ⟨x4, e3, H⟩ := am_bd H
  refine am_G.cl [.ref a0, .int a1] [] (am_Cl.mono (by decide) (lX10_isHouse e3)) rfl rfl rfl rfl (Nat.le_of_ble_eq_true rfl) ?_
  by_cases c5 : x4 = 0
  · rw [if_pos c5] at H
    refine am_G.br (tgt := 22) rfl rfl (if_pos c5) rfl ?_
    refine am_G.fr 1 (g := (24, [some (.ref a0), some (.int a1), some (.int a2)], [.int ((-2 : Int32))])) rfl ?_
    obtain ⟨rfl, rfl⟩ := am_inj2 H
    exact am_G.nd ⟨rfl, rfl⟩
  · rw [if_neg c5] at H
    refine am_G.br (tgt := 13) rfl rfl (if_neg c5) rfl ?_
    refine am_G.fr 3 (g := (16, [some (.ref a0), some (.int a1), some (.int a2)], [.int ((4 : Int32)), .int ((0 : Int32)), .int a2])) rfl ?_
    obtain ⟨x7, e6, H⟩ := am_bd H
    refine am_G.cl [.int a2, .int ((0 : Int32)), .int ((4 : Int32))] [] (am_Cl.mono (by decide) (lX10_within e6)) rfl rfl rfl rfl (Nat.le_of_ble_eq_true rfl) ?_
    by_cases c8 : ¬ x7 = 0
    · rw [if_pos c8] at H
      refine am_G.br (tgt := 25) rfl rfl (if_pos c8) rfl ?_
      refine am_G.fr 1 (g := (26, [some (.ref a0), some (.int a1), some (.int a2)], [.int a2])) rfl ?_
      by_cases c9 : a2.toInt < 0 ∨ 3 < a2.toInt
      · rw [if_pos c9] at H
        refine am_G.swD (tgt := 86) rfl c9 rfl ?_
        refine am_G.fr 3 (g := (89, [some (.ref a0), some (.int a1), some (.int a2)], [.int a1, .int ((0 : Int32)), .ref a0])) rfl ?_
        obtain ⟨x13, e12, H⟩ := am_bd H
        refine am_G.cl [.ref a0, .int ((0 : Int32)), .int a1] [] (am_Cl.mono (by decide) (lX10_talkIn e12)) rfl rfl rfl rfl (Nat.le_of_ble_eq_true rfl) ?_
        obtain ⟨rfl, rfl⟩ := am_inj2 H
        exact am_G.nd ⟨rfl, rfl⟩
      · rw [if_neg c9] at H
        obtain ⟨k10, e11, H⟩ := am_bd H
        by_cases c18 : k10 = 0
        · rw [if_pos c18] at H
          refine am_G.sw (tgt := 56) (k0 := 0) rfl c9 ((Option.some.inj e11).trans c18) rfl rfl ?_
          refine am_G.fr 1 (g := (57, [some (.ref a0), some (.int a1), some (.int a2)], [.ref a0])) rfl ?_
          obtain ⟨state14, e15, H⟩ := am_bd H
          refine am_G.gR rfl e15 ?_
          refine am_G.fr 3 (g := (63, [some (.ref a0), some (.int a1), some (.int a2)], [.int (((2 : Int32)) + a1), .ref state14])) rfl ?_
          obtain ⟨x16, e17, H⟩ := am_bd H
          refine am_G.aI rfl e17 ?_
          obtain ⟨rfl, rfl⟩ := am_inj2 H
          exact am_G.nd ⟨rfl, rfl⟩
        · rw [if_neg c18] at H
          by_cases c21 : k10 = 1
          · rw [if_pos c21] at H
            refine am_G.sw (tgt := 65) (k0 := 1) rfl c9 ((Option.some.inj e11).trans c21) rfl rfl ?_
            refine am_G.fr 3 (g := (68, [some (.ref a0), some (.int a1), some (.int a2)], [.int a1, .int ((0 : Int32)), .ref a0])) rfl ?_
            obtain ⟨x20, e19, H⟩ := am_bd H
            refine am_G.cl [.ref a0, .int ((0 : Int32)), .int a1] [] (am_Cl.mono (by decide) (lX10_freeOf e19)) rfl rfl rfl rfl (Nat.le_of_ble_eq_true rfl) ?_
            obtain ⟨rfl, rfl⟩ := am_inj2 H
            exact am_G.nd ⟨rfl, rfl⟩
          · rw [if_neg c21] at H
            by_cases c24 : k10 = 2
            · rw [if_pos c24] at H
              refine am_G.sw (tgt := 72) (k0 := 2) rfl c9 ((Option.some.inj e11).trans c24) rfl rfl ?_
              refine am_G.fr 3 (g := (75, [some (.ref a0), some (.int a1), some (.int a2)], [.int a1, .int ((0 : Int32)), .ref a0])) rfl ?_
              obtain ⟨x23, e22, H⟩ := am_bd H
              refine am_G.cl [.ref a0, .int ((0 : Int32)), .int a1] [] (am_Cl.mono (by decide) (lX10_inHouse e22)) rfl rfl rfl rfl (Nat.le_of_ble_eq_true rfl) ?_
              obtain ⟨rfl, rfl⟩ := am_inj2 H
              exact am_G.nd ⟨rfl, rfl⟩
            · rw [if_neg c24] at H
              by_cases c27 : k10 = 3
              · rw [if_pos c27] at H
                refine am_G.sw (tgt := 79) (k0 := 3) rfl c9 ((Option.some.inj e11).trans c27) rfl rfl ?_
                refine am_G.fr 3 (g := (82, [some (.ref a0), some (.int a1), some (.int a2)], [.int ((1 : Int32)), .int a1, .ref a0])) rfl ?_
                obtain ⟨x26, e25, H⟩ := am_bd H
                refine am_G.cl [.ref a0, .int a1, .int ((1 : Int32))] [] (am_Cl.mono (by decide) (lX10_houseOf e25)) rfl rfl rfl rfl (Nat.le_of_ble_eq_true rfl) ?_
                obtain ⟨rfl, rfl⟩ := am_inj2 H
                exact am_G.nd ⟨rfl, rfl⟩
              · rw [if_neg c27] at H
                cases H
    · rw [if_neg c8] at H
      refine am_G.br (tgt := 22) rfl rfl (if_neg c8) rfl ?_
      refine am_G.fr 1 (g := (24, [some (.ref a0), some (.int a1), some (.int a2)], [.int ((-2 : Int32))])) rfl ?_
      obtain ⟨rfl, rfl⟩ := am_inj2 H
      exact am_G.nd ⟨rfl, rfl⟩
def fX10_day (a0 : Nat) (a1 : Int32) (a2 : Int32) (h : am_H) : Option (Int32 × am_H) :=
  (am_isO h a0 9).bind fun _ =>
  (am_pF h a0 9 0 (.int ((0 : Int32)))).bind fun hh1 =>
  (fX10_isDay a0 a1 hh1).bind fun x4 =>
  if x4 = 0 then
    some ((-2 : Int32), hh1)
  else
    (fX10_within a2 ((0 : Int32)) ((7 : Int32)) hh1).bind fun x7 =>
    if ¬ x7 = 0 then
      if a2.toInt < 3 ∨ 7 < a2.toInt then
        (fX10_dayOf a0 a1 a2 hh1).bind fun x13 =>
        some (x13, hh1)
      else (some (a2.toInt - 3).toNat).bind fun k10 =>
      if k10 = 0 then
        (am_gR hh1 a0 9 24).bind fun state14 =>
        (am_aI hh1 0 state14 (((18 : Int32)) + a1)).bind fun x16 =>
        some (x16, hh1)
      else if k10 = 1 then
        (am_gR hh1 a0 9 24).bind fun state19 =>
        (am_aI hh1 0 state19 (((6 : Int32)) + a1)).bind fun x21 =>
        some (x21, hh1)
      else if k10 = 2 then
        (am_gR hh1 a0 9 24).bind fun state24 =>
        (am_aI hh1 0 state24 (((12 : Int32)) + a1)).bind fun x26 =>
        some (x26, hh1)
      else if k10 = 3 then
        (am_gR hh1 a0 9 24).bind fun state29 =>
        (am_aI hh1 0 state29 (((24 : Int32)) + a1)).bind fun x31 =>
        some (x31, hh1)
      else if k10 = 4 then
        (fX10_dayOf a0 a1 ((4 : Int32)) hh1).bind fun x35 =>
        some (x35, hh1)
      else none
    else
      some ((-2 : Int32), hh1)
set_option maxHeartbeats 4000000 in
set_option maxRecDepth 100000 in
theorem lX10_day {sc : Nat × (Nat → Int32)} {a0 : Nat} {a1 : Int32} {a2 : Int32} {h : am_H} {r : Int32} {h1 : am_H} (H : fX10_day a0 a1 a2 h = some (r, h1)) : am_Cl am_T am_N sc 3 198 [.ref a0, .int a1, .int a2] h (some (.int r)) h1 := by
  unfold fX10_day at H
  obtain ⟨_, hO, H⟩ := am_bd H
  obtain ⟨fs0, hO⟩ := am_isO_ok hO
  refine am_mk (q := qX10_day) rfl (fun _ => ⟨_, _, _, _, _, rfl, hO, rfl, rfl⟩) (fun z => absurd z (by decide)) (Nat.le_of_ble_eq_true rfl) rfl ?_
  show am_G sc (am_Cl am_T am_N sc 2) (am_at kX10_day) (fun t => t.2 = h1 ∧ am_ret 1 (am_at kX10_day) t.1 = some (some (.int r))) ((0, [some (.ref a0), some (.int a1), some (.int a2)], []), h)
  refine am_G.fr 2 (g := (2, [some (.ref a0), some (.int a1), some (.int a2)], [.int ((0 : Int32)), .ref a0])) rfl ?_
  obtain ⟨hh1, e2, H⟩ := am_bd H
  refine am_G.pF rfl e2 ?_
  refine am_G.fr 2 (g := (7, [some (.ref a0), some (.int a1), some (.int a2)], [.int a1, .ref a0])) rfl ?_
  obtain ⟨x4, e3, H⟩ := am_bd H
  refine am_G.cl [.ref a0, .int a1] [] (am_Cl.mono (by decide) (lX10_isDay e3)) rfl rfl rfl rfl (Nat.le_of_ble_eq_true rfl) ?_
  by_cases c5 : x4 = 0
  · rw [if_pos c5] at H
    refine am_G.br (tgt := 23) rfl rfl (if_pos c5) rfl ?_
    refine am_G.fr 1 (g := (25, [some (.ref a0), some (.int a1), some (.int a2)], [.int ((-2 : Int32))])) rfl ?_
    obtain ⟨rfl, rfl⟩ := am_inj2 H
    exact am_G.nd ⟨rfl, rfl⟩
  · rw [if_neg c5] at H
    refine am_G.br (tgt := 13) rfl rfl (if_neg c5) rfl ?_
    refine am_G.fr 3 (g := (17, [some (.ref a0), some (.int a1), some (.int a2)], [.int ((7 : Int32)), .int ((0 : Int32)), .int a2])) rfl ?_
    obtain ⟨x7, e6, H⟩ := am_bd H
    refine am_G.cl [.int a2, .int ((0 : Int32)), .int ((7 : Int32))] [] (am_Cl.mono (by decide) (lX10_within e6)) rfl rfl rfl rfl (Nat.le_of_ble_eq_true rfl) ?_
    by_cases c8 : ¬ x7 = 0
    · rw [if_pos c8] at H
      refine am_G.br (tgt := 26) rfl rfl (if_pos c8) rfl ?_
      refine am_G.fr 1 (g := (27, [some (.ref a0), some (.int a1), some (.int a2)], [.int a2])) rfl ?_
      by_cases c9 : a2.toInt < 3 ∨ 7 < a2.toInt
      · rw [if_pos c9] at H
        refine am_G.swD (tgt := 107) rfl c9 rfl ?_
        refine am_G.fr 3 (g := (110, [some (.ref a0), some (.int a1), some (.int a2)], [.int a2, .int a1, .ref a0])) rfl ?_
        obtain ⟨x13, e12, H⟩ := am_bd H
        refine am_G.cl [.ref a0, .int a1, .int a2] [] (am_Cl.mono (by decide) (lX10_dayOf e12)) rfl rfl rfl rfl (Nat.le_of_ble_eq_true rfl) ?_
        obtain ⟨rfl, rfl⟩ := am_inj2 H
        exact am_G.nd ⟨rfl, rfl⟩
      · rw [if_neg c9] at H
        obtain ⟨k10, e11, H⟩ := am_bd H
        by_cases c18 : k10 = 0
        · rw [if_pos c18] at H
          refine am_G.sw (tgt := 60) (k0 := 0) rfl c9 ((Option.some.inj e11).trans c18) rfl rfl ?_
          refine am_G.fr 1 (g := (61, [some (.ref a0), some (.int a1), some (.int a2)], [.ref a0])) rfl ?_
          obtain ⟨state14, e15, H⟩ := am_bd H
          refine am_G.gR rfl e15 ?_
          refine am_G.fr 3 (g := (68, [some (.ref a0), some (.int a1), some (.int a2)], [.int (((18 : Int32)) + a1), .ref state14])) rfl ?_
          obtain ⟨x16, e17, H⟩ := am_bd H
          refine am_G.aI rfl e17 ?_
          obtain ⟨rfl, rfl⟩ := am_inj2 H
          exact am_G.nd ⟨rfl, rfl⟩
        · rw [if_neg c18] at H
          by_cases c23 : k10 = 1
          · rw [if_pos c23] at H
            refine am_G.sw (tgt := 70) (k0 := 1) rfl c9 ((Option.some.inj e11).trans c23) rfl rfl ?_
            refine am_G.fr 1 (g := (71, [some (.ref a0), some (.int a1), some (.int a2)], [.ref a0])) rfl ?_
            obtain ⟨state19, e20, H⟩ := am_bd H
            refine am_G.gR rfl e20 ?_
            refine am_G.fr 3 (g := (78, [some (.ref a0), some (.int a1), some (.int a2)], [.int (((6 : Int32)) + a1), .ref state19])) rfl ?_
            obtain ⟨x21, e22, H⟩ := am_bd H
            refine am_G.aI rfl e22 ?_
            obtain ⟨rfl, rfl⟩ := am_inj2 H
            exact am_G.nd ⟨rfl, rfl⟩
          · rw [if_neg c23] at H
            by_cases c28 : k10 = 2
            · rw [if_pos c28] at H
              refine am_G.sw (tgt := 80) (k0 := 2) rfl c9 ((Option.some.inj e11).trans c28) rfl rfl ?_
              refine am_G.fr 1 (g := (81, [some (.ref a0), some (.int a1), some (.int a2)], [.ref a0])) rfl ?_
              obtain ⟨state24, e25, H⟩ := am_bd H
              refine am_G.gR rfl e25 ?_
              refine am_G.fr 3 (g := (88, [some (.ref a0), some (.int a1), some (.int a2)], [.int (((12 : Int32)) + a1), .ref state24])) rfl ?_
              obtain ⟨x26, e27, H⟩ := am_bd H
              refine am_G.aI rfl e27 ?_
              obtain ⟨rfl, rfl⟩ := am_inj2 H
              exact am_G.nd ⟨rfl, rfl⟩
            · rw [if_neg c28] at H
              by_cases c33 : k10 = 3
              · rw [if_pos c33] at H
                refine am_G.sw (tgt := 90) (k0 := 3) rfl c9 ((Option.some.inj e11).trans c33) rfl rfl ?_
                refine am_G.fr 1 (g := (91, [some (.ref a0), some (.int a1), some (.int a2)], [.ref a0])) rfl ?_
                obtain ⟨state29, e30, H⟩ := am_bd H
                refine am_G.gR rfl e30 ?_
                refine am_G.fr 3 (g := (98, [some (.ref a0), some (.int a1), some (.int a2)], [.int (((24 : Int32)) + a1), .ref state29])) rfl ?_
                obtain ⟨x31, e32, H⟩ := am_bd H
                refine am_G.aI rfl e32 ?_
                obtain ⟨rfl, rfl⟩ := am_inj2 H
                exact am_G.nd ⟨rfl, rfl⟩
              · rw [if_neg c33] at H
                by_cases c36 : k10 = 4
                · rw [if_pos c36] at H
                  refine am_G.sw (tgt := 100) (k0 := 4) rfl c9 ((Option.some.inj e11).trans c36) rfl rfl ?_
                  refine am_G.fr 3 (g := (103, [some (.ref a0), some (.int a1), some (.int a2)], [.int ((4 : Int32)), .int a1, .ref a0])) rfl ?_
                  obtain ⟨x35, e34, H⟩ := am_bd H
                  refine am_G.cl [.ref a0, .int a1, .int ((4 : Int32))] [] (am_Cl.mono (by decide) (lX10_dayOf e34)) rfl rfl rfl rfl (Nat.le_of_ble_eq_true rfl) ?_
                  obtain ⟨rfl, rfl⟩ := am_inj2 H
                  exact am_G.nd ⟨rfl, rfl⟩
                · rw [if_neg c36] at H
                  cases H
    · rw [if_neg c8] at H
      refine am_G.br (tgt := 23) rfl rfl (if_neg c8) rfl ?_
      refine am_G.fr 1 (g := (25, [some (.ref a0), some (.int a1), some (.int a2)], [.int ((-2 : Int32))])) rfl ?_
      obtain ⟨rfl, rfl⟩ := am_inj2 H
      exact am_G.nd ⟨rfl, rfl⟩
def fX10_date (a0 : Nat) (h : am_H) : Option (Int32 × am_H) :=
  (am_isO h a0 9).bind fun _ =>
  (am_pF h a0 9 0 (.int ((0 : Int32)))).bind fun hh1 =>
  (fX10_keeps a0 hh1).bind fun hh4 =>
  (fX10_passes a0 ((0 : Int32)) hh4).bind fun hh6 =>
  (am_gI hh6 a0 9 28).bind fun came7 =>
  some (came7, hh6)
set_option maxHeartbeats 4000000 in
set_option maxRecDepth 100000 in
theorem lX10_date {sc : Nat × (Nat → Int32)} {a0 : Nat} {h : am_H} {r : Int32} {h1 : am_H} (H : fX10_date a0 h = some (r, h1)) : am_Cl am_T am_N sc 8 199 [.ref a0] h (some (.int r)) h1 := by
  unfold fX10_date at H
  obtain ⟨_, hO, H⟩ := am_bd H
  obtain ⟨fs0, hO⟩ := am_isO_ok hO
  refine am_mk (q := qX10_date) rfl (fun _ => ⟨_, _, _, _, _, rfl, hO, rfl, rfl⟩) (fun z => absurd z (by decide)) (Nat.le_of_ble_eq_true rfl) rfl ?_
  show am_G sc (am_Cl am_T am_N sc 7) (am_at kX10_date) (fun t => t.2 = h1 ∧ am_ret 1 (am_at kX10_date) t.1 = some (some (.int r))) ((0, [some (.ref a0)], []), h)
  refine am_G.fr 2 (g := (2, [some (.ref a0)], [.int ((0 : Int32)), .ref a0])) rfl ?_
  obtain ⟨hh1, e2, H⟩ := am_bd H
  refine am_G.pF rfl e2 ?_
  refine am_G.fr 1 (g := (6, [some (.ref a0)], [.ref a0])) rfl ?_
  obtain ⟨hh4, e3, H⟩ := am_bd H
  refine am_G.cl [.ref a0] [] (am_Cl.mono (by decide) (lX10_keeps e3)) rfl rfl rfl rfl (Nat.le_of_ble_eq_true rfl) ?_
  refine am_G.fr 2 (g := (11, [some (.ref a0)], [.int ((0 : Int32)), .ref a0])) rfl ?_
  obtain ⟨hh6, e5, H⟩ := am_bd H
  refine am_G.cl [.ref a0, .int ((0 : Int32))] [] (am_Cl.mono (by decide) (lX10_passes e5)) rfl rfl rfl rfl (Nat.le_of_ble_eq_true rfl) ?_
  refine am_G.fr 1 (g := (15, [some (.ref a0)], [.ref a0])) rfl ?_
  obtain ⟨came7, e8, H⟩ := am_bd H
  refine am_G.gI rfl e8 ?_
  obtain ⟨rfl, rfl⟩ := am_inj2 H
  exact am_G.nd ⟨rfl, rfl⟩
def fX10_mayMove (a0 : Nat) (a1 : Int32) (a2 : Int32) (a3 : Int32) (h : am_H) : Option (Int32) :=
  (am_isO h a0 9).bind fun _ =>
  (am_gR h a0 9 24).bind fun state1 =>
  (am_aI h 0 state1 ((a1 + ((6 : Int32))) + a2)).bind fun x3 =>
  Option.bind (
    if x3 < 0 then
      some ((0 : Int32))
    else
      (am_gR h a0 9 24).bind fun state7 =>
      (am_aI h 0 state7 ((a1 + ((6 : Int32))) + a2)).bind fun x9 =>
      if x9 = a3 then
        some ((0 : Int32))
      else
        (fX10_doesHold a0 a1 a3 a2 h).bind fun x13 =>
        if x13 = 0 then
          some ((0 : Int32))
        else
          some ((1 : Int32))) fun js5 =>
  (am_z01 js5).bind fun b15 =>
  some b15
set_option maxHeartbeats 4000000 in
set_option maxRecDepth 100000 in
theorem lX10_mayMove {sc : Nat × (Nat → Int32)} {a0 : Nat} {a1 : Int32} {a2 : Int32} {a3 : Int32} {h : am_H} {r : Int32} (H : fX10_mayMove a0 a1 a2 a3 h = some r) : am_Cl am_T am_N sc 5 200 [.ref a0, .int a1, .int a2, .int a3] h (some (.int r)) h := by
  unfold fX10_mayMove at H
  obtain ⟨_, hO, H⟩ := am_bd H
  obtain ⟨fs0, hO⟩ := am_isO_ok hO
  refine am_mk (q := qX10_mayMove) rfl (fun _ => ⟨_, _, _, _, _, rfl, hO, rfl, rfl⟩) (fun z => absurd z (by decide)) (Nat.le_of_ble_eq_true rfl) rfl ?_
  show am_G sc (am_Cl am_T am_N sc 4) (am_at kX10_mayMove) (fun t => t.2 = h ∧ am_ret 2 (am_at kX10_mayMove) t.1 = some (some (.int r))) ((0, [some (.ref a0), some (.int a1), some (.int a2), some (.int a3)], []), h)
  refine am_G.fr 1 (g := (1, [some (.ref a0), some (.int a1), some (.int a2), some (.int a3)], [.ref a0])) rfl ?_
  obtain ⟨state1, e2, H⟩ := am_bd H
  refine am_G.gR rfl e2 ?_
  refine am_G.fr 5 (g := (10, [some (.ref a0), some (.int a1), some (.int a2), some (.int a3)], [.int ((a1 + ((6 : Int32))) + a2), .ref state1])) rfl ?_
  obtain ⟨x3, e4, H⟩ := am_bd H
  refine am_G.aI rfl e4 ?_
  obtain ⟨js5, E17, H⟩ := am_bd H
  refine am_G.sq (t := ((44, [none, none, none, none], [.int js5]), h)) ?_ ?_
  · clear H
    have H := E17
    clear E17
    by_cases c6 : x3 < 0
    · rw [if_pos c6] at H
      refine am_G.br (tgt := 43) rfl rfl (if_pos c6) rfl ?_
      refine am_G.fr 1 (g := (44, [some (.ref a0), some (.int a1), some (.int a2), some (.int a3)], [.int ((0 : Int32))])) rfl ?_
      obtain rfl := Option.some.inj H
      refine am_G.fg [none, none, none, none] (by simp only [am_sub, and_self]) ?_
      exact am_G.nd rfl
    · rw [if_neg c6] at H
      refine am_G.br (tgt := 14) rfl rfl (if_neg c6) rfl ?_
      refine am_G.fr 1 (g := (15, [some (.ref a0), some (.int a1), some (.int a2), some (.int a3)], [.ref a0])) rfl ?_
      obtain ⟨state7, e8, H⟩ := am_bd H
      refine am_G.gR rfl e8 ?_
      refine am_G.fr 5 (g := (24, [some (.ref a0), some (.int a1), some (.int a2), some (.int a3)], [.int ((a1 + ((6 : Int32))) + a2), .ref state7])) rfl ?_
      obtain ⟨x9, e10, H⟩ := am_bd H
      refine am_G.aI rfl e10 ?_
      refine am_G.fr 1 (g := (26, [some (.ref a0), some (.int a1), some (.int a2), some (.int a3)], [.int a3, .int x9])) rfl ?_
      by_cases c11 : x9 = a3
      · rw [if_pos c11] at H
        refine am_G.br (tgt := 43) rfl rfl (if_pos c11) rfl ?_
        refine am_G.fr 1 (g := (44, [some (.ref a0), some (.int a1), some (.int a2), some (.int a3)], [.int ((0 : Int32))])) rfl ?_
        obtain rfl := Option.some.inj H
        refine am_G.fg [none, none, none, none] (by simp only [am_sub, and_self]) ?_
        exact am_G.nd rfl
      · rw [if_neg c11] at H
        refine am_G.br (tgt := 29) rfl rfl (if_neg c11) rfl ?_
        refine am_G.fr 4 (g := (33, [some (.ref a0), some (.int a1), some (.int a2), some (.int a3)], [.int a2, .int a3, .int a1, .ref a0])) rfl ?_
        obtain ⟨x13, e12, H⟩ := am_bd H
        refine am_G.cl [.ref a0, .int a1, .int a3, .int a2] [] (am_Cl.mono (by decide) (lX10_doesHold e12)) rfl rfl rfl rfl (Nat.le_of_ble_eq_true rfl) ?_
        by_cases c14 : x13 = 0
        · rw [if_pos c14] at H
          refine am_G.br (tgt := 43) rfl rfl (if_pos c14) rfl ?_
          refine am_G.fr 1 (g := (44, [some (.ref a0), some (.int a1), some (.int a2), some (.int a3)], [.int ((0 : Int32))])) rfl ?_
          obtain rfl := Option.some.inj H
          refine am_G.fg [none, none, none, none] (by simp only [am_sub, and_self]) ?_
          exact am_G.nd rfl
        · rw [if_neg c14] at H
          refine am_G.br (tgt := 39) rfl rfl (if_neg c14) rfl ?_
          refine am_G.fr 2 (g := (44, [some (.ref a0), some (.int a1), some (.int a2), some (.int a3)], [.int ((1 : Int32))])) rfl ?_
          obtain rfl := Option.some.inj H
          refine am_G.fg [none, none, none, none] (by simp only [am_sub, and_self]) ?_
          exact am_G.nd rfl
  · clear E17
    obtain ⟨b15, e16, H⟩ := am_bd H
    obtain rfl := Option.some.inj H
    exact am_G.nd ⟨rfl, am_ret2 rfl e16⟩
def fX10_move (a0 : Nat) (a1 : Int32) (a2 : Int32) (h : am_H) : Option (Int32 × am_H) :=
  (am_isO h a0 9).bind fun _ =>
  (am_pF h a0 9 0 (.int ((0 : Int32)))).bind fun hh1 =>
  (fX10_isDay a0 a1 hh1).bind fun x4 =>
  if x4 = 0 then
    some ((0 : Int32), hh1)
  else
    (fX10_isHouse a0 a2 hh1).bind fun x7 =>
    if x7 = 0 then
      some ((0 : Int32), hh1)
    else
      (fX10_mayMove a0 ((0 : Int32)) a1 a2 hh1).bind fun x10 =>
      if ¬ x10 = 0 then
        (fX10_keeps a0 hh1).bind fun hh13 =>
        (am_gR hh13 a0 9 24).bind fun state14 =>
        (am_sI hh13 0 state14 (((6 : Int32)) + a1) a2).bind fun hh16 =>
        some ((1 : Int32), hh16)
      else
        some ((0 : Int32), hh1)
set_option maxHeartbeats 4000000 in
set_option maxRecDepth 100000 in
theorem lX10_move {sc : Nat × (Nat → Int32)} {a0 : Nat} {a1 : Int32} {a2 : Int32} {h : am_H} {r : Int32} {h1 : am_H} (H : fX10_move a0 a1 a2 h = some (r, h1)) : am_Cl am_T am_N sc 6 201 [.ref a0, .int a1, .int a2] h (some (.int r)) h1 := by
  unfold fX10_move at H
  obtain ⟨_, hO, H⟩ := am_bd H
  obtain ⟨fs0, hO⟩ := am_isO_ok hO
  refine am_mk (q := qX10_move) rfl (fun _ => ⟨_, _, _, _, _, rfl, hO, rfl, rfl⟩) (fun z => absurd z (by decide)) (Nat.le_of_ble_eq_true rfl) rfl ?_
  show am_G sc (am_Cl am_T am_N sc 5) (am_at kX10_move) (fun t => t.2 = h1 ∧ am_ret 2 (am_at kX10_move) t.1 = some (some (.int r))) ((0, [some (.ref a0), some (.int a1), some (.int a2)], []), h)
  refine am_G.fr 2 (g := (2, [some (.ref a0), some (.int a1), some (.int a2)], [.int ((0 : Int32)), .ref a0])) rfl ?_
  obtain ⟨hh1, e2, H⟩ := am_bd H
  refine am_G.pF rfl e2 ?_
  refine am_G.fr 2 (g := (7, [some (.ref a0), some (.int a1), some (.int a2)], [.int a1, .ref a0])) rfl ?_
  obtain ⟨x4, e3, H⟩ := am_bd H
  refine am_G.cl [.ref a0, .int a1] [] (am_Cl.mono (by decide) (lX10_isDay e3)) rfl rfl rfl rfl (Nat.le_of_ble_eq_true rfl) ?_
  by_cases c5 : x4 = 0
  · rw [if_pos c5] at H
    refine am_G.br (tgt := 31) rfl rfl (if_pos c5) rfl ?_
    refine am_G.fr 1 (g := (32, [some (.ref a0), some (.int a1), some (.int a2)], [.int ((0 : Int32))])) rfl ?_
    obtain ⟨rfl, rfl⟩ := am_inj2 H
    exact am_G.nd ⟨rfl, am_ret2 rfl (if_pos (by decide))⟩
  · rw [if_neg c5] at H
    refine am_G.br (tgt := 13) rfl rfl (if_neg c5) rfl ?_
    refine am_G.fr 2 (g := (15, [some (.ref a0), some (.int a1), some (.int a2)], [.int a2, .ref a0])) rfl ?_
    obtain ⟨x7, e6, H⟩ := am_bd H
    refine am_G.cl [.ref a0, .int a2] [] (am_Cl.mono (by decide) (lX10_isHouse e6)) rfl rfl rfl rfl (Nat.le_of_ble_eq_true rfl) ?_
    by_cases c8 : x7 = 0
    · rw [if_pos c8] at H
      refine am_G.br (tgt := 31) rfl rfl (if_pos c8) rfl ?_
      refine am_G.fr 1 (g := (32, [some (.ref a0), some (.int a1), some (.int a2)], [.int ((0 : Int32))])) rfl ?_
      obtain ⟨rfl, rfl⟩ := am_inj2 H
      exact am_G.nd ⟨rfl, am_ret2 rfl (if_pos (by decide))⟩
    · rw [if_neg c8] at H
      refine am_G.br (tgt := 21) rfl rfl (if_neg c8) rfl ?_
      refine am_G.fr 4 (g := (25, [some (.ref a0), some (.int a1), some (.int a2)], [.int a2, .int a1, .int ((0 : Int32)), .ref a0])) rfl ?_
      obtain ⟨x10, e9, H⟩ := am_bd H
      refine am_G.cl [.ref a0, .int ((0 : Int32)), .int a1, .int a2] [] (am_Cl.mono (by decide) (lX10_mayMove e9)) rfl rfl rfl rfl (Nat.le_of_ble_eq_true rfl) ?_
      by_cases c11 : ¬ x10 = 0
      · rw [if_pos c11] at H
        refine am_G.br (tgt := 33) rfl rfl (if_pos c11) rfl ?_
        refine am_G.fr 1 (g := (34, [some (.ref a0), some (.int a1), some (.int a2)], [.ref a0])) rfl ?_
        obtain ⟨hh13, e12, H⟩ := am_bd H
        refine am_G.cl [.ref a0] [] (am_Cl.mono (by decide) (lX10_keeps e12)) rfl rfl rfl rfl (Nat.le_of_ble_eq_true rfl) ?_
        refine am_G.fr 1 (g := (38, [some (.ref a0), some (.int a1), some (.int a2)], [.ref a0])) rfl ?_
        obtain ⟨state14, e15, H⟩ := am_bd H
        refine am_G.gR rfl e15 ?_
        refine am_G.fr 4 (g := (46, [some (.ref a0), some (.int a1), some (.int a2)], [.int a2, .int (((6 : Int32)) + a1), .ref state14])) rfl ?_
        obtain ⟨hh16, e17, H⟩ := am_bd H
        refine am_G.sI rfl e17 ?_
        refine am_G.fr 1 (g := (48, [some (.ref a0), some (.int a1), some (.int a2)], [.int ((1 : Int32))])) rfl ?_
        obtain ⟨rfl, rfl⟩ := am_inj2 H
        exact am_G.nd ⟨rfl, am_ret2 rfl (if_pos (by decide))⟩
      · rw [if_neg c11] at H
        refine am_G.br (tgt := 31) rfl rfl (if_neg c11) rfl ?_
        refine am_G.fr 1 (g := (32, [some (.ref a0), some (.int a1), some (.int a2)], [.int ((0 : Int32))])) rfl ?_
        obtain ⟨rfl, rfl⟩ := am_inj2 H
        exact am_G.nd ⟨rfl, am_ret2 rfl (if_pos (by decide))⟩
def fX10_send (a0 : Nat) (a1 : Int32) (h : am_H) : Option (Int32 × am_H) :=
  (am_isO h a0 9).bind fun _ =>
  (am_pF h a0 9 0 (.int ((0 : Int32)))).bind fun hh1 =>
  (fX10_isDay a0 a1 hh1).bind fun x4 =>
  if x4 = 0 then
    some ((0 : Int32), hh1)
  else
    (am_gR hh1 a0 9 24).bind fun state6 =>
    (am_aI hh1 0 state6 (((6 : Int32)) + a1)).bind fun x8 =>
    if 0 ≤ x8 then
      (fX10_keeps a0 hh1).bind fun hh12 =>
      (fX10_leaves a0 ((0 : Int32)) a1 hh12).bind fun hh14 =>
      some ((1 : Int32), hh14)
    else
      some ((0 : Int32), hh1)
set_option maxHeartbeats 4000000 in
set_option maxRecDepth 100000 in
theorem lX10_send {sc : Nat × (Nat → Int32)} {a0 : Nat} {a1 : Int32} {h : am_H} {r : Int32} {h1 : am_H} (H : fX10_send a0 a1 h = some (r, h1)) : am_Cl am_T am_N sc 3 202 [.ref a0, .int a1] h (some (.int r)) h1 := by
  unfold fX10_send at H
  obtain ⟨_, hO, H⟩ := am_bd H
  obtain ⟨fs0, hO⟩ := am_isO_ok hO
  refine am_mk (q := qX10_send) rfl (fun _ => ⟨_, _, _, _, _, rfl, hO, rfl, rfl⟩) (fun z => absurd z (by decide)) (Nat.le_of_ble_eq_true rfl) rfl ?_
  show am_G sc (am_Cl am_T am_N sc 2) (am_at kX10_send) (fun t => t.2 = h1 ∧ am_ret 2 (am_at kX10_send) t.1 = some (some (.int r))) ((0, [some (.ref a0), some (.int a1)], []), h)
  refine am_G.fr 2 (g := (2, [some (.ref a0), some (.int a1)], [.int ((0 : Int32)), .ref a0])) rfl ?_
  obtain ⟨hh1, e2, H⟩ := am_bd H
  refine am_G.pF rfl e2 ?_
  refine am_G.fr 2 (g := (7, [some (.ref a0), some (.int a1)], [.int a1, .ref a0])) rfl ?_
  obtain ⟨x4, e3, H⟩ := am_bd H
  refine am_G.cl [.ref a0, .int a1] [] (am_Cl.mono (by decide) (lX10_isDay e3)) rfl rfl rfl rfl (Nat.le_of_ble_eq_true rfl) ?_
  by_cases c5 : x4 = 0
  · rw [if_pos c5] at H
    refine am_G.br (tgt := 25) rfl rfl (if_pos c5) rfl ?_
    refine am_G.fr 1 (g := (26, [some (.ref a0), some (.int a1)], [.int ((0 : Int32))])) rfl ?_
    obtain ⟨rfl, rfl⟩ := am_inj2 H
    exact am_G.nd ⟨rfl, am_ret2 rfl (if_pos (by decide))⟩
  · rw [if_neg c5] at H
    refine am_G.br (tgt := 13) rfl rfl (if_neg c5) rfl ?_
    refine am_G.fr 1 (g := (14, [some (.ref a0), some (.int a1)], [.ref a0])) rfl ?_
    obtain ⟨state6, e7, H⟩ := am_bd H
    refine am_G.gR rfl e7 ?_
    refine am_G.fr 3 (g := (21, [some (.ref a0), some (.int a1)], [.int (((6 : Int32)) + a1), .ref state6])) rfl ?_
    obtain ⟨x8, e9, H⟩ := am_bd H
    refine am_G.aI rfl e9 ?_
    by_cases c10 : 0 ≤ x8
    · rw [if_pos c10] at H
      refine am_G.br (tgt := 27) rfl rfl (if_pos c10) rfl ?_
      refine am_G.fr 1 (g := (28, [some (.ref a0), some (.int a1)], [.ref a0])) rfl ?_
      obtain ⟨hh12, e11, H⟩ := am_bd H
      refine am_G.cl [.ref a0] [] (am_Cl.mono (by decide) (lX10_keeps e11)) rfl rfl rfl rfl (Nat.le_of_ble_eq_true rfl) ?_
      refine am_G.fr 3 (g := (34, [some (.ref a0), some (.int a1)], [.int a1, .int ((0 : Int32)), .ref a0])) rfl ?_
      obtain ⟨hh14, e13, H⟩ := am_bd H
      refine am_G.cl [.ref a0, .int ((0 : Int32)), .int a1] [] (am_Cl.mono (by decide) (lX10_leaves e13)) rfl rfl rfl rfl (Nat.le_of_ble_eq_true rfl) ?_
      refine am_G.fr 1 (g := (38, [some (.ref a0), some (.int a1)], [.int ((1 : Int32))])) rfl ?_
      obtain ⟨rfl, rfl⟩ := am_inj2 H
      exact am_G.nd ⟨rfl, am_ret2 rfl (if_pos (by decide))⟩
    · rw [if_neg c10] at H
      refine am_G.br (tgt := 25) rfl rfl (if_neg c10) rfl ?_
      refine am_G.fr 1 (g := (26, [some (.ref a0), some (.int a1)], [.int ((0 : Int32))])) rfl ?_
      obtain ⟨rfl, rfl⟩ := am_inj2 H
      exact am_G.nd ⟨rfl, am_ret2 rfl (if_pos (by decide))⟩
def fX10_build (a0 : Nat) (a1 : Int32) (h : am_H) : Option (Int32 × am_H) :=
  (am_isO h a0 9).bind fun _ =>
  (am_pF h a0 9 0 (.int ((0 : Int32)))).bind fun hh1 =>
  (fX10_isHouse a0 a1 hh1).bind fun x4 =>
  if x4 = 0 then
    some ((-1 : Int32), hh1)
  else
    (am_gR hh1 a0 9 24).bind fun state6 =>
    (am_aI hh1 0 state6 (((2 : Int32)) + a1)).bind fun x8 =>
    if ¬ x8 = ((9 : Int32)) then
      (fX10_keeps a0 hh1).bind fun hh12 =>
      (am_gR hh12 a0 9 24).bind fun state13 =>
      (am_aI hh12 0 state13 (((2 : Int32)) + a1)).bind fun x15 =>
      (am_sI hh12 0 state13 (((2 : Int32)) + a1) (x15 + ((1 : Int32)))).bind fun hh17 =>
      (am_gR hh17 a0 9 24).bind fun state19 =>
      (am_aI hh17 0 state19 (((2 : Int32)) + a1)).bind fun x21 =>
      some (x21, hh17)
    else
      some ((-1 : Int32), hh1)
set_option maxHeartbeats 4000000 in
set_option maxRecDepth 100000 in
theorem lX10_build {sc : Nat × (Nat → Int32)} {a0 : Nat} {a1 : Int32} {h : am_H} {r : Int32} {h1 : am_H} (H : fX10_build a0 a1 h = some (r, h1)) : am_Cl am_T am_N sc 3 203 [.ref a0, .int a1] h (some (.int r)) h1 := by
  unfold fX10_build at H
  obtain ⟨_, hO, H⟩ := am_bd H
  obtain ⟨fs0, hO⟩ := am_isO_ok hO
  refine am_mk (q := qX10_build) rfl (fun _ => ⟨_, _, _, _, _, rfl, hO, rfl, rfl⟩) (fun z => absurd z (by decide)) (Nat.le_of_ble_eq_true rfl) rfl ?_
  show am_G sc (am_Cl am_T am_N sc 2) (am_at kX10_build) (fun t => t.2 = h1 ∧ am_ret 1 (am_at kX10_build) t.1 = some (some (.int r))) ((0, [some (.ref a0), some (.int a1)], []), h)
  refine am_G.fr 2 (g := (2, [some (.ref a0), some (.int a1)], [.int ((0 : Int32)), .ref a0])) rfl ?_
  obtain ⟨hh1, e2, H⟩ := am_bd H
  refine am_G.pF rfl e2 ?_
  refine am_G.fr 2 (g := (7, [some (.ref a0), some (.int a1)], [.int a1, .ref a0])) rfl ?_
  obtain ⟨x4, e3, H⟩ := am_bd H
  refine am_G.cl [.ref a0, .int a1] [] (am_Cl.mono (by decide) (lX10_isHouse e3)) rfl rfl rfl rfl (Nat.le_of_ble_eq_true rfl) ?_
  by_cases c5 : x4 = 0
  · rw [if_pos c5] at H
    refine am_G.br (tgt := 26) rfl rfl (if_pos c5) rfl ?_
    refine am_G.fr 1 (g := (27, [some (.ref a0), some (.int a1)], [.int ((-1 : Int32))])) rfl ?_
    obtain ⟨rfl, rfl⟩ := am_inj2 H
    exact am_G.nd ⟨rfl, rfl⟩
  · rw [if_neg c5] at H
    refine am_G.br (tgt := 13) rfl rfl (if_neg c5) rfl ?_
    refine am_G.fr 1 (g := (14, [some (.ref a0), some (.int a1)], [.ref a0])) rfl ?_
    obtain ⟨state6, e7, H⟩ := am_bd H
    refine am_G.gR rfl e7 ?_
    refine am_G.fr 3 (g := (20, [some (.ref a0), some (.int a1)], [.int (((2 : Int32)) + a1), .ref state6])) rfl ?_
    obtain ⟨x8, e9, H⟩ := am_bd H
    refine am_G.aI rfl e9 ?_
    refine am_G.fr 1 (g := (23, [some (.ref a0), some (.int a1)], [.int ((9 : Int32)), .int x8])) rfl ?_
    by_cases c10 : ¬ x8 = ((9 : Int32))
    · rw [if_pos c10] at H
      refine am_G.br (tgt := 28) rfl rfl (if_pos c10) rfl ?_
      refine am_G.fr 1 (g := (29, [some (.ref a0), some (.int a1)], [.ref a0])) rfl ?_
      obtain ⟨hh12, e11, H⟩ := am_bd H
      refine am_G.cl [.ref a0] [] (am_Cl.mono (by decide) (lX10_keeps e11)) rfl rfl rfl rfl (Nat.le_of_ble_eq_true rfl) ?_
      refine am_G.fr 1 (g := (33, [some (.ref a0), some (.int a1)], [.ref a0])) rfl ?_
      obtain ⟨state13, e14, H⟩ := am_bd H
      refine am_G.gR rfl e14 ?_
      refine am_G.fr 4 (g := (40, [some (.ref a0), some (.int a1)], [.int (((2 : Int32)) + a1), .ref state13, .int (((2 : Int32)) + a1), .ref state13])) rfl ?_
      obtain ⟨x15, e16, H⟩ := am_bd H
      refine am_G.aI rfl e16 ?_
      refine am_G.fr 2 (g := (43, [some (.ref a0), some (.int a1)], [.int (x15 + ((1 : Int32))), .int (((2 : Int32)) + a1), .ref state13])) rfl ?_
      obtain ⟨hh17, e18, H⟩ := am_bd H
      refine am_G.sI rfl e18 ?_
      refine am_G.fr 1 (g := (45, [some (.ref a0), some (.int a1)], [.ref a0])) rfl ?_
      obtain ⟨state19, e20, H⟩ := am_bd H
      refine am_G.gR rfl e20 ?_
      refine am_G.fr 3 (g := (51, [some (.ref a0), some (.int a1)], [.int (((2 : Int32)) + a1), .ref state19])) rfl ?_
      obtain ⟨x21, e22, H⟩ := am_bd H
      refine am_G.aI rfl e22 ?_
      obtain ⟨rfl, rfl⟩ := am_inj2 H
      exact am_G.nd ⟨rfl, rfl⟩
    · rw [if_neg c10] at H
      refine am_G.br (tgt := 26) rfl rfl (if_neg c10) rfl ?_
      refine am_G.fr 1 (g := (27, [some (.ref a0), some (.int a1)], [.int ((-1 : Int32))])) rfl ?_
      obtain ⟨rfl, rfl⟩ := am_inj2 H
      exact am_G.nd ⟨rfl, rfl⟩
def fX10_undo (a0 : Nat) (h : am_H) : Option (Int32 × am_H) :=
  (am_isO h a0 9).bind fun _ =>
  (am_pF h a0 9 0 (.int ((0 : Int32)))).bind fun hh1 =>
  (am_gI hh1 a0 9 25).bind fun undos3 =>
  if ¬ undos3 = 0 then
    (am_gI hh1 a0 9 25).bind fun undos6 =>
    (am_pF hh1 a0 9 25 (.int (undos6 - ((1 : Int32))))).bind fun hh8 =>
    (am_gI hh8 a0 9 25).bind fun undos10 =>
    (fX10_copies a0 (((47 : Int32)) * (((5 : Int32)) + undos10)) ((0 : Int32)) ((30 : Int32)) hh8).bind fun hh13 =>
    some ((1 : Int32), hh13)
  else
    some ((0 : Int32), hh1)
set_option maxHeartbeats 4000000 in
set_option maxRecDepth 100000 in
theorem lX10_undo {sc : Nat × (Nat → Int32)} {a0 : Nat} {h : am_H} {r : Int32} {h1 : am_H} (H : fX10_undo a0 h = some (r, h1)) : am_Cl am_T am_N sc 2 204 [.ref a0] h (some (.int r)) h1 := by
  unfold fX10_undo at H
  obtain ⟨_, hO, H⟩ := am_bd H
  obtain ⟨fs0, hO⟩ := am_isO_ok hO
  refine am_mk (q := qX10_undo) rfl (fun _ => ⟨_, _, _, _, _, rfl, hO, rfl, rfl⟩) (fun z => absurd z (by decide)) (Nat.le_of_ble_eq_true rfl) rfl ?_
  show am_G sc (am_Cl am_T am_N sc 1) (am_at kX10_undo) (fun t => t.2 = h1 ∧ am_ret 2 (am_at kX10_undo) t.1 = some (some (.int r))) ((0, [some (.ref a0)], []), h)
  refine am_G.fr 2 (g := (2, [some (.ref a0)], [.int ((0 : Int32)), .ref a0])) rfl ?_
  obtain ⟨hh1, e2, H⟩ := am_bd H
  refine am_G.pF rfl e2 ?_
  refine am_G.fr 1 (g := (6, [some (.ref a0)], [.ref a0])) rfl ?_
  obtain ⟨undos3, e4, H⟩ := am_bd H
  refine am_G.gI rfl e4 ?_
  by_cases c5 : ¬ undos3 = 0
  · rw [if_pos c5] at H
    refine am_G.br (tgt := 14) rfl rfl (if_pos c5) rfl ?_
    refine am_G.fr 2 (g := (16, [some (.ref a0)], [.ref a0, .ref a0])) rfl ?_
    obtain ⟨undos6, e7, H⟩ := am_bd H
    refine am_G.gI rfl e7 ?_
    refine am_G.fr 2 (g := (21, [some (.ref a0)], [.int (undos6 - ((1 : Int32))), .ref a0])) rfl ?_
    obtain ⟨hh8, e9, H⟩ := am_bd H
    refine am_G.pF rfl e9 ?_
    refine am_G.fr 4 (g := (29, [some (.ref a0)], [.ref a0, .int ((5 : Int32)), .int ((47 : Int32)), .ref a0])) rfl ?_
    obtain ⟨undos10, e11, H⟩ := am_bd H
    refine am_G.gI rfl e11 ?_
    refine am_G.fr 4 (g := (37, [some (.ref a0)], [.int ((30 : Int32)), .int ((0 : Int32)), .int (((47 : Int32)) * (((5 : Int32)) + undos10)), .ref a0])) rfl ?_
    obtain ⟨hh13, e12, H⟩ := am_bd H
    refine am_G.cl [.ref a0, .int (((47 : Int32)) * (((5 : Int32)) + undos10)), .int ((0 : Int32)), .int ((30 : Int32))] [] (am_Cl.mono (by decide) (lX10_copies e12)) rfl rfl rfl rfl (Nat.le_of_ble_eq_true rfl) ?_
    refine am_G.fr 1 (g := (41, [some (.ref a0)], [.int ((1 : Int32))])) rfl ?_
    obtain ⟨rfl, rfl⟩ := am_inj2 H
    exact am_G.nd ⟨rfl, am_ret2 rfl (if_pos (by decide))⟩
  · rw [if_neg c5] at H
    refine am_G.br (tgt := 12) rfl rfl (if_neg c5) rfl ?_
    refine am_G.fr 1 (g := (13, [some (.ref a0)], [.int ((0 : Int32))])) rfl ?_
    obtain ⟨rfl, rfl⟩ := am_inj2 H
    exact am_G.nd ⟨rfl, am_ret2 rfl (if_pos (by decide))⟩
def fX10_judged_L31 : Nat → Nat → Int32 → Int32 → Int32 → Int32 → am_H → Option (Int32 × Int32 × am_H)
  | 0, _, _, _, _, _, _ => none
  | n + 1, v0, v1, v2, v3, v4, h =>
    (am_gR h v0 9 21).bind fun lines8 =>
    (am_aI h 0 lines8 ((0 : Int32))).bind fun x10 =>
    if x10 ≤ v4 then
      some (v2, v3, h)
    else
      (am_gR h v0 9 21).bind fun lines13 =>
      (am_aI h 0 lines13 (((1 : Int32)) + (((3 : Int32)) * v4))).bind fun x15 =>
      (am_gR h v0 9 21).bind fun lines17 =>
      (am_aI h 0 lines17 (((2 : Int32)) + (((3 : Int32)) * v4))).bind fun x19 =>
      (am_gR h v0 9 21).bind fun lines21 =>
      (am_aI h 0 lines21 (((3 : Int32)) + (((3 : Int32)) * v4))).bind fun x23 =>
      Option.bind (
        if x15 = 0 then
          some ((1 : Int32))
        else
          if ¬ x15 = ((1 : Int32)) then
            if ¬ x15 = ((2 : Int32)) then
              (am_gR h v0 9 24).bind fun state29 =>
              (am_aI h 0 state29 (((989 : Int32)) + x19)).bind fun x31 =>
              if ((9 : Int32)) ≤ x31 then
                some ((0 : Int32))
              else
                some ((1 : Int32))
            else
              (am_gR h v0 9 24).bind fun state34 =>
              (am_aI h 0 state34 (((993 : Int32)) + x19)).bind fun x36 =>
              if x36 < 0 then
                some ((0 : Int32))
              else
                some ((1 : Int32))
          else
            (fX10_mayMove v0 ((987 : Int32)) x19 x23 h).bind fun x40 =>
            if x40 = 0 then
              some ((0 : Int32))
            else
              some ((1 : Int32))) fun js25 =>
      Option.bind (
        if ¬ js25 = 0 then
          some v2
        else
          if 0 ≤ v2 then
            some v2
          else
            some v4) fun js42 =>
      am_b2 (
        if ¬ x15 = 0 then
          if js25 = 0 then
            if js25 = 0 then
              if js25 = 0 then
                some (v3, h)
              else
                (am_gR h v0 9 24).bind fun state51 =>
                (am_aI h 0 state51 (((989 : Int32)) + x19)).bind fun x53 =>
                (am_sI h 0 state51 (((989 : Int32)) + x19) (x53 + ((1 : Int32)))).bind fun hh55 =>
                some (v3, hh55)
            else
              if ¬ x15 = ((2 : Int32)) then
                if js25 = 0 then
                  some (v3, h)
                else
                  (am_gR h v0 9 24).bind fun state59 =>
                  (am_aI h 0 state59 (((989 : Int32)) + x19)).bind fun x61 =>
                  (am_sI h 0 state59 (((989 : Int32)) + x19) (x61 + ((1 : Int32)))).bind fun hh63 =>
                  some (v3, hh63)
              else
                (fX10_leaves v0 ((987 : Int32)) x19 h).bind fun hh66 =>
                some (v3, hh66)
          else
            if ¬ x15 = ((1 : Int32)) then
              if js25 = 0 then
                if js25 = 0 then
                  some (v3, h)
                else
                  (am_gR h v0 9 24).bind fun state70 =>
                  (am_aI h 0 state70 (((989 : Int32)) + x19)).bind fun x72 =>
                  (am_sI h 0 state70 (((989 : Int32)) + x19) (x72 + ((1 : Int32)))).bind fun hh74 =>
                  some (v3, hh74)
              else
                if ¬ x15 = ((2 : Int32)) then
                  if js25 = 0 then
                    some (v3, h)
                  else
                    (am_gR h v0 9 24).bind fun state78 =>
                    (am_aI h 0 state78 (((989 : Int32)) + x19)).bind fun x80 =>
                    (am_sI h 0 state78 (((989 : Int32)) + x19) (x80 + ((1 : Int32)))).bind fun hh82 =>
                    some (v3, hh82)
                else
                  (fX10_leaves v0 ((987 : Int32)) x19 h).bind fun hh85 =>
                  some (v3, hh85)
            else
              (am_gR h v0 9 24).bind fun state86 =>
              (am_sI h 0 state86 (((993 : Int32)) + x19) x23).bind fun hh88 =>
              some (v3, hh88)
        else
          (fX10_passes v0 ((987 : Int32)) h).bind fun hh91 =>
          (am_gI hh91 v0 9 29).bind fun off92 =>
          Option.bind (
            if off92 = 0 then
              some v3
            else
              if 0 ≤ v3 then
                some v3
              else
                some v4) fun js94 =>
          some (js94, hh91)) fun jv45 hh46 =>
      fX10_judged_L31 n v0 v1 js42 jv45 (v4 + (1 : Int32)) hh46
def fX10_judged (a0 : Nat) (a1 : Int32) (h : am_H) : Option (Int32 × am_H) :=
  (am_isO h a0 9).bind fun _ =>
  (am_pF h a0 9 0 (.int ((0 : Int32)))).bind fun hh1 =>
  (fX10_within a1 ((0 : Int32)) ((2 : Int32)) hh1).bind fun x4 =>
  if ¬ x4 = 0 then
    (fX10_starts a0 ((987 : Int32)) hh1).bind fun hh7 =>
    am_b3 (fX10_judged_L31 4000 a0 a1 ((-1 : Int32)) ((-1 : Int32)) ((0 : Int32)) hh7) fun lw101 lw102 hh103 =>
    Option.bind (
      if ¬ a1 = 0 then
        if ¬ a1 = ((1 : Int32)) then
          (am_gR hh103 a0 9 24).bind fun state108 =>
          (am_aI hh103 0 state108 ((988 : Int32))).bind fun x110 =>
          some x110
        else
          some lw102
      else
        some lw101) fun js105 =>
    some (js105, hh103)
  else
    some ((-2 : Int32), hh1)
set_option maxHeartbeats 4000000 in
set_option maxRecDepth 100000 in
theorem lX10_judged_L31 {sc : Nat × (Nat → Int32)} : ∀ (n : Nat) (v0 : Nat) (v1 : Int32) (v2 : Int32) (v3 : Int32) (v4 : Int32) (h : am_H) (w2 : Int32) (w3 : Int32) (h1 : am_H), fX10_judged_L31 n v0 v1 v2 v3 v4 h = some (w2, w3, h1) → am_G sc (am_Cl am_T am_N sc 7) (am_at kX10_judged) (fun t => t = ((280, [some (.ref v0), some (.int v1), some (.int w2), some (.int w3), none, none, none, none, none], []), h1)) ((31, [some (.ref v0), some (.int v1), some (.int v2), some (.int v3), some (.int v4), none, none, none, none], []), h) := by
  intro n
  induction n with
  | zero => intro _ _ _ _ _ _ _ _ _ H; cases H
  | succ n ih =>
    intro v0 v1 v2 v3 v4 h w2 w3 h1 H
    rw [fX10_judged_L31] at H
    refine am_G.fr 2 (g := (34, [some (.ref v0), some (.int v1), some (.int v2), some (.int v3), some (.int v4), none, none, none, none], [.ref v0, .int v4])) rfl ?_
    obtain ⟨lines8, e9, H⟩ := am_bd H
    refine am_G.gR rfl e9 ?_
    refine am_G.fr 1 (g := (38, [some (.ref v0), some (.int v1), some (.int v2), some (.int v3), some (.int v4), none, none, none, none], [.int ((0 : Int32)), .ref lines8, .int v4])) rfl ?_
    obtain ⟨x10, e11, H⟩ := am_bd H
    refine am_G.aI rfl e11 ?_
    by_cases c12 : x10 ≤ v4
    · rw [if_pos c12] at H
      refine am_G.br (tgt := 280) rfl rfl (if_pos c12) rfl ?_
      obtain ⟨rfl, rfl, rfl⟩ := am_inj3 H
      refine am_G.fg [some (.ref v0), some (.int v1), some (.int v2), some (.int v3), none, none, none, none, none] (by simp only [am_sub, and_self]) ?_
      exact am_G.nd rfl
    · rw [if_neg c12] at H
      refine am_G.br (tgt := 42) rfl rfl (if_neg c12) rfl ?_
      refine am_G.fr 1 (g := (43, [some (.ref v0), some (.int v1), some (.int v2), some (.int v3), some (.int v4), none, none, none, none], [.ref v0])) rfl ?_
      obtain ⟨lines13, e14, H⟩ := am_bd H
      refine am_G.gR rfl e14 ?_
      refine am_G.fr 5 (g := (52, [some (.ref v0), some (.int v1), some (.int v2), some (.int v3), some (.int v4), none, none, none, none], [.int (((1 : Int32)) + (((3 : Int32)) * v4)), .ref lines13])) rfl ?_
      obtain ⟨x15, e16, H⟩ := am_bd H
      refine am_G.aI rfl e16 ?_
      refine am_G.fr 2 (g := (56, [some (.ref v0), some (.int v1), some (.int v2), some (.int v3), some (.int v4), some (.int x15), none, none, none], [.ref v0])) rfl ?_
      obtain ⟨lines17, e18, H⟩ := am_bd H
      refine am_G.gR rfl e18 ?_
      refine am_G.fr 5 (g := (65, [some (.ref v0), some (.int v1), some (.int v2), some (.int v3), some (.int v4), some (.int x15), none, none, none], [.int (((2 : Int32)) + (((3 : Int32)) * v4)), .ref lines17])) rfl ?_
      obtain ⟨x19, e20, H⟩ := am_bd H
      refine am_G.aI rfl e20 ?_
      refine am_G.fr 2 (g := (69, [some (.ref v0), some (.int v1), some (.int v2), some (.int v3), some (.int v4), some (.int x15), some (.int x19), none, none], [.ref v0])) rfl ?_
      obtain ⟨lines21, e22, H⟩ := am_bd H
      refine am_G.gR rfl e22 ?_
      refine am_G.fr 5 (g := (78, [some (.ref v0), some (.int v1), some (.int v2), some (.int v3), some (.int v4), some (.int x15), some (.int x19), none, none], [.int (((3 : Int32)) + (((3 : Int32)) * v4)), .ref lines21])) rfl ?_
      obtain ⟨x23, e24, H⟩ := am_bd H
      refine am_G.aI rfl e24 ?_
      refine am_G.fr 2 (g := (83, [some (.ref v0), some (.int v1), some (.int v2), some (.int v3), some (.int v4), some (.int x15), some (.int x19), some (.int x23), none], [.int x15])) rfl ?_
      obtain ⟨js25, E100, H⟩ := am_bd H
      refine am_G.sq (t := ((153, [some (.ref v0), some (.int v1), some (.int v2), some (.int v3), some (.int v4), some (.int x15), some (.int x19), some (.int x23), none], [.int js25]), h)) ?_ ?_
      · clear H
        have H := E100
        clear E100
        by_cases c26 : x15 = 0
        · rw [if_pos c26] at H
          refine am_G.br (tgt := 148) rfl rfl (if_pos c26) rfl ?_
          refine am_G.fr 2 (g := (153, [some (.ref v0), some (.int v1), some (.int v2), some (.int v3), some (.int v4), some (.int x15), some (.int x19), some (.int x23), none], [.int ((1 : Int32))])) rfl ?_
          obtain rfl := Option.some.inj H
          exact am_G.nd rfl
        · rw [if_neg c26] at H
          refine am_G.br (tgt := 86) rfl rfl (if_neg c26) rfl ?_
          refine am_G.fr 2 (g := (89, [some (.ref v0), some (.int v1), some (.int v2), some (.int v3), some (.int v4), some (.int x15), some (.int x19), some (.int x23), none], [.int ((1 : Int32)), .int x15])) rfl ?_
          by_cases c27 : ¬ x15 = ((1 : Int32))
          · rw [if_pos c27] at H
            refine am_G.br (tgt := 109) rfl rfl (if_pos c27) rfl ?_
            refine am_G.fr 2 (g := (112, [some (.ref v0), some (.int v1), some (.int v2), some (.int v3), some (.int v4), some (.int x15), some (.int x19), some (.int x23), none], [.int ((2 : Int32)), .int x15])) rfl ?_
            by_cases c28 : ¬ x15 = ((2 : Int32))
            · rw [if_pos c28] at H
              refine am_G.br (tgt := 132) rfl rfl (if_pos c28) rfl ?_
              refine am_G.fr 1 (g := (133, [some (.ref v0), some (.int v1), some (.int v2), some (.int v3), some (.int v4), some (.int x15), some (.int x19), some (.int x23), none], [.ref v0])) rfl ?_
              obtain ⟨state29, e30, H⟩ := am_bd H
              refine am_G.gR rfl e30 ?_
              refine am_G.fr 3 (g := (142, [some (.ref v0), some (.int v1), some (.int v2), some (.int v3), some (.int v4), some (.int x15), some (.int x19), some (.int x23), none], [.int (((989 : Int32)) + x19), .ref state29])) rfl ?_
              obtain ⟨x31, e32, H⟩ := am_bd H
              refine am_G.aI rfl e32 ?_
              refine am_G.fr 1 (g := (145, [some (.ref v0), some (.int v1), some (.int v2), some (.int v3), some (.int v4), some (.int x15), some (.int x19), some (.int x23), none], [.int ((9 : Int32)), .int x31])) rfl ?_
              by_cases c33 : ((9 : Int32)) ≤ x31
              · rw [if_pos c33] at H
                refine am_G.br (tgt := 152) rfl rfl (if_pos c33) rfl ?_
                refine am_G.fr 1 (g := (153, [some (.ref v0), some (.int v1), some (.int v2), some (.int v3), some (.int v4), some (.int x15), some (.int x19), some (.int x23), none], [.int ((0 : Int32))])) rfl ?_
                obtain rfl := Option.some.inj H
                exact am_G.nd rfl
              · rw [if_neg c33] at H
                refine am_G.br (tgt := 148) rfl rfl (if_neg c33) rfl ?_
                refine am_G.fr 2 (g := (153, [some (.ref v0), some (.int v1), some (.int v2), some (.int v3), some (.int v4), some (.int x15), some (.int x19), some (.int x23), none], [.int ((1 : Int32))])) rfl ?_
                obtain rfl := Option.some.inj H
                exact am_G.nd rfl
            · rw [if_neg c28] at H
              refine am_G.br (tgt := 115) rfl rfl (if_neg c28) rfl ?_
              refine am_G.fr 1 (g := (116, [some (.ref v0), some (.int v1), some (.int v2), some (.int v3), some (.int v4), some (.int x15), some (.int x19), some (.int x23), none], [.ref v0])) rfl ?_
              obtain ⟨state34, e35, H⟩ := am_bd H
              refine am_G.gR rfl e35 ?_
              refine am_G.fr 3 (g := (125, [some (.ref v0), some (.int v1), some (.int v2), some (.int v3), some (.int v4), some (.int x15), some (.int x19), some (.int x23), none], [.int (((993 : Int32)) + x19), .ref state34])) rfl ?_
              obtain ⟨x36, e37, H⟩ := am_bd H
              refine am_G.aI rfl e37 ?_
              by_cases c38 : x36 < 0
              · rw [if_pos c38] at H
                refine am_G.br (tgt := 152) rfl rfl (if_pos c38) rfl ?_
                refine am_G.fr 1 (g := (153, [some (.ref v0), some (.int v1), some (.int v2), some (.int v3), some (.int v4), some (.int x15), some (.int x19), some (.int x23), none], [.int ((0 : Int32))])) rfl ?_
                obtain rfl := Option.some.inj H
                exact am_G.nd rfl
              · rw [if_neg c38] at H
                refine am_G.br (tgt := 129) rfl rfl (if_neg c38) rfl ?_
                refine am_G.fr 3 (g := (153, [some (.ref v0), some (.int v1), some (.int v2), some (.int v3), some (.int v4), some (.int x15), some (.int x19), some (.int x23), none], [.int ((1 : Int32))])) rfl ?_
                obtain rfl := Option.some.inj H
                exact am_G.nd rfl
          · rw [if_neg c27] at H
            refine am_G.br (tgt := 92) rfl rfl (if_neg c27) rfl ?_
            refine am_G.fr 4 (g := (100, [some (.ref v0), some (.int v1), some (.int v2), some (.int v3), some (.int v4), some (.int x15), some (.int x19), some (.int x23), none], [.int x23, .int x19, .int ((987 : Int32)), .ref v0])) rfl ?_
            obtain ⟨x40, e39, H⟩ := am_bd H
            refine am_G.cl [.ref v0, .int ((987 : Int32)), .int x19, .int x23] [] (am_Cl.mono (by decide) (lX10_mayMove e39)) rfl rfl rfl rfl (Nat.le_of_ble_eq_true rfl) ?_
            by_cases c41 : x40 = 0
            · rw [if_pos c41] at H
              refine am_G.br (tgt := 152) rfl rfl (if_pos c41) rfl ?_
              refine am_G.fr 1 (g := (153, [some (.ref v0), some (.int v1), some (.int v2), some (.int v3), some (.int v4), some (.int x15), some (.int x19), some (.int x23), none], [.int ((0 : Int32))])) rfl ?_
              obtain rfl := Option.some.inj H
              exact am_G.nd rfl
            · rw [if_neg c41] at H
              refine am_G.br (tgt := 106) rfl rfl (if_neg c41) rfl ?_
              refine am_G.fr 3 (g := (153, [some (.ref v0), some (.int v1), some (.int v2), some (.int v3), some (.int v4), some (.int x15), some (.int x19), some (.int x23), none], [.int ((1 : Int32))])) rfl ?_
              obtain rfl := Option.some.inj H
              exact am_G.nd rfl
      · clear E100
        refine am_G.fr 2 (g := (157, [some (.ref v0), some (.int v1), some (.int v2), some (.int v3), some (.int v4), some (.int x15), some (.int x19), some (.int x23), some (.int js25)], [.int js25])) rfl ?_
        obtain ⟨js42, E99, H⟩ := am_bd H
        refine am_G.sq (t := ((170, [some (.ref v0), some (.int v1), none, some (.int v3), some (.int v4), some (.int x15), some (.int x19), some (.int x23), some (.int js25)], [.int js42]), h)) ?_ ?_
        · clear H
          have H := E99
          clear E99
          by_cases c43 : ¬ js25 = 0
          · rw [if_pos c43] at H
            refine am_G.br (tgt := 169) rfl rfl (if_pos c43) rfl ?_
            refine am_G.fr 1 (g := (170, [some (.ref v0), some (.int v1), some (.int v2), some (.int v3), some (.int v4), some (.int x15), some (.int x19), some (.int x23), some (.int js25)], [.int v2])) rfl ?_
            obtain rfl := Option.some.inj H
            refine am_G.fg [some (.ref v0), some (.int v1), none, some (.int v3), some (.int v4), some (.int x15), some (.int x19), some (.int x23), some (.int js25)] (by simp only [am_sub, and_self]) ?_
            exact am_G.nd rfl
          · rw [if_neg c43] at H
            refine am_G.br (tgt := 160) rfl rfl (if_neg c43) rfl ?_
            refine am_G.fr 1 (g := (161, [some (.ref v0), some (.int v1), some (.int v2), some (.int v3), some (.int v4), some (.int x15), some (.int x19), some (.int x23), some (.int js25)], [.int v2])) rfl ?_
            by_cases c44 : 0 ≤ v2
            · rw [if_pos c44] at H
              refine am_G.br (tgt := 169) rfl rfl (if_pos c44) rfl ?_
              refine am_G.fr 1 (g := (170, [some (.ref v0), some (.int v1), some (.int v2), some (.int v3), some (.int v4), some (.int x15), some (.int x19), some (.int x23), some (.int js25)], [.int v2])) rfl ?_
              obtain rfl := Option.some.inj H
              refine am_G.fg [some (.ref v0), some (.int v1), none, some (.int v3), some (.int v4), some (.int x15), some (.int x19), some (.int x23), some (.int js25)] (by simp only [am_sub, and_self]) ?_
              exact am_G.nd rfl
            · rw [if_neg c44] at H
              refine am_G.br (tgt := 164) rfl rfl (if_neg c44) rfl ?_
              refine am_G.fr 2 (g := (170, [some (.ref v0), some (.int v1), some (.int v2), some (.int v3), some (.int v4), some (.int x15), some (.int x19), some (.int x23), some (.int js25)], [.int v4])) rfl ?_
              obtain rfl := Option.some.inj H
              refine am_G.fg [some (.ref v0), some (.int v1), none, some (.int v3), some (.int v4), some (.int x15), some (.int x19), some (.int x23), some (.int js25)] (by simp only [am_sub, and_self]) ?_
              exact am_G.nd rfl
        · clear E99
          refine am_G.fr 2 (g := (173, [some (.ref v0), some (.int v1), some (.int js42), some (.int v3), some (.int v4), some (.int x15), some (.int x19), some (.int x23), some (.int js25)], [.int x15])) rfl ?_
          obtain ⟨jv45, hh46, E98, H⟩ := am_bd2 H
          refine am_G.sq (t := ((274, [some (.ref v0), some (.int v1), some (.int js42), some (.int jv45), some (.int v4), none, none, none, none], []), hh46)) ?_ ?_
          · clear H
            have H := E98
            clear E98
            by_cases c47 : ¬ x15 = 0
            · rw [if_pos c47] at H
              refine am_G.br (tgt := 204) rfl rfl (if_pos c47) rfl ?_
              refine am_G.fr 1 (g := (206, [some (.ref v0), some (.int v1), some (.int js42), some (.int v3), some (.int v4), some (.int x15), some (.int x19), some (.int x23), some (.int js25)], [.int js25])) rfl ?_
              by_cases c48 : js25 = 0
              · rw [if_pos c48] at H
                refine am_G.br (tgt := 231) rfl rfl (if_pos c48) rfl ?_
                refine am_G.fr 1 (g := (233, [some (.ref v0), some (.int v1), some (.int js42), some (.int v3), some (.int v4), some (.int x15), some (.int x19), some (.int x23), some (.int js25)], [.int js25])) rfl ?_
                by_cases c49 : js25 = 0
                · rw [if_pos c49] at H
                  refine am_G.br (tgt := 254) rfl rfl (if_pos c49) rfl ?_
                  refine am_G.fr 1 (g := (256, [some (.ref v0), some (.int v1), some (.int js42), some (.int v3), some (.int v4), some (.int x15), some (.int x19), some (.int x23), some (.int js25)], [.int js25])) rfl ?_
                  by_cases c50 : js25 = 0
                  · rw [if_pos c50] at H
                    refine am_G.br (tgt := 274) rfl rfl (if_pos c50) rfl ?_
                    obtain ⟨rfl, rfl⟩ := am_inj2 H
                    refine am_G.fg [some (.ref v0), some (.int v1), some (.int js42), some (.int v3), some (.int v4), none, none, none, none] (by simp only [am_sub, and_self]) ?_
                    exact am_G.nd rfl
                  · rw [if_neg c50] at H
                    refine am_G.br (tgt := 259) rfl rfl (if_neg c50) rfl ?_
                    refine am_G.fr 1 (g := (260, [some (.ref v0), some (.int v1), some (.int js42), some (.int v3), some (.int v4), some (.int x15), some (.int x19), some (.int x23), some (.int js25)], [.ref v0])) rfl ?_
                    obtain ⟨state51, e52, H⟩ := am_bd H
                    refine am_G.gR rfl e52 ?_
                    refine am_G.fr 4 (g := (270, [some (.ref v0), some (.int v1), some (.int js42), some (.int v3), some (.int v4), some (.int x15), some (.int x19), some (.int x23), some (.int js25)], [.int (((989 : Int32)) + x19), .ref state51, .int (((989 : Int32)) + x19), .ref state51])) rfl ?_
                    obtain ⟨x53, e54, H⟩ := am_bd H
                    refine am_G.aI rfl e54 ?_
                    refine am_G.fr 2 (g := (273, [some (.ref v0), some (.int v1), some (.int js42), some (.int v3), some (.int v4), some (.int x15), some (.int x19), some (.int x23), some (.int js25)], [.int (x53 + ((1 : Int32))), .int (((989 : Int32)) + x19), .ref state51])) rfl ?_
                    obtain ⟨hh55, e56, H⟩ := am_bd H
                    refine am_G.sI rfl e56 ?_
                    obtain ⟨rfl, rfl⟩ := am_inj2 H
                    refine am_G.fg [some (.ref v0), some (.int v1), some (.int js42), some (.int v3), some (.int v4), none, none, none, none] (by simp only [am_sub, and_self]) ?_
                    exact am_G.nd rfl
                · rw [if_neg c49] at H
                  refine am_G.br (tgt := 236) rfl rfl (if_neg c49) rfl ?_
                  refine am_G.fr 2 (g := (239, [some (.ref v0), some (.int v1), some (.int js42), some (.int v3), some (.int v4), some (.int x15), some (.int x19), some (.int x23), some (.int js25)], [.int ((2 : Int32)), .int x15])) rfl ?_
                  by_cases c57 : ¬ x15 = ((2 : Int32))
                  · rw [if_pos c57] at H
                    refine am_G.br (tgt := 254) rfl rfl (if_pos c57) rfl ?_
                    refine am_G.fr 1 (g := (256, [some (.ref v0), some (.int v1), some (.int js42), some (.int v3), some (.int v4), some (.int x15), some (.int x19), some (.int x23), some (.int js25)], [.int js25])) rfl ?_
                    by_cases c58 : js25 = 0
                    · rw [if_pos c58] at H
                      refine am_G.br (tgt := 274) rfl rfl (if_pos c58) rfl ?_
                      obtain ⟨rfl, rfl⟩ := am_inj2 H
                      refine am_G.fg [some (.ref v0), some (.int v1), some (.int js42), some (.int v3), some (.int v4), none, none, none, none] (by simp only [am_sub, and_self]) ?_
                      exact am_G.nd rfl
                    · rw [if_neg c58] at H
                      refine am_G.br (tgt := 259) rfl rfl (if_neg c58) rfl ?_
                      refine am_G.fr 1 (g := (260, [some (.ref v0), some (.int v1), some (.int js42), some (.int v3), some (.int v4), some (.int x15), some (.int x19), some (.int x23), some (.int js25)], [.ref v0])) rfl ?_
                      obtain ⟨state59, e60, H⟩ := am_bd H
                      refine am_G.gR rfl e60 ?_
                      refine am_G.fr 4 (g := (270, [some (.ref v0), some (.int v1), some (.int js42), some (.int v3), some (.int v4), some (.int x15), some (.int x19), some (.int x23), some (.int js25)], [.int (((989 : Int32)) + x19), .ref state59, .int (((989 : Int32)) + x19), .ref state59])) rfl ?_
                      obtain ⟨x61, e62, H⟩ := am_bd H
                      refine am_G.aI rfl e62 ?_
                      refine am_G.fr 2 (g := (273, [some (.ref v0), some (.int v1), some (.int js42), some (.int v3), some (.int v4), some (.int x15), some (.int x19), some (.int x23), some (.int js25)], [.int (x61 + ((1 : Int32))), .int (((989 : Int32)) + x19), .ref state59])) rfl ?_
                      obtain ⟨hh63, e64, H⟩ := am_bd H
                      refine am_G.sI rfl e64 ?_
                      obtain ⟨rfl, rfl⟩ := am_inj2 H
                      refine am_G.fg [some (.ref v0), some (.int v1), some (.int js42), some (.int v3), some (.int v4), none, none, none, none] (by simp only [am_sub, and_self]) ?_
                      exact am_G.nd rfl
                  · rw [if_neg c57] at H
                    refine am_G.br (tgt := 242) rfl rfl (if_neg c57) rfl ?_
                    refine am_G.fr 3 (g := (248, [some (.ref v0), some (.int v1), some (.int js42), some (.int v3), some (.int v4), some (.int x15), some (.int x19), some (.int x23), some (.int js25)], [.int x19, .int ((987 : Int32)), .ref v0])) rfl ?_
                    obtain ⟨hh66, e65, H⟩ := am_bd H
                    refine am_G.cl [.ref v0, .int ((987 : Int32)), .int x19] [] (am_Cl.mono (by decide) (lX10_leaves e65)) rfl rfl rfl rfl (Nat.le_of_ble_eq_true rfl) ?_
                    refine am_G.fr 1 (g := (274, [some (.ref v0), some (.int v1), some (.int js42), some (.int v3), some (.int v4), some (.int x15), some (.int x19), some (.int x23), some (.int js25)], [])) rfl ?_
                    obtain ⟨rfl, rfl⟩ := am_inj2 H
                    refine am_G.fg [some (.ref v0), some (.int v1), some (.int js42), some (.int v3), some (.int v4), none, none, none, none] (by simp only [am_sub, and_self]) ?_
                    exact am_G.nd rfl
              · rw [if_neg c48] at H
                refine am_G.br (tgt := 209) rfl rfl (if_neg c48) rfl ?_
                refine am_G.fr 2 (g := (212, [some (.ref v0), some (.int v1), some (.int js42), some (.int v3), some (.int v4), some (.int x15), some (.int x19), some (.int x23), some (.int js25)], [.int ((1 : Int32)), .int x15])) rfl ?_
                by_cases c67 : ¬ x15 = ((1 : Int32))
                · rw [if_pos c67] at H
                  refine am_G.br (tgt := 231) rfl rfl (if_pos c67) rfl ?_
                  refine am_G.fr 1 (g := (233, [some (.ref v0), some (.int v1), some (.int js42), some (.int v3), some (.int v4), some (.int x15), some (.int x19), some (.int x23), some (.int js25)], [.int js25])) rfl ?_
                  by_cases c68 : js25 = 0
                  · rw [if_pos c68] at H
                    refine am_G.br (tgt := 254) rfl rfl (if_pos c68) rfl ?_
                    refine am_G.fr 1 (g := (256, [some (.ref v0), some (.int v1), some (.int js42), some (.int v3), some (.int v4), some (.int x15), some (.int x19), some (.int x23), some (.int js25)], [.int js25])) rfl ?_
                    by_cases c69 : js25 = 0
                    · rw [if_pos c69] at H
                      refine am_G.br (tgt := 274) rfl rfl (if_pos c69) rfl ?_
                      obtain ⟨rfl, rfl⟩ := am_inj2 H
                      refine am_G.fg [some (.ref v0), some (.int v1), some (.int js42), some (.int v3), some (.int v4), none, none, none, none] (by simp only [am_sub, and_self]) ?_
                      exact am_G.nd rfl
                    · rw [if_neg c69] at H
                      refine am_G.br (tgt := 259) rfl rfl (if_neg c69) rfl ?_
                      refine am_G.fr 1 (g := (260, [some (.ref v0), some (.int v1), some (.int js42), some (.int v3), some (.int v4), some (.int x15), some (.int x19), some (.int x23), some (.int js25)], [.ref v0])) rfl ?_
                      obtain ⟨state70, e71, H⟩ := am_bd H
                      refine am_G.gR rfl e71 ?_
                      refine am_G.fr 4 (g := (270, [some (.ref v0), some (.int v1), some (.int js42), some (.int v3), some (.int v4), some (.int x15), some (.int x19), some (.int x23), some (.int js25)], [.int (((989 : Int32)) + x19), .ref state70, .int (((989 : Int32)) + x19), .ref state70])) rfl ?_
                      obtain ⟨x72, e73, H⟩ := am_bd H
                      refine am_G.aI rfl e73 ?_
                      refine am_G.fr 2 (g := (273, [some (.ref v0), some (.int v1), some (.int js42), some (.int v3), some (.int v4), some (.int x15), some (.int x19), some (.int x23), some (.int js25)], [.int (x72 + ((1 : Int32))), .int (((989 : Int32)) + x19), .ref state70])) rfl ?_
                      obtain ⟨hh74, e75, H⟩ := am_bd H
                      refine am_G.sI rfl e75 ?_
                      obtain ⟨rfl, rfl⟩ := am_inj2 H
                      refine am_G.fg [some (.ref v0), some (.int v1), some (.int js42), some (.int v3), some (.int v4), none, none, none, none] (by simp only [am_sub, and_self]) ?_
                      exact am_G.nd rfl
                  · rw [if_neg c68] at H
                    refine am_G.br (tgt := 236) rfl rfl (if_neg c68) rfl ?_
                    refine am_G.fr 2 (g := (239, [some (.ref v0), some (.int v1), some (.int js42), some (.int v3), some (.int v4), some (.int x15), some (.int x19), some (.int x23), some (.int js25)], [.int ((2 : Int32)), .int x15])) rfl ?_
                    by_cases c76 : ¬ x15 = ((2 : Int32))
                    · rw [if_pos c76] at H
                      refine am_G.br (tgt := 254) rfl rfl (if_pos c76) rfl ?_
                      refine am_G.fr 1 (g := (256, [some (.ref v0), some (.int v1), some (.int js42), some (.int v3), some (.int v4), some (.int x15), some (.int x19), some (.int x23), some (.int js25)], [.int js25])) rfl ?_
                      by_cases c77 : js25 = 0
                      · rw [if_pos c77] at H
                        refine am_G.br (tgt := 274) rfl rfl (if_pos c77) rfl ?_
                        obtain ⟨rfl, rfl⟩ := am_inj2 H
                        refine am_G.fg [some (.ref v0), some (.int v1), some (.int js42), some (.int v3), some (.int v4), none, none, none, none] (by simp only [am_sub, and_self]) ?_
                        exact am_G.nd rfl
                      · rw [if_neg c77] at H
                        refine am_G.br (tgt := 259) rfl rfl (if_neg c77) rfl ?_
                        refine am_G.fr 1 (g := (260, [some (.ref v0), some (.int v1), some (.int js42), some (.int v3), some (.int v4), some (.int x15), some (.int x19), some (.int x23), some (.int js25)], [.ref v0])) rfl ?_
                        obtain ⟨state78, e79, H⟩ := am_bd H
                        refine am_G.gR rfl e79 ?_
                        refine am_G.fr 4 (g := (270, [some (.ref v0), some (.int v1), some (.int js42), some (.int v3), some (.int v4), some (.int x15), some (.int x19), some (.int x23), some (.int js25)], [.int (((989 : Int32)) + x19), .ref state78, .int (((989 : Int32)) + x19), .ref state78])) rfl ?_
                        obtain ⟨x80, e81, H⟩ := am_bd H
                        refine am_G.aI rfl e81 ?_
                        refine am_G.fr 2 (g := (273, [some (.ref v0), some (.int v1), some (.int js42), some (.int v3), some (.int v4), some (.int x15), some (.int x19), some (.int x23), some (.int js25)], [.int (x80 + ((1 : Int32))), .int (((989 : Int32)) + x19), .ref state78])) rfl ?_
                        obtain ⟨hh82, e83, H⟩ := am_bd H
                        refine am_G.sI rfl e83 ?_
                        obtain ⟨rfl, rfl⟩ := am_inj2 H
                        refine am_G.fg [some (.ref v0), some (.int v1), some (.int js42), some (.int v3), some (.int v4), none, none, none, none] (by simp only [am_sub, and_self]) ?_
                        exact am_G.nd rfl
                    · rw [if_neg c76] at H
                      refine am_G.br (tgt := 242) rfl rfl (if_neg c76) rfl ?_
                      refine am_G.fr 3 (g := (248, [some (.ref v0), some (.int v1), some (.int js42), some (.int v3), some (.int v4), some (.int x15), some (.int x19), some (.int x23), some (.int js25)], [.int x19, .int ((987 : Int32)), .ref v0])) rfl ?_
                      obtain ⟨hh85, e84, H⟩ := am_bd H
                      refine am_G.cl [.ref v0, .int ((987 : Int32)), .int x19] [] (am_Cl.mono (by decide) (lX10_leaves e84)) rfl rfl rfl rfl (Nat.le_of_ble_eq_true rfl) ?_
                      refine am_G.fr 1 (g := (274, [some (.ref v0), some (.int v1), some (.int js42), some (.int v3), some (.int v4), some (.int x15), some (.int x19), some (.int x23), some (.int js25)], [])) rfl ?_
                      obtain ⟨rfl, rfl⟩ := am_inj2 H
                      refine am_G.fg [some (.ref v0), some (.int v1), some (.int js42), some (.int v3), some (.int v4), none, none, none, none] (by simp only [am_sub, and_self]) ?_
                      exact am_G.nd rfl
                · rw [if_neg c67] at H
                  refine am_G.br (tgt := 215) rfl rfl (if_neg c67) rfl ?_
                  refine am_G.fr 1 (g := (216, [some (.ref v0), some (.int v1), some (.int js42), some (.int v3), some (.int v4), some (.int x15), some (.int x19), some (.int x23), some (.int js25)], [.ref v0])) rfl ?_
                  obtain ⟨state86, e87, H⟩ := am_bd H
                  refine am_G.gR rfl e87 ?_
                  refine am_G.fr 4 (g := (227, [some (.ref v0), some (.int v1), some (.int js42), some (.int v3), some (.int v4), some (.int x15), some (.int x19), some (.int x23), some (.int js25)], [.int x23, .int (((993 : Int32)) + x19), .ref state86])) rfl ?_
                  obtain ⟨hh88, e89, H⟩ := am_bd H
                  refine am_G.sI rfl e89 ?_
                  refine am_G.fr 1 (g := (274, [some (.ref v0), some (.int v1), some (.int js42), some (.int v3), some (.int v4), some (.int x15), some (.int x19), some (.int x23), some (.int js25)], [])) rfl ?_
                  obtain ⟨rfl, rfl⟩ := am_inj2 H
                  refine am_G.fg [some (.ref v0), some (.int v1), some (.int js42), some (.int v3), some (.int v4), none, none, none, none] (by simp only [am_sub, and_self]) ?_
                  exact am_G.nd rfl
            · rw [if_neg c47] at H
              refine am_G.br (tgt := 176) rfl rfl (if_neg c47) rfl ?_
              refine am_G.fr 2 (g := (180, [some (.ref v0), some (.int v1), some (.int js42), some (.int v3), some (.int v4), some (.int x15), some (.int x19), some (.int x23), some (.int js25)], [.int ((987 : Int32)), .ref v0])) rfl ?_
              obtain ⟨hh91, e90, H⟩ := am_bd H
              refine am_G.cl [.ref v0, .int ((987 : Int32))] [] (am_Cl.mono (by decide) (lX10_passes e90)) rfl rfl rfl rfl (Nat.le_of_ble_eq_true rfl) ?_
              refine am_G.fr 1 (g := (184, [some (.ref v0), some (.int v1), some (.int js42), some (.int v3), some (.int v4), some (.int x15), some (.int x19), some (.int x23), some (.int js25)], [.ref v0])) rfl ?_
              obtain ⟨off92, e93, H⟩ := am_bd H
              refine am_G.gI rfl e93 ?_
              obtain ⟨js94, E97, H⟩ := am_bd H
              refine am_G.sq (t := ((200, [some (.ref v0), some (.int v1), some (.int js42), none, some (.int v4), none, none, none, none], [.int js94]), hh91)) ?_ ?_
              · clear H
                have H := E97
                clear E97
                by_cases c95 : off92 = 0
                · rw [if_pos c95] at H
                  refine am_G.br (tgt := 199) rfl rfl (if_pos c95) rfl ?_
                  refine am_G.fr 1 (g := (200, [some (.ref v0), some (.int v1), some (.int js42), some (.int v3), some (.int v4), some (.int x15), some (.int x19), some (.int x23), some (.int js25)], [.int v3])) rfl ?_
                  obtain rfl := Option.some.inj H
                  refine am_G.fg [some (.ref v0), some (.int v1), some (.int js42), none, some (.int v4), none, none, none, none] (by simp only [am_sub, and_self]) ?_
                  exact am_G.nd rfl
                · rw [if_neg c95] at H
                  refine am_G.br (tgt := 190) rfl rfl (if_neg c95) rfl ?_
                  refine am_G.fr 1 (g := (191, [some (.ref v0), some (.int v1), some (.int js42), some (.int v3), some (.int v4), some (.int x15), some (.int x19), some (.int x23), some (.int js25)], [.int v3])) rfl ?_
                  by_cases c96 : 0 ≤ v3
                  · rw [if_pos c96] at H
                    refine am_G.br (tgt := 199) rfl rfl (if_pos c96) rfl ?_
                    refine am_G.fr 1 (g := (200, [some (.ref v0), some (.int v1), some (.int js42), some (.int v3), some (.int v4), some (.int x15), some (.int x19), some (.int x23), some (.int js25)], [.int v3])) rfl ?_
                    obtain rfl := Option.some.inj H
                    refine am_G.fg [some (.ref v0), some (.int v1), some (.int js42), none, some (.int v4), none, none, none, none] (by simp only [am_sub, and_self]) ?_
                    exact am_G.nd rfl
                  · rw [if_neg c96] at H
                    refine am_G.br (tgt := 194) rfl rfl (if_neg c96) rfl ?_
                    refine am_G.fr 2 (g := (200, [some (.ref v0), some (.int v1), some (.int js42), some (.int v3), some (.int v4), some (.int x15), some (.int x19), some (.int x23), some (.int js25)], [.int v4])) rfl ?_
                    obtain rfl := Option.some.inj H
                    refine am_G.fg [some (.ref v0), some (.int v1), some (.int js42), none, some (.int v4), none, none, none, none] (by simp only [am_sub, and_self]) ?_
                    exact am_G.nd rfl
              · clear E97
                refine am_G.fr 2 (g := (274, [some (.ref v0), some (.int v1), some (.int js42), some (.int js94), some (.int v4), none, none, none, none], [])) rfl ?_
                obtain ⟨rfl, rfl⟩ := am_inj2 H
                exact am_G.nd rfl
          · clear E98
            refine am_G.fr 2 (g := (31, [some (.ref v0), some (.int v1), some (.int js42), some (.int jv45), some (.int (v4 + (1 : Int32))), none, none, none, none], [])) rfl ?_
            exact ih _ _ _ _ _ _ _ _ _ H
set_option maxHeartbeats 4000000 in
set_option maxRecDepth 100000 in
theorem lX10_judged {sc : Nat × (Nat → Int32)} {a0 : Nat} {a1 : Int32} {h : am_H} {r : Int32} {h1 : am_H} (H : fX10_judged a0 a1 h = some (r, h1)) : am_Cl am_T am_N sc 8 205 [.ref a0, .int a1] h (some (.int r)) h1 := by
  unfold fX10_judged at H
  obtain ⟨_, hO, H⟩ := am_bd H
  obtain ⟨fs0, hO⟩ := am_isO_ok hO
  refine am_mk (q := qX10_judged) rfl (fun _ => ⟨_, _, _, _, _, rfl, hO, rfl, rfl⟩) (fun z => absurd z (by decide)) (Nat.le_of_ble_eq_true rfl) rfl ?_
  show am_G sc (am_Cl am_T am_N sc 7) (am_at kX10_judged) (fun t => t.2 = h1 ∧ am_ret 1 (am_at kX10_judged) t.1 = some (some (.int r))) ((0, [some (.ref a0), some (.int a1), none, none, none, none, none, none, none], []), h)
  refine am_G.fr 2 (g := (2, [some (.ref a0), some (.int a1), none, none, none, none, none, none, none], [.int ((0 : Int32)), .ref a0])) rfl ?_
  obtain ⟨hh1, e2, H⟩ := am_bd H
  refine am_G.pF rfl e2 ?_
  refine am_G.fr 3 (g := (8, [some (.ref a0), some (.int a1), none, none, none, none, none, none, none], [.int ((2 : Int32)), .int ((0 : Int32)), .int a1])) rfl ?_
  obtain ⟨x4, e3, H⟩ := am_bd H
  refine am_G.cl [.int a1, .int ((0 : Int32)), .int ((2 : Int32))] [] (am_Cl.mono (by decide) (lX10_within e3)) rfl rfl rfl rfl (Nat.le_of_ble_eq_true rfl) ?_
  by_cases c5 : ¬ x4 = 0
  · rw [if_pos c5] at H
    refine am_G.br (tgt := 17) rfl rfl (if_pos c5) rfl ?_
    refine am_G.fr 2 (g := (21, [some (.ref a0), some (.int a1), none, none, none, none, none, none, none], [.int ((987 : Int32)), .ref a0])) rfl ?_
    obtain ⟨hh7, e6, H⟩ := am_bd H
    refine am_G.cl [.ref a0, .int ((987 : Int32))] [] (am_Cl.mono (by decide) (lX10_starts e6)) rfl rfl rfl rfl (Nat.le_of_ble_eq_true rfl) ?_
    refine am_G.fr 6 (g := (31, [some (.ref a0), some (.int a1), some (.int ((-1 : Int32))), some (.int ((-1 : Int32))), some (.int ((0 : Int32))), none, none, none, none], [])) rfl ?_
    obtain ⟨lw101, lw102, hh103, E104, H⟩ := am_bd3 H
    refine am_G.sq (lX10_judged_L31 _ _ _ _ _ _ _ _ _ _ E104) ?_
    clear E104
    refine am_G.fr 1 (g := (281, [some (.ref a0), some (.int a1), some (.int lw101), some (.int lw102), none, none, none, none, none], [.int a1])) rfl ?_
    obtain ⟨js105, E112, H⟩ := am_bd H
    refine am_G.sq (t := ((305, [none, none, none, none, none, none, none, none, none], [.int js105]), hh103)) ?_ ?_
    · clear H
      have H := E112
      clear E112
      by_cases c106 : ¬ a1 = 0
      · rw [if_pos c106] at H
        refine am_G.br (tgt := 288) rfl rfl (if_pos c106) rfl ?_
        refine am_G.fr 2 (g := (290, [some (.ref a0), some (.int a1), some (.int lw101), some (.int lw102), none, none, none, none, none], [.int ((1 : Int32)), .int a1])) rfl ?_
        by_cases c107 : ¬ a1 = ((1 : Int32))
        · rw [if_pos c107] at H
          refine am_G.br (tgt := 297) rfl rfl (if_pos c107) rfl ?_
          refine am_G.fr 1 (g := (298, [some (.ref a0), some (.int a1), some (.int lw101), some (.int lw102), none, none, none, none, none], [.ref a0])) rfl ?_
          obtain ⟨state108, e109, H⟩ := am_bd H
          refine am_G.gR rfl e109 ?_
          refine am_G.fr 1 (g := (304, [some (.ref a0), some (.int a1), some (.int lw101), some (.int lw102), none, none, none, none, none], [.int ((988 : Int32)), .ref state108])) rfl ?_
          obtain ⟨x110, e111, H⟩ := am_bd H
          refine am_G.aI rfl e111 ?_
          obtain rfl := Option.some.inj H
          refine am_G.fg [none, none, none, none, none, none, none, none, none] (by simp only [am_sub, and_self]) ?_
          exact am_G.nd rfl
        · rw [if_neg c107] at H
          refine am_G.br (tgt := 293) rfl rfl (if_neg c107) rfl ?_
          refine am_G.fr 2 (g := (305, [some (.ref a0), some (.int a1), some (.int lw101), some (.int lw102), none, none, none, none, none], [.int lw102])) rfl ?_
          obtain rfl := Option.some.inj H
          refine am_G.fg [none, none, none, none, none, none, none, none, none] (by simp only [am_sub, and_self]) ?_
          exact am_G.nd rfl
      · rw [if_neg c106] at H
        refine am_G.br (tgt := 284) rfl rfl (if_neg c106) rfl ?_
        refine am_G.fr 2 (g := (305, [some (.ref a0), some (.int a1), some (.int lw101), some (.int lw102), none, none, none, none, none], [.int lw101])) rfl ?_
        obtain rfl := Option.some.inj H
        refine am_G.fg [none, none, none, none, none, none, none, none, none] (by simp only [am_sub, and_self]) ?_
        exact am_G.nd rfl
    · clear E112
      obtain ⟨rfl, rfl⟩ := am_inj2 H
      exact am_G.nd ⟨rfl, rfl⟩
  · rw [if_neg c5] at H
    refine am_G.br (tgt := 14) rfl rfl (if_neg c5) rfl ?_
    refine am_G.fr 1 (g := (16, [some (.ref a0), some (.int a1), none, none, none, none, none, none, none], [.int ((-2 : Int32))])) rfl ?_
    obtain ⟨rfl, rfl⟩ := am_inj2 H
    exact am_G.nd ⟨rfl, rfl⟩
def fX10_triesNow (a0 : Nat) (h : am_H) : Option (am_H) :=
  (am_isO h a0 9).bind fun _ =>
  (fX10_copies a0 ((0 : Int32)) ((987 : Int32)) ((30 : Int32)) h).bind fun hh2 =>
  some hh2
set_option maxHeartbeats 4000000 in
set_option maxRecDepth 100000 in
theorem lX10_triesNow {sc : Nat × (Nat → Int32)} {a0 : Nat} {h : am_H} {h1 : am_H} (H : fX10_triesNow a0 h = some h1) : am_Cl am_T am_N sc 2 206 [.ref a0] h none h1 := by
  unfold fX10_triesNow at H
  obtain ⟨_, hO, H⟩ := am_bd H
  obtain ⟨fs0, hO⟩ := am_isO_ok hO
  refine am_mk (q := qX10_triesNow) rfl (fun _ => ⟨_, _, _, _, _, rfl, hO, rfl, rfl⟩) (fun z => absurd z (by decide)) (Nat.le_of_ble_eq_true rfl) rfl ?_
  show am_G sc (am_Cl am_T am_N sc 1) (am_at kX10_triesNow) (fun t => t.2 = h1 ∧ am_ret 0 (am_at kX10_triesNow) t.1 = some none) ((0, [some (.ref a0)], []), h)
  refine am_G.fr 4 (g := (7, [some (.ref a0)], [.int ((30 : Int32)), .int ((987 : Int32)), .int ((0 : Int32)), .ref a0])) rfl ?_
  obtain ⟨hh2, e1, H⟩ := am_bd H
  refine am_G.cl [.ref a0, .int ((0 : Int32)), .int ((987 : Int32)), .int ((30 : Int32))] [] (am_Cl.mono (by decide) (lX10_copies e1)) rfl rfl rfl rfl (Nat.le_of_ble_eq_true rfl) ?_
  obtain rfl := Option.some.inj H
  exact am_G.nd ⟨rfl, rfl⟩
def fX10_where_L32 : Nat → Nat → Int32 → Int32 → Int32 → am_H → Option (am_H)
  | 0, _, _, _, _, _ => none
  | n + 1, v0, v1, v2, v3, h =>
    if v2 ≤ v3 then
      some h
    else
      (fX10_passes v0 ((987 : Int32)) h).bind fun hh13 =>
      fX10_where_L32 n v0 v1 v2 (v3 + (1 : Int32)) hh13
def fX10_where (a0 : Nat) (a1 : Int32) (a2 : Int32) (h : am_H) : Option (Int32 × am_H) :=
  (am_isO h a0 9).bind fun _ =>
  (am_pF h a0 9 0 (.int ((0 : Int32)))).bind fun hh1 =>
  (fX10_isDay a0 a1 hh1).bind fun x4 =>
  if x4 = 0 then
    some ((-2 : Int32), hh1)
  else
    (fX10_within a2 ((0 : Int32)) ((60 : Int32)) hh1).bind fun x7 =>
    if ¬ x7 = 0 then
      (fX10_triesNow a0 hh1).bind fun hh10 =>
      Option.bind (fX10_where_L32 4000 a0 a1 a2 ((0 : Int32)) hh10) fun hh14 =>
      (am_gR hh14 a0 9 24).bind fun state16 =>
      (am_aI hh14 0 state16 (((993 : Int32)) + a1)).bind fun x18 =>
      some (x18, hh14)
    else
      some ((-2 : Int32), hh1)
set_option maxHeartbeats 4000000 in
set_option maxRecDepth 100000 in
theorem lX10_where_L32 {sc : Nat × (Nat → Int32)} : ∀ (n : Nat) (v0 : Nat) (v1 : Int32) (v2 : Int32) (v3 : Int32) (h : am_H) (h1 : am_H), fX10_where_L32 n v0 v1 v2 v3 h = some h1 → am_G sc (am_Cl am_T am_N sc 7) (am_at kX10_where) (fun t => t = ((50, [some (.ref v0), some (.int v1), none, none], []), h1)) ((32, [some (.ref v0), some (.int v1), some (.int v2), some (.int v3)], []), h) := by
  intro n
  induction n with
  | zero => intro _ _ _ _ _ _ H; cases H
  | succ n ih =>
    intro v0 v1 v2 v3 h h1 H
    rw [fX10_where_L32] at H
    refine am_G.fr 2 (g := (34, [some (.ref v0), some (.int v1), some (.int v2), some (.int v3)], [.int v2, .int v3])) rfl ?_
    by_cases c11 : v2 ≤ v3
    · rw [if_pos c11] at H
      refine am_G.br (tgt := 50) rfl rfl (if_pos c11) rfl ?_
      obtain rfl := Option.some.inj H
      refine am_G.fg [some (.ref v0), some (.int v1), none, none] (by simp only [am_sub, and_self]) ?_
      exact am_G.nd rfl
    · rw [if_neg c11] at H
      refine am_G.br (tgt := 37) rfl rfl (if_neg c11) rfl ?_
      refine am_G.fr 2 (g := (41, [some (.ref v0), some (.int v1), some (.int v2), some (.int v3)], [.int ((987 : Int32)), .ref v0])) rfl ?_
      obtain ⟨hh13, e12, H⟩ := am_bd H
      refine am_G.cl [.ref v0, .int ((987 : Int32))] [] (am_Cl.mono (by decide) (lX10_passes e12)) rfl rfl rfl rfl (Nat.le_of_ble_eq_true rfl) ?_
      refine am_G.fr 2 (g := (32, [some (.ref v0), some (.int v1), some (.int v2), some (.int (v3 + (1 : Int32)))], [])) rfl ?_
      exact ih _ _ _ _ _ _ H
set_option maxHeartbeats 4000000 in
set_option maxRecDepth 100000 in
theorem lX10_where {sc : Nat × (Nat → Int32)} {a0 : Nat} {a1 : Int32} {a2 : Int32} {h : am_H} {r : Int32} {h1 : am_H} (H : fX10_where a0 a1 a2 h = some (r, h1)) : am_Cl am_T am_N sc 8 207 [.ref a0, .int a1, .int a2] h (some (.int r)) h1 := by
  unfold fX10_where at H
  obtain ⟨_, hO, H⟩ := am_bd H
  obtain ⟨fs0, hO⟩ := am_isO_ok hO
  refine am_mk (q := qX10_where) rfl (fun _ => ⟨_, _, _, _, _, rfl, hO, rfl, rfl⟩) (fun z => absurd z (by decide)) (Nat.le_of_ble_eq_true rfl) rfl ?_
  show am_G sc (am_Cl am_T am_N sc 7) (am_at kX10_where) (fun t => t.2 = h1 ∧ am_ret 1 (am_at kX10_where) t.1 = some (some (.int r))) ((0, [some (.ref a0), some (.int a1), some (.int a2), none], []), h)
  refine am_G.fr 2 (g := (2, [some (.ref a0), some (.int a1), some (.int a2), none], [.int ((0 : Int32)), .ref a0])) rfl ?_
  obtain ⟨hh1, e2, H⟩ := am_bd H
  refine am_G.pF rfl e2 ?_
  refine am_G.fr 2 (g := (7, [some (.ref a0), some (.int a1), some (.int a2), none], [.int a1, .ref a0])) rfl ?_
  obtain ⟨x4, e3, H⟩ := am_bd H
  refine am_G.cl [.ref a0, .int a1] [] (am_Cl.mono (by decide) (lX10_isDay e3)) rfl rfl rfl rfl (Nat.le_of_ble_eq_true rfl) ?_
  by_cases c5 : x4 = 0
  · rw [if_pos c5] at H
    refine am_G.br (tgt := 23) rfl rfl (if_pos c5) rfl ?_
    refine am_G.fr 1 (g := (25, [some (.ref a0), some (.int a1), some (.int a2), none], [.int ((-2 : Int32))])) rfl ?_
    obtain ⟨rfl, rfl⟩ := am_inj2 H
    exact am_G.nd ⟨rfl, rfl⟩
  · rw [if_neg c5] at H
    refine am_G.br (tgt := 13) rfl rfl (if_neg c5) rfl ?_
    refine am_G.fr 3 (g := (17, [some (.ref a0), some (.int a1), some (.int a2), none], [.int ((60 : Int32)), .int ((0 : Int32)), .int a2])) rfl ?_
    obtain ⟨x7, e6, H⟩ := am_bd H
    refine am_G.cl [.int a2, .int ((0 : Int32)), .int ((60 : Int32))] [] (am_Cl.mono (by decide) (lX10_within e6)) rfl rfl rfl rfl (Nat.le_of_ble_eq_true rfl) ?_
    by_cases c8 : ¬ x7 = 0
    · rw [if_pos c8] at H
      refine am_G.br (tgt := 26) rfl rfl (if_pos c8) rfl ?_
      refine am_G.fr 1 (g := (27, [some (.ref a0), some (.int a1), some (.int a2), none], [.ref a0])) rfl ?_
      obtain ⟨hh10, e9, H⟩ := am_bd H
      refine am_G.cl [.ref a0] [] (am_Cl.mono (by decide) (lX10_triesNow e9)) rfl rfl rfl rfl (Nat.le_of_ble_eq_true rfl) ?_
      refine am_G.fr 2 (g := (32, [some (.ref a0), some (.int a1), some (.int a2), some (.int ((0 : Int32)))], [])) rfl ?_
      obtain ⟨hh14, E15, H⟩ := am_bd H
      refine am_G.sq (lX10_where_L32 _ _ _ _ _ _ _ E15) ?_
      clear E15
      refine am_G.fr 1 (g := (51, [some (.ref a0), some (.int a1), none, none], [.ref a0])) rfl ?_
      obtain ⟨state16, e17, H⟩ := am_bd H
      refine am_G.gR rfl e17 ?_
      refine am_G.fr 3 (g := (59, [some (.ref a0), some (.int a1), none, none], [.int (((993 : Int32)) + a1), .ref state16])) rfl ?_
      obtain ⟨x18, e19, H⟩ := am_bd H
      refine am_G.aI rfl e19 ?_
      obtain ⟨rfl, rfl⟩ := am_inj2 H
      exact am_G.nd ⟨rfl, rfl⟩
    · rw [if_neg c8] at H
      refine am_G.br (tgt := 23) rfl rfl (if_neg c8) rfl ?_
      refine am_G.fr 1 (g := (25, [some (.ref a0), some (.int a1), some (.int a2), none], [.int ((-2 : Int32))])) rfl ?_
      obtain ⟨rfl, rfl⟩ := am_inj2 H
      exact am_G.nd ⟨rfl, rfl⟩
def fX10_next_L11 : Nat → Nat → Int32 → Int32 → am_H → Option ((am_H) ⊕ (Int32 × am_H))
  | 0, _, _, _, _ => none
  | n + 1, v0, v1, v2, h =>
    if ((60 : Int32)) < v2 then
      some (.inl h)
    else
      (fX10_isDay v0 v1 h).bind fun x7 =>
      if x7 = 0 then
        some (.inl h)
      else
        (fX10_passes v0 ((987 : Int32)) h).bind fun hh10 =>
        (am_gI hh10 v0 9 28).bind fun came11 =>
        (am_gI hh10 v0 9 29).bind fun off13 =>
        if ¬ (((came11 ||| off13) >>> (v1 &&& 31)) &&& ((1 : Int32))) = ((1 : Int32)) then
          fX10_next_L11 n v0 v1 (v2 + (1 : Int32)) hh10
        else
          some (.inr (v2, hh10))
def fX10_next (a0 : Nat) (a1 : Int32) (h : am_H) : Option (Int32 × am_H) :=
  (am_isO h a0 9).bind fun _ =>
  (am_pF h a0 9 0 (.int ((0 : Int32)))).bind fun hh1 =>
  (fX10_triesNow a0 hh1).bind fun hh4 =>
  (fX10_next_L11 4000 a0 a1 ((1 : Int32)) hh4).bind fun o18 => match o18 with
    | .inl hh16 =>
      some ((-1 : Int32), hh16)
    | .inr y19 => some y19
set_option maxHeartbeats 4000000 in
set_option maxRecDepth 100000 in
theorem lX10_next_L11 {sc : Nat × (Nat → Int32)} : ∀ (n : Nat) (v0 : Nat) (v1 : Int32) (v2 : Int32) (h : am_H) (o : (am_H) ⊕ (Int32 × am_H)), fX10_next_L11 n v0 v1 v2 h = some o → am_G sc (am_Cl am_T am_N sc 7) (am_at kX10_next) (fun t => match o with
    | .inl h1 => t = ((57, [none, none, none], []), h1)
    | .inr y => t.2 = y.2 ∧ am_ret 1 (am_at kX10_next) t.1 = some (some (.int y.1))) ((11, [some (.ref v0), some (.int v1), some (.int v2)], []), h) := by
  intro n
  induction n with
  | zero => intro _ _ _ _ _ H; cases H
  | succ n ih =>
    intro v0 v1 v2 h o H
    rw [fX10_next_L11] at H
    refine am_G.fr 2 (g := (14, [some (.ref v0), some (.int v1), some (.int v2)], [.int ((60 : Int32)), .int v2])) rfl ?_
    by_cases c5 : ((60 : Int32)) < v2
    · rw [if_pos c5] at H
      refine am_G.br (tgt := 57) rfl rfl (if_pos c5) rfl ?_
      obtain rfl := Option.some.inj H
      refine am_G.fg [none, none, none] (by simp only [am_sub, and_self]) ?_
      exact am_G.nd rfl
    · rw [if_neg c5] at H
      refine am_G.br (tgt := 17) rfl rfl (if_neg c5) rfl ?_
      refine am_G.fr 2 (g := (19, [some (.ref v0), some (.int v1), some (.int v2)], [.int v1, .ref v0])) rfl ?_
      obtain ⟨x7, e6, H⟩ := am_bd H
      refine am_G.cl [.ref v0, .int v1] [] (am_Cl.mono (by decide) (lX10_isDay e6)) rfl rfl rfl rfl (Nat.le_of_ble_eq_true rfl) ?_
      by_cases c8 : x7 = 0
      · rw [if_pos c8] at H
        refine am_G.br (tgt := 57) rfl rfl (if_pos c8) rfl ?_
        obtain rfl := Option.some.inj H
        refine am_G.fg [none, none, none] (by simp only [am_sub, and_self]) ?_
        exact am_G.nd rfl
      · rw [if_neg c8] at H
        refine am_G.br (tgt := 25) rfl rfl (if_neg c8) rfl ?_
        refine am_G.fr 2 (g := (29, [some (.ref v0), some (.int v1), some (.int v2)], [.int ((987 : Int32)), .ref v0])) rfl ?_
        obtain ⟨hh10, e9, H⟩ := am_bd H
        refine am_G.cl [.ref v0, .int ((987 : Int32))] [] (am_Cl.mono (by decide) (lX10_passes e9)) rfl rfl rfl rfl (Nat.le_of_ble_eq_true rfl) ?_
        refine am_G.fr 1 (g := (33, [some (.ref v0), some (.int v1), some (.int v2)], [.ref v0])) rfl ?_
        obtain ⟨came11, e12, H⟩ := am_bd H
        refine am_G.gI rfl e12 ?_
        refine am_G.fr 1 (g := (37, [some (.ref v0), some (.int v1), some (.int v2)], [.ref v0, .int came11])) rfl ?_
        obtain ⟨off13, e14, H⟩ := am_bd H
        refine am_G.gI rfl e14 ?_
        refine am_G.fr 6 (g := (46, [some (.ref v0), some (.int v1), some (.int v2)], [.int ((1 : Int32)), .int (((came11 ||| off13) >>> (v1 &&& 31)) &&& ((1 : Int32)))])) rfl ?_
        by_cases c15 : ¬ (((came11 ||| off13) >>> (v1 &&& 31)) &&& ((1 : Int32))) = ((1 : Int32))
        · rw [if_pos c15] at H
          refine am_G.br (tgt := 51) rfl rfl (if_pos c15) rfl ?_
          refine am_G.fr 2 (g := (11, [some (.ref v0), some (.int v1), some (.int (v2 + (1 : Int32)))], [])) rfl ?_
          exact ih _ _ _ _ _ H
        · rw [if_neg c15] at H
          refine am_G.br (tgt := 49) rfl rfl (if_neg c15) rfl ?_
          refine am_G.fr 1 (g := (50, [some (.ref v0), some (.int v1), some (.int v2)], [.int v2])) rfl ?_
          obtain rfl := Option.some.inj H
          exact am_G.nd ⟨rfl, rfl⟩
set_option maxHeartbeats 4000000 in
set_option maxRecDepth 100000 in
theorem lX10_next {sc : Nat × (Nat → Int32)} {a0 : Nat} {a1 : Int32} {h : am_H} {r : Int32} {h1 : am_H} (H : fX10_next a0 a1 h = some (r, h1)) : am_Cl am_T am_N sc 8 208 [.ref a0, .int a1] h (some (.int r)) h1 := by
  unfold fX10_next at H
  obtain ⟨_, hO, H⟩ := am_bd H
  obtain ⟨fs0, hO⟩ := am_isO_ok hO
  refine am_mk (q := qX10_next) rfl (fun _ => ⟨_, _, _, _, _, rfl, hO, rfl, rfl⟩) (fun z => absurd z (by decide)) (Nat.le_of_ble_eq_true rfl) rfl ?_
  show am_G sc (am_Cl am_T am_N sc 7) (am_at kX10_next) (fun t => t.2 = h1 ∧ am_ret 1 (am_at kX10_next) t.1 = some (some (.int r))) ((0, [some (.ref a0), some (.int a1), none], []), h)
  refine am_G.fr 2 (g := (2, [some (.ref a0), some (.int a1), none], [.int ((0 : Int32)), .ref a0])) rfl ?_
  obtain ⟨hh1, e2, H⟩ := am_bd H
  refine am_G.pF rfl e2 ?_
  refine am_G.fr 1 (g := (6, [some (.ref a0), some (.int a1), none], [.ref a0])) rfl ?_
  obtain ⟨hh4, e3, H⟩ := am_bd H
  refine am_G.cl [.ref a0] [] (am_Cl.mono (by decide) (lX10_triesNow e3)) rfl rfl rfl rfl (Nat.le_of_ble_eq_true rfl) ?_
  refine am_G.fr 2 (g := (11, [some (.ref a0), some (.int a1), some (.int ((1 : Int32)))], [])) rfl ?_
  obtain ⟨o18, E17, H⟩ := am_bd H
  have hL := lX10_next_L11 (sc := sc) _ _ _ _ _ _ E17
  clear E17
  rcases o18 with hh16 | y19
  · dsimp only at H
    refine am_G.sq hL ?_
    refine am_G.fr 1 (g := (58, [none, none, none], [.int ((-1 : Int32))])) rfl ?_
    obtain ⟨rfl, rfl⟩ := am_inj2 H
    exact am_G.nd ⟨rfl, rfl⟩
  · dsimp only at H
    obtain rfl := Option.some.inj H
    exact hL
def fX10_gone_L11 : Nat → Nat → Int32 → Int32 → am_H → Option ((am_H) ⊕ (Int32 × am_H))
  | 0, _, _, _, _ => none
  | n + 1, v0, v1, v2, h =>
    if ((99 : Int32)) < v2 then
      some (.inl h)
    else
      (fX10_isDay v0 v1 h).bind fun x7 =>
      if x7 = 0 then
        some (.inl h)
      else
        (am_gR h v0 9 24).bind fun state9 =>
        (am_aI h 0 state9 (((1005 : Int32)) + v1)).bind fun x11 =>
        if ¬ x11 = 0 then
          (fX10_passes v0 ((987 : Int32)) h).bind fun hh15 =>
          fX10_gone_L11 n v0 v1 (v2 + (1 : Int32)) hh15
        else
          some (.inr (v2, h))
def fX10_gone (a0 : Nat) (a1 : Int32) (h : am_H) : Option (Int32 × am_H) :=
  (am_isO h a0 9).bind fun _ =>
  (am_pF h a0 9 0 (.int ((0 : Int32)))).bind fun hh1 =>
  (fX10_triesNow a0 hh1).bind fun hh4 =>
  (fX10_gone_L11 4000 a0 a1 ((0 : Int32)) hh4).bind fun o18 => match o18 with
    | .inl hh16 =>
      some ((-1 : Int32), hh16)
    | .inr y19 => some y19
set_option maxHeartbeats 4000000 in
set_option maxRecDepth 100000 in
theorem lX10_gone_L11 {sc : Nat × (Nat → Int32)} : ∀ (n : Nat) (v0 : Nat) (v1 : Int32) (v2 : Int32) (h : am_H) (o : (am_H) ⊕ (Int32 × am_H)), fX10_gone_L11 n v0 v1 v2 h = some o → am_G sc (am_Cl am_T am_N sc 7) (am_at kX10_gone) (fun t => match o with
    | .inl h1 => t = ((53, [none, none, none], []), h1)
    | .inr y => t.2 = y.2 ∧ am_ret 1 (am_at kX10_gone) t.1 = some (some (.int y.1))) ((11, [some (.ref v0), some (.int v1), some (.int v2)], []), h) := by
  intro n
  induction n with
  | zero => intro _ _ _ _ _ H; cases H
  | succ n ih =>
    intro v0 v1 v2 h o H
    rw [fX10_gone_L11] at H
    refine am_G.fr 2 (g := (14, [some (.ref v0), some (.int v1), some (.int v2)], [.int ((99 : Int32)), .int v2])) rfl ?_
    by_cases c5 : ((99 : Int32)) < v2
    · rw [if_pos c5] at H
      refine am_G.br (tgt := 53) rfl rfl (if_pos c5) rfl ?_
      obtain rfl := Option.some.inj H
      refine am_G.fg [none, none, none] (by simp only [am_sub, and_self]) ?_
      exact am_G.nd rfl
    · rw [if_neg c5] at H
      refine am_G.br (tgt := 17) rfl rfl (if_neg c5) rfl ?_
      refine am_G.fr 2 (g := (19, [some (.ref v0), some (.int v1), some (.int v2)], [.int v1, .ref v0])) rfl ?_
      obtain ⟨x7, e6, H⟩ := am_bd H
      refine am_G.cl [.ref v0, .int v1] [] (am_Cl.mono (by decide) (lX10_isDay e6)) rfl rfl rfl rfl (Nat.le_of_ble_eq_true rfl) ?_
      by_cases c8 : x7 = 0
      · rw [if_pos c8] at H
        refine am_G.br (tgt := 53) rfl rfl (if_pos c8) rfl ?_
        obtain rfl := Option.some.inj H
        refine am_G.fg [none, none, none] (by simp only [am_sub, and_self]) ?_
        exact am_G.nd rfl
      · rw [if_neg c8] at H
        refine am_G.br (tgt := 25) rfl rfl (if_neg c8) rfl ?_
        refine am_G.fr 1 (g := (26, [some (.ref v0), some (.int v1), some (.int v2)], [.ref v0])) rfl ?_
        obtain ⟨state9, e10, H⟩ := am_bd H
        refine am_G.gR rfl e10 ?_
        refine am_G.fr 3 (g := (34, [some (.ref v0), some (.int v1), some (.int v2)], [.int (((1005 : Int32)) + v1), .ref state9])) rfl ?_
        obtain ⟨x11, e12, H⟩ := am_bd H
        refine am_G.aI rfl e12 ?_
        by_cases c13 : ¬ x11 = 0
        · rw [if_pos c13] at H
          refine am_G.br (tgt := 40) rfl rfl (if_pos c13) rfl ?_
          refine am_G.fr 2 (g := (44, [some (.ref v0), some (.int v1), some (.int v2)], [.int ((987 : Int32)), .ref v0])) rfl ?_
          obtain ⟨hh15, e14, H⟩ := am_bd H
          refine am_G.cl [.ref v0, .int ((987 : Int32))] [] (am_Cl.mono (by decide) (lX10_passes e14)) rfl rfl rfl rfl (Nat.le_of_ble_eq_true rfl) ?_
          refine am_G.fr 2 (g := (11, [some (.ref v0), some (.int v1), some (.int (v2 + (1 : Int32)))], [])) rfl ?_
          exact ih _ _ _ _ _ H
        · rw [if_neg c13] at H
          refine am_G.br (tgt := 38) rfl rfl (if_neg c13) rfl ?_
          refine am_G.fr 1 (g := (39, [some (.ref v0), some (.int v1), some (.int v2)], [.int v2])) rfl ?_
          obtain rfl := Option.some.inj H
          exact am_G.nd ⟨rfl, rfl⟩
set_option maxHeartbeats 4000000 in
set_option maxRecDepth 100000 in
theorem lX10_gone {sc : Nat × (Nat → Int32)} {a0 : Nat} {a1 : Int32} {h : am_H} {r : Int32} {h1 : am_H} (H : fX10_gone a0 a1 h = some (r, h1)) : am_Cl am_T am_N sc 8 209 [.ref a0, .int a1] h (some (.int r)) h1 := by
  unfold fX10_gone at H
  obtain ⟨_, hO, H⟩ := am_bd H
  obtain ⟨fs0, hO⟩ := am_isO_ok hO
  refine am_mk (q := qX10_gone) rfl (fun _ => ⟨_, _, _, _, _, rfl, hO, rfl, rfl⟩) (fun z => absurd z (by decide)) (Nat.le_of_ble_eq_true rfl) rfl ?_
  show am_G sc (am_Cl am_T am_N sc 7) (am_at kX10_gone) (fun t => t.2 = h1 ∧ am_ret 1 (am_at kX10_gone) t.1 = some (some (.int r))) ((0, [some (.ref a0), some (.int a1), none], []), h)
  refine am_G.fr 2 (g := (2, [some (.ref a0), some (.int a1), none], [.int ((0 : Int32)), .ref a0])) rfl ?_
  obtain ⟨hh1, e2, H⟩ := am_bd H
  refine am_G.pF rfl e2 ?_
  refine am_G.fr 1 (g := (6, [some (.ref a0), some (.int a1), none], [.ref a0])) rfl ?_
  obtain ⟨hh4, e3, H⟩ := am_bd H
  refine am_G.cl [.ref a0] [] (am_Cl.mono (by decide) (lX10_triesNow e3)) rfl rfl rfl rfl (Nat.le_of_ble_eq_true rfl) ?_
  refine am_G.fr 2 (g := (11, [some (.ref a0), some (.int a1), some (.int ((0 : Int32)))], [])) rfl ?_
  obtain ⟨o18, E17, H⟩ := am_bd H
  have hL := lX10_gone_L11 (sc := sc) _ _ _ _ _ _ E17
  clear E17
  rcases o18 with hh16 | y19
  · dsimp only at H
    refine am_G.sq hL ?_
    refine am_G.fr 1 (g := (54, [none, none, none], [.int ((-1 : Int32))])) rfl ?_
    obtain ⟨rfl, rfl⟩ := am_inj2 H
    exact am_G.nd ⟨rfl, rfl⟩
  · dsimp only at H
    obtain rfl := Option.some.inj H
    exact hL
def fX10_crowd_L15 : Nat → Nat → Int32 → Int32 → Int32 → am_H → Option (Int32 × am_H)
  | 0, _, _, _, _, _ => none
  | n + 1, v0, v1, v2, v3, h =>
    if ((60 : Int32)) < v3 then
      some (v1, h)
    else
      (fX10_somewhere v0 ((987 : Int32)) h).bind fun x7 =>
      (fX10_bits x7 h).bind fun x9 =>
      Option.bind (
        if x9 ≤ v2 then
          some v1
        else
          some v3) fun js10 =>
      Option.bind (
        if x9 ≤ v2 then
          some v2
        else
          some x9) fun js12 =>
      (fX10_passes v0 ((987 : Int32)) h).bind fun hh15 =>
      fX10_crowd_L15 n v0 js10 js12 (v3 + (1 : Int32)) hh15
def fX10_crowd (a0 : Nat) (h : am_H) : Option (Int32 × am_H) :=
  (am_isO h a0 9).bind fun _ =>
  (am_pF h a0 9 0 (.int ((0 : Int32)))).bind fun hh1 =>
  (fX10_triesNow a0 hh1).bind fun hh4 =>
  am_b2 (fX10_crowd_L15 4000 a0 ((0 : Int32)) ((-1 : Int32)) ((0 : Int32)) hh4) fun lw18 hh19 =>
  some (lw18, hh19)
set_option maxHeartbeats 4000000 in
set_option maxRecDepth 100000 in
theorem lX10_crowd_L15 {sc : Nat × (Nat → Int32)} : ∀ (n : Nat) (v0 : Nat) (v1 : Int32) (v2 : Int32) (v3 : Int32) (h : am_H) (w1 : Int32) (h1 : am_H), fX10_crowd_L15 n v0 v1 v2 v3 h = some (w1, h1) → am_G sc (am_Cl am_T am_N sc 7) (am_at kX10_crowd) (fun t => t = ((71, [none, some (.int w1), none, none, none], []), h1)) ((15, [some (.ref v0), some (.int v1), some (.int v2), some (.int v3), none], []), h) := by
  intro n
  induction n with
  | zero => intro _ _ _ _ _ _ _ H; cases H
  | succ n ih =>
    intro v0 v1 v2 v3 h w1 h1 H
    rw [fX10_crowd_L15] at H
    refine am_G.fr 2 (g := (18, [some (.ref v0), some (.int v1), some (.int v2), some (.int v3), none], [.int ((60 : Int32)), .int v3])) rfl ?_
    by_cases c5 : ((60 : Int32)) < v3
    · rw [if_pos c5] at H
      refine am_G.br (tgt := 71) rfl rfl (if_pos c5) rfl ?_
      obtain ⟨rfl, rfl⟩ := am_inj2 H
      refine am_G.fg [none, some (.int v1), none, none, none] (by simp only [am_sub, and_self]) ?_
      exact am_G.nd rfl
    · rw [if_neg c5] at H
      refine am_G.br (tgt := 21) rfl rfl (if_neg c5) rfl ?_
      refine am_G.fr 2 (g := (25, [some (.ref v0), some (.int v1), some (.int v2), some (.int v3), none], [.int ((987 : Int32)), .ref v0])) rfl ?_
      obtain ⟨x7, e6, H⟩ := am_bd H
      refine am_G.cl [.ref v0, .int ((987 : Int32))] [] (am_Cl.mono (by decide) (lX10_somewhere e6)) rfl rfl rfl rfl (Nat.le_of_ble_eq_true rfl) ?_
      obtain ⟨x9, e8, H⟩ := am_bd H
      refine am_G.cl [.int x7] [] (am_Cl.mono (by decide) (lX10_bits e8)) rfl rfl rfl rfl (Nat.le_of_ble_eq_true rfl) ?_
      refine am_G.fr 3 (g := (36, [some (.ref v0), some (.int v1), some (.int v2), some (.int v3), some (.int x9)], [.int v2, .int x9])) rfl ?_
      obtain ⟨js10, E17, H⟩ := am_bd H
      refine am_G.sq (t := ((44, [some (.ref v0), none, some (.int v2), some (.int v3), some (.int x9)], [.int js10]), h)) ?_ ?_
      · clear H
        have H := E17
        clear E17
        by_cases c11 : x9 ≤ v2
        · rw [if_pos c11] at H
          refine am_G.br (tgt := 43) rfl rfl (if_pos c11) rfl ?_
          refine am_G.fr 1 (g := (44, [some (.ref v0), some (.int v1), some (.int v2), some (.int v3), some (.int x9)], [.int v1])) rfl ?_
          obtain rfl := Option.some.inj H
          refine am_G.fg [some (.ref v0), none, some (.int v2), some (.int v3), some (.int x9)] (by simp only [am_sub, and_self]) ?_
          exact am_G.nd rfl
        · rw [if_neg c11] at H
          refine am_G.br (tgt := 39) rfl rfl (if_neg c11) rfl ?_
          refine am_G.fr 2 (g := (44, [some (.ref v0), some (.int v1), some (.int v2), some (.int v3), some (.int x9)], [.int v3])) rfl ?_
          obtain rfl := Option.some.inj H
          refine am_G.fg [some (.ref v0), none, some (.int v2), some (.int v3), some (.int x9)] (by simp only [am_sub, and_self]) ?_
          exact am_G.nd rfl
      · clear E17
        refine am_G.fr 3 (g := (48, [some (.ref v0), some (.int js10), some (.int v2), some (.int v3), some (.int x9)], [.int v2, .int x9])) rfl ?_
        obtain ⟨js12, E16, H⟩ := am_bd H
        refine am_G.sq (t := ((57, [some (.ref v0), some (.int js10), none, some (.int v3), none], [.int js12]), h)) ?_ ?_
        · clear H
          have H := E16
          clear E16
          by_cases c13 : x9 ≤ v2
          · rw [if_pos c13] at H
            refine am_G.br (tgt := 56) rfl rfl (if_pos c13) rfl ?_
            refine am_G.fr 1 (g := (57, [some (.ref v0), some (.int js10), some (.int v2), some (.int v3), some (.int x9)], [.int v2])) rfl ?_
            obtain rfl := Option.some.inj H
            refine am_G.fg [some (.ref v0), some (.int js10), none, some (.int v3), none] (by simp only [am_sub, and_self]) ?_
            exact am_G.nd rfl
          · rw [if_neg c13] at H
            refine am_G.br (tgt := 51) rfl rfl (if_neg c13) rfl ?_
            refine am_G.fr 2 (g := (57, [some (.ref v0), some (.int js10), some (.int v2), some (.int v3), some (.int x9)], [.int x9])) rfl ?_
            obtain rfl := Option.some.inj H
            refine am_G.fg [some (.ref v0), some (.int js10), none, some (.int v3), none] (by simp only [am_sub, and_self]) ?_
            exact am_G.nd rfl
        · clear E16
          refine am_G.fr 3 (g := (62, [some (.ref v0), some (.int js10), some (.int js12), some (.int v3), none], [.int ((987 : Int32)), .ref v0])) rfl ?_
          obtain ⟨hh15, e14, H⟩ := am_bd H
          refine am_G.cl [.ref v0, .int ((987 : Int32))] [] (am_Cl.mono (by decide) (lX10_passes e14)) rfl rfl rfl rfl (Nat.le_of_ble_eq_true rfl) ?_
          refine am_G.fr 2 (g := (15, [some (.ref v0), some (.int js10), some (.int js12), some (.int (v3 + (1 : Int32))), none], [])) rfl ?_
          exact ih _ _ _ _ _ _ _ H
set_option maxHeartbeats 4000000 in
set_option maxRecDepth 100000 in
theorem lX10_crowd {sc : Nat × (Nat → Int32)} {a0 : Nat} {h : am_H} {r : Int32} {h1 : am_H} (H : fX10_crowd a0 h = some (r, h1)) : am_Cl am_T am_N sc 8 210 [.ref a0] h (some (.int r)) h1 := by
  unfold fX10_crowd at H
  obtain ⟨_, hO, H⟩ := am_bd H
  obtain ⟨fs0, hO⟩ := am_isO_ok hO
  refine am_mk (q := qX10_crowd) rfl (fun _ => ⟨_, _, _, _, _, rfl, hO, rfl, rfl⟩) (fun z => absurd z (by decide)) (Nat.le_of_ble_eq_true rfl) rfl ?_
  show am_G sc (am_Cl am_T am_N sc 7) (am_at kX10_crowd) (fun t => t.2 = h1 ∧ am_ret 1 (am_at kX10_crowd) t.1 = some (some (.int r))) ((0, [some (.ref a0), none, none, none, none], []), h)
  refine am_G.fr 2 (g := (2, [some (.ref a0), none, none, none, none], [.int ((0 : Int32)), .ref a0])) rfl ?_
  obtain ⟨hh1, e2, H⟩ := am_bd H
  refine am_G.pF rfl e2 ?_
  refine am_G.fr 1 (g := (6, [some (.ref a0), none, none, none, none], [.ref a0])) rfl ?_
  obtain ⟨hh4, e3, H⟩ := am_bd H
  refine am_G.cl [.ref a0] [] (am_Cl.mono (by decide) (lX10_triesNow e3)) rfl rfl rfl rfl (Nat.le_of_ble_eq_true rfl) ?_
  refine am_G.fr 6 (g := (15, [some (.ref a0), some (.int ((0 : Int32))), some (.int ((-1 : Int32))), some (.int ((0 : Int32))), none], [])) rfl ?_
  obtain ⟨lw18, hh19, E20, H⟩ := am_bd2 H
  refine am_G.sq (lX10_crowd_L15 _ _ _ _ _ _ _ _ E20) ?_
  clear E20
  refine am_G.fr 1 (g := (72, [none, some (.int lw18), none, none, none], [.int lw18])) rfl ?_
  obtain ⟨rfl, rfl⟩ := am_inj2 H
  exact am_G.nd ⟨rfl, rfl⟩
def fX10_refused_L42 : Nat → Nat → Int32 → Int32 → Int32 → am_H → Option (Int32)
  | 0, _, _, _, _, _ => none
  | n + 1, v0, v1, v2, v3, h =>
    (am_gI h v0 9 29).bind fun off14 =>
    if ¬ ((off14 >>> (v3 &&& 31)) &&& ((1 : Int32))) = 0 then
      some v3
    else
      fX10_refused_L42 n v0 v1 v2 (v3 + (1 : Int32)) h
def fX10_refused_L11 : Nat → Nat → Int32 → Int32 → am_H → Option ((am_H) ⊕ (Int32 × am_H))
  | 0, _, _, _, _ => none
  | n + 1, v0, v1, v2, h =>
    if ((60 : Int32)) < v2 then
      some (.inl h)
    else
      (fX10_within v1 ((0 : Int32)) ((1 : Int32)) h).bind fun x7 =>
      if x7 = 0 then
        some (.inl h)
      else
        (fX10_passes v0 ((987 : Int32)) h).bind fun hh10 =>
        (am_gI hh10 v0 9 29).bind fun off11 =>
        if off11 = 0 then
          fX10_refused_L11 n v0 v1 (v2 + (1 : Int32)) hh10
        else
          Option.bind (fX10_refused_L42 4000 v0 v1 v2 ((0 : Int32)) hh10) fun lw17 =>
          Option.bind (
            if ¬ v1 = 0 then
              some lw17
            else
              some v2) fun js19 =>
          some (.inr (js19, hh10))
def fX10_refused (a0 : Nat) (a1 : Int32) (h : am_H) : Option (Int32 × am_H) :=
  (am_isO h a0 9).bind fun _ =>
  (am_pF h a0 9 0 (.int ((0 : Int32)))).bind fun hh1 =>
  (fX10_triesNow a0 hh1).bind fun hh4 =>
  (fX10_refused_L11 4000 a0 a1 ((1 : Int32)) hh4).bind fun o24 => match o24 with
    | .inl hh22 =>
      some ((-1 : Int32), hh22)
    | .inr y25 => some y25
set_option maxHeartbeats 4000000 in
set_option maxRecDepth 100000 in
theorem lX10_refused_L42 {sc : Nat × (Nat → Int32)} : ∀ (n : Nat) (v0 : Nat) (v1 : Int32) (v2 : Int32) (v3 : Int32) (h : am_H) (w3 : Int32), fX10_refused_L42 n v0 v1 v2 v3 h = some w3 → am_G sc (am_Cl am_T am_N sc 7) (am_at kX10_refused) (fun t => t = ((59, [none, some (.int v1), some (.int v2), some (.int w3)], []), h)) ((42, [some (.ref v0), some (.int v1), some (.int v2), some (.int v3)], []), h) := by
  intro n
  induction n with
  | zero => intro _ _ _ _ _ _ H; cases H
  | succ n ih =>
    intro v0 v1 v2 v3 h w3 H
    rw [fX10_refused_L42] at H
    refine am_G.fr 1 (g := (43, [some (.ref v0), some (.int v1), some (.int v2), some (.int v3)], [.ref v0])) rfl ?_
    obtain ⟨off14, e15, H⟩ := am_bd H
    refine am_G.gI rfl e15 ?_
    refine am_G.fr 4 (g := (50, [some (.ref v0), some (.int v1), some (.int v2), some (.int v3)], [.int ((off14 >>> (v3 &&& 31)) &&& ((1 : Int32)))])) rfl ?_
    by_cases c16 : ¬ ((off14 >>> (v3 &&& 31)) &&& ((1 : Int32))) = 0
    · rw [if_pos c16] at H
      refine am_G.br (tgt := 59) rfl rfl (if_pos c16) rfl ?_
      obtain rfl := Option.some.inj H
      refine am_G.fg [none, some (.int v1), some (.int v2), some (.int v3)] (by simp only [am_sub, and_self]) ?_
      exact am_G.nd rfl
    · rw [if_neg c16] at H
      refine am_G.br (tgt := 53) rfl rfl (if_neg c16) rfl ?_
      refine am_G.fr 2 (g := (42, [some (.ref v0), some (.int v1), some (.int v2), some (.int (v3 + (1 : Int32)))], [])) rfl ?_
      exact ih _ _ _ _ _ _ H
set_option maxHeartbeats 4000000 in
set_option maxRecDepth 100000 in
theorem lX10_refused_L11 {sc : Nat × (Nat → Int32)} : ∀ (n : Nat) (v0 : Nat) (v1 : Int32) (v2 : Int32) (h : am_H) (o : (am_H) ⊕ (Int32 × am_H)), fX10_refused_L11 n v0 v1 v2 h = some o → am_G sc (am_Cl am_T am_N sc 7) (am_at kX10_refused) (fun t => match o with
    | .inl h1 => t = ((75, [none, none, none, none], []), h1)
    | .inr y => t.2 = y.2 ∧ am_ret 1 (am_at kX10_refused) t.1 = some (some (.int y.1))) ((11, [some (.ref v0), some (.int v1), some (.int v2), none], []), h) := by
  intro n
  induction n with
  | zero => intro _ _ _ _ _ H; cases H
  | succ n ih =>
    intro v0 v1 v2 h o H
    rw [fX10_refused_L11] at H
    refine am_G.fr 2 (g := (14, [some (.ref v0), some (.int v1), some (.int v2), none], [.int ((60 : Int32)), .int v2])) rfl ?_
    by_cases c5 : ((60 : Int32)) < v2
    · rw [if_pos c5] at H
      refine am_G.br (tgt := 75) rfl rfl (if_pos c5) rfl ?_
      obtain rfl := Option.some.inj H
      refine am_G.fg [none, none, none, none] (by simp only [am_sub, and_self]) ?_
      exact am_G.nd rfl
    · rw [if_neg c5] at H
      refine am_G.br (tgt := 17) rfl rfl (if_neg c5) rfl ?_
      refine am_G.fr 3 (g := (20, [some (.ref v0), some (.int v1), some (.int v2), none], [.int ((1 : Int32)), .int ((0 : Int32)), .int v1])) rfl ?_
      obtain ⟨x7, e6, H⟩ := am_bd H
      refine am_G.cl [.int v1, .int ((0 : Int32)), .int ((1 : Int32))] [] (am_Cl.mono (by decide) (lX10_within e6)) rfl rfl rfl rfl (Nat.le_of_ble_eq_true rfl) ?_
      by_cases c8 : x7 = 0
      · rw [if_pos c8] at H
        refine am_G.br (tgt := 75) rfl rfl (if_pos c8) rfl ?_
        obtain rfl := Option.some.inj H
        refine am_G.fg [none, none, none, none] (by simp only [am_sub, and_self]) ?_
        exact am_G.nd rfl
      · rw [if_neg c8] at H
        refine am_G.br (tgt := 26) rfl rfl (if_neg c8) rfl ?_
        refine am_G.fr 2 (g := (30, [some (.ref v0), some (.int v1), some (.int v2), none], [.int ((987 : Int32)), .ref v0])) rfl ?_
        obtain ⟨hh10, e9, H⟩ := am_bd H
        refine am_G.cl [.ref v0, .int ((987 : Int32))] [] (am_Cl.mono (by decide) (lX10_passes e9)) rfl rfl rfl rfl (Nat.le_of_ble_eq_true rfl) ?_
        refine am_G.fr 1 (g := (34, [some (.ref v0), some (.int v1), some (.int v2), none], [.ref v0])) rfl ?_
        obtain ⟨off11, e12, H⟩ := am_bd H
        refine am_G.gI rfl e12 ?_
        by_cases c13 : off11 = 0
        · rw [if_pos c13] at H
          refine am_G.br (tgt := 69) rfl rfl (if_pos c13) rfl ?_
          refine am_G.fr 2 (g := (11, [some (.ref v0), some (.int v1), some (.int (v2 + (1 : Int32))), none], [])) rfl ?_
          exact ih _ _ _ _ _ H
        · rw [if_neg c13] at H
          refine am_G.br (tgt := 40) rfl rfl (if_neg c13) rfl ?_
          refine am_G.fr 2 (g := (42, [some (.ref v0), some (.int v1), some (.int v2), some (.int ((0 : Int32)))], [])) rfl ?_
          obtain ⟨lw17, E18, H⟩ := am_bd H
          refine am_G.sq (lX10_refused_L42 _ _ _ _ _ _ _ E18) ?_
          clear E18
          refine am_G.fr 1 (g := (60, [none, some (.int v1), some (.int v2), some (.int lw17)], [.int v1])) rfl ?_
          obtain ⟨js19, E21, H⟩ := am_bd H
          refine am_G.sq (t := ((68, [none, none, none, none], [.int js19]), hh10)) ?_ ?_
          · clear H
            have H := E21
            clear E21
            by_cases c20 : ¬ v1 = 0
            · rw [if_pos c20] at H
              refine am_G.br (tgt := 67) rfl rfl (if_pos c20) rfl ?_
              refine am_G.fr 1 (g := (68, [none, some (.int v1), some (.int v2), some (.int lw17)], [.int lw17])) rfl ?_
              obtain rfl := Option.some.inj H
              refine am_G.fg [none, none, none, none] (by simp only [am_sub, and_self]) ?_
              exact am_G.nd rfl
            · rw [if_neg c20] at H
              refine am_G.br (tgt := 63) rfl rfl (if_neg c20) rfl ?_
              refine am_G.fr 2 (g := (68, [none, some (.int v1), some (.int v2), some (.int lw17)], [.int v2])) rfl ?_
              obtain rfl := Option.some.inj H
              refine am_G.fg [none, none, none, none] (by simp only [am_sub, and_self]) ?_
              exact am_G.nd rfl
          · clear E21
            obtain rfl := Option.some.inj H
            exact am_G.nd ⟨rfl, rfl⟩
set_option maxHeartbeats 4000000 in
set_option maxRecDepth 100000 in
theorem lX10_refused {sc : Nat × (Nat → Int32)} {a0 : Nat} {a1 : Int32} {h : am_H} {r : Int32} {h1 : am_H} (H : fX10_refused a0 a1 h = some (r, h1)) : am_Cl am_T am_N sc 8 211 [.ref a0, .int a1] h (some (.int r)) h1 := by
  unfold fX10_refused at H
  obtain ⟨_, hO, H⟩ := am_bd H
  obtain ⟨fs0, hO⟩ := am_isO_ok hO
  refine am_mk (q := qX10_refused) rfl (fun _ => ⟨_, _, _, _, _, rfl, hO, rfl, rfl⟩) (fun z => absurd z (by decide)) (Nat.le_of_ble_eq_true rfl) rfl ?_
  show am_G sc (am_Cl am_T am_N sc 7) (am_at kX10_refused) (fun t => t.2 = h1 ∧ am_ret 1 (am_at kX10_refused) t.1 = some (some (.int r))) ((0, [some (.ref a0), some (.int a1), none, none], []), h)
  refine am_G.fr 2 (g := (2, [some (.ref a0), some (.int a1), none, none], [.int ((0 : Int32)), .ref a0])) rfl ?_
  obtain ⟨hh1, e2, H⟩ := am_bd H
  refine am_G.pF rfl e2 ?_
  refine am_G.fr 1 (g := (6, [some (.ref a0), some (.int a1), none, none], [.ref a0])) rfl ?_
  obtain ⟨hh4, e3, H⟩ := am_bd H
  refine am_G.cl [.ref a0] [] (am_Cl.mono (by decide) (lX10_triesNow e3)) rfl rfl rfl rfl (Nat.le_of_ble_eq_true rfl) ?_
  refine am_G.fr 2 (g := (11, [some (.ref a0), some (.int a1), some (.int ((1 : Int32))), none], [])) rfl ?_
  obtain ⟨o24, E23, H⟩ := am_bd H
  have hL := lX10_refused_L11 (sc := sc) _ _ _ _ _ _ E23
  clear E23
  rcases o24 with hh22 | y25
  · dsimp only at H
    refine am_G.sq hL ?_
    refine am_G.fr 1 (g := (76, [none, none, none, none], [.int ((-1 : Int32))])) rfl ?_
    obtain ⟨rfl, rfl⟩ := am_inj2 H
    exact am_G.nd ⟨rfl, rfl⟩
  · dsimp only at H
    obtain rfl := Option.some.inj H
    exact hL
def fX10_meets_L11 : Nat → Nat → Int32 → Int32 → Int32 → am_H → Option ((am_H) ⊕ (Int32 × am_H))
  | 0, _, _, _, _, _ => none
  | n + 1, v0, v1, v2, v3, h =>
    if ((60 : Int32)) < v3 then
      some (.inl h)
    else
      (fX10_isDay v0 v1 h).bind fun x7 =>
      if x7 = 0 then
        some (.inl h)
      else
        (fX10_isDay v0 v2 h).bind fun x10 =>
        if x10 = 0 then
          some (.inl h)
        else
          if v1 = v2 then
            some (.inl h)
          else
            (am_gR h v0 9 24).bind fun state13 =>
            (am_aI h 0 state13 (((993 : Int32)) + v1)).bind fun x15 =>
            if x15 < 0 then
              (fX10_passes v0 ((987 : Int32)) h).bind fun hh19 =>
              fX10_meets_L11 n v0 v1 v2 (v3 + (1 : Int32)) hh19
            else
              (am_gR h v0 9 24).bind fun state20 =>
              (am_aI h 0 state20 (((993 : Int32)) + v1)).bind fun x22 =>
              (am_gR h v0 9 24).bind fun state24 =>
              (am_aI h 0 state24 (((993 : Int32)) + v2)).bind fun x26 =>
              if ¬ x22 = x26 then
                (fX10_passes v0 ((987 : Int32)) h).bind fun hh30 =>
                fX10_meets_L11 n v0 v1 v2 (v3 + (1 : Int32)) hh30
              else
                some (.inr (v3, h))
def fX10_meets (a0 : Nat) (a1 : Int32) (a2 : Int32) (h : am_H) : Option (Int32 × am_H) :=
  (am_isO h a0 9).bind fun _ =>
  (am_pF h a0 9 0 (.int ((0 : Int32)))).bind fun hh1 =>
  (fX10_triesNow a0 hh1).bind fun hh4 =>
  (fX10_meets_L11 4000 a0 a1 a2 ((0 : Int32)) hh4).bind fun o33 => match o33 with
    | .inl hh31 =>
      some ((-1 : Int32), hh31)
    | .inr y34 => some y34
set_option maxHeartbeats 4000000 in
set_option maxRecDepth 100000 in
theorem lX10_meets_L11 {sc : Nat × (Nat → Int32)} : ∀ (n : Nat) (v0 : Nat) (v1 : Int32) (v2 : Int32) (v3 : Int32) (h : am_H) (o : (am_H) ⊕ (Int32 × am_H)), fX10_meets_L11 n v0 v1 v2 v3 h = some o → am_G sc (am_Cl am_T am_N sc 7) (am_at kX10_meets) (fun t => match o with
    | .inl h1 => t = ((89, [none, none, none, none], []), h1)
    | .inr y => t.2 = y.2 ∧ am_ret 1 (am_at kX10_meets) t.1 = some (some (.int y.1))) ((11, [some (.ref v0), some (.int v1), some (.int v2), some (.int v3)], []), h) := by
  intro n
  induction n with
  | zero => intro _ _ _ _ _ _ H; cases H
  | succ n ih =>
    intro v0 v1 v2 v3 h o H
    rw [fX10_meets_L11] at H
    refine am_G.fr 2 (g := (14, [some (.ref v0), some (.int v1), some (.int v2), some (.int v3)], [.int ((60 : Int32)), .int v3])) rfl ?_
    by_cases c5 : ((60 : Int32)) < v3
    · rw [if_pos c5] at H
      refine am_G.br (tgt := 89) rfl rfl (if_pos c5) rfl ?_
      obtain rfl := Option.some.inj H
      refine am_G.fg [none, none, none, none] (by simp only [am_sub, and_self]) ?_
      exact am_G.nd rfl
    · rw [if_neg c5] at H
      refine am_G.br (tgt := 17) rfl rfl (if_neg c5) rfl ?_
      refine am_G.fr 2 (g := (19, [some (.ref v0), some (.int v1), some (.int v2), some (.int v3)], [.int v1, .ref v0])) rfl ?_
      obtain ⟨x7, e6, H⟩ := am_bd H
      refine am_G.cl [.ref v0, .int v1] [] (am_Cl.mono (by decide) (lX10_isDay e6)) rfl rfl rfl rfl (Nat.le_of_ble_eq_true rfl) ?_
      by_cases c8 : x7 = 0
      · rw [if_pos c8] at H
        refine am_G.br (tgt := 89) rfl rfl (if_pos c8) rfl ?_
        obtain rfl := Option.some.inj H
        refine am_G.fg [none, none, none, none] (by simp only [am_sub, and_self]) ?_
        exact am_G.nd rfl
      · rw [if_neg c8] at H
        refine am_G.br (tgt := 25) rfl rfl (if_neg c8) rfl ?_
        refine am_G.fr 2 (g := (27, [some (.ref v0), some (.int v1), some (.int v2), some (.int v3)], [.int v2, .ref v0])) rfl ?_
        obtain ⟨x10, e9, H⟩ := am_bd H
        refine am_G.cl [.ref v0, .int v2] [] (am_Cl.mono (by decide) (lX10_isDay e9)) rfl rfl rfl rfl (Nat.le_of_ble_eq_true rfl) ?_
        by_cases c11 : x10 = 0
        · rw [if_pos c11] at H
          refine am_G.br (tgt := 89) rfl rfl (if_pos c11) rfl ?_
          obtain rfl := Option.some.inj H
          refine am_G.fg [none, none, none, none] (by simp only [am_sub, and_self]) ?_
          exact am_G.nd rfl
        · rw [if_neg c11] at H
          refine am_G.br (tgt := 33) rfl rfl (if_neg c11) rfl ?_
          refine am_G.fr 2 (g := (35, [some (.ref v0), some (.int v1), some (.int v2), some (.int v3)], [.int v2, .int v1])) rfl ?_
          by_cases c12 : v1 = v2
          · rw [if_pos c12] at H
            refine am_G.br (tgt := 89) rfl rfl (if_pos c12) rfl ?_
            obtain rfl := Option.some.inj H
            refine am_G.fg [none, none, none, none] (by simp only [am_sub, and_self]) ?_
            exact am_G.nd rfl
          · rw [if_neg c12] at H
            refine am_G.br (tgt := 38) rfl rfl (if_neg c12) rfl ?_
            refine am_G.fr 1 (g := (39, [some (.ref v0), some (.int v1), some (.int v2), some (.int v3)], [.ref v0])) rfl ?_
            obtain ⟨state13, e14, H⟩ := am_bd H
            refine am_G.gR rfl e14 ?_
            refine am_G.fr 3 (g := (47, [some (.ref v0), some (.int v1), some (.int v2), some (.int v3)], [.int (((993 : Int32)) + v1), .ref state13])) rfl ?_
            obtain ⟨x15, e16, H⟩ := am_bd H
            refine am_G.aI rfl e16 ?_
            by_cases c17 : x15 < 0
            · rw [if_pos c17] at H
              refine am_G.br (tgt := 76) rfl rfl (if_pos c17) rfl ?_
              refine am_G.fr 2 (g := (80, [some (.ref v0), some (.int v1), some (.int v2), some (.int v3)], [.int ((987 : Int32)), .ref v0])) rfl ?_
              obtain ⟨hh19, e18, H⟩ := am_bd H
              refine am_G.cl [.ref v0, .int ((987 : Int32))] [] (am_Cl.mono (by decide) (lX10_passes e18)) rfl rfl rfl rfl (Nat.le_of_ble_eq_true rfl) ?_
              refine am_G.fr 2 (g := (11, [some (.ref v0), some (.int v1), some (.int v2), some (.int (v3 + (1 : Int32)))], [])) rfl ?_
              exact ih _ _ _ _ _ _ H
            · rw [if_neg c17] at H
              refine am_G.br (tgt := 51) rfl rfl (if_neg c17) rfl ?_
              refine am_G.fr 1 (g := (52, [some (.ref v0), some (.int v1), some (.int v2), some (.int v3)], [.ref v0])) rfl ?_
              obtain ⟨state20, e21, H⟩ := am_bd H
              refine am_G.gR rfl e21 ?_
              refine am_G.fr 3 (g := (60, [some (.ref v0), some (.int v1), some (.int v2), some (.int v3)], [.int (((993 : Int32)) + v1), .ref state20])) rfl ?_
              obtain ⟨x22, e23, H⟩ := am_bd H
              refine am_G.aI rfl e23 ?_
              refine am_G.fr 1 (g := (62, [some (.ref v0), some (.int v1), some (.int v2), some (.int v3)], [.ref v0, .int x22])) rfl ?_
              obtain ⟨state24, e25, H⟩ := am_bd H
              refine am_G.gR rfl e25 ?_
              refine am_G.fr 3 (g := (70, [some (.ref v0), some (.int v1), some (.int v2), some (.int v3)], [.int (((993 : Int32)) + v2), .ref state24, .int x22])) rfl ?_
              obtain ⟨x26, e27, H⟩ := am_bd H
              refine am_G.aI rfl e27 ?_
              by_cases c28 : ¬ x22 = x26
              · rw [if_pos c28] at H
                refine am_G.br (tgt := 76) rfl rfl (if_pos c28) rfl ?_
                refine am_G.fr 2 (g := (80, [some (.ref v0), some (.int v1), some (.int v2), some (.int v3)], [.int ((987 : Int32)), .ref v0])) rfl ?_
                obtain ⟨hh30, e29, H⟩ := am_bd H
                refine am_G.cl [.ref v0, .int ((987 : Int32))] [] (am_Cl.mono (by decide) (lX10_passes e29)) rfl rfl rfl rfl (Nat.le_of_ble_eq_true rfl) ?_
                refine am_G.fr 2 (g := (11, [some (.ref v0), some (.int v1), some (.int v2), some (.int (v3 + (1 : Int32)))], [])) rfl ?_
                exact ih _ _ _ _ _ _ H
              · rw [if_neg c28] at H
                refine am_G.br (tgt := 74) rfl rfl (if_neg c28) rfl ?_
                refine am_G.fr 1 (g := (75, [some (.ref v0), some (.int v1), some (.int v2), some (.int v3)], [.int v3])) rfl ?_
                obtain rfl := Option.some.inj H
                exact am_G.nd ⟨rfl, rfl⟩
set_option maxHeartbeats 4000000 in
set_option maxRecDepth 100000 in
theorem lX10_meets {sc : Nat × (Nat → Int32)} {a0 : Nat} {a1 : Int32} {a2 : Int32} {h : am_H} {r : Int32} {h1 : am_H} (H : fX10_meets a0 a1 a2 h = some (r, h1)) : am_Cl am_T am_N sc 8 212 [.ref a0, .int a1, .int a2] h (some (.int r)) h1 := by
  unfold fX10_meets at H
  obtain ⟨_, hO, H⟩ := am_bd H
  obtain ⟨fs0, hO⟩ := am_isO_ok hO
  refine am_mk (q := qX10_meets) rfl (fun _ => ⟨_, _, _, _, _, rfl, hO, rfl, rfl⟩) (fun z => absurd z (by decide)) (Nat.le_of_ble_eq_true rfl) rfl ?_
  show am_G sc (am_Cl am_T am_N sc 7) (am_at kX10_meets) (fun t => t.2 = h1 ∧ am_ret 1 (am_at kX10_meets) t.1 = some (some (.int r))) ((0, [some (.ref a0), some (.int a1), some (.int a2), none], []), h)
  refine am_G.fr 2 (g := (2, [some (.ref a0), some (.int a1), some (.int a2), none], [.int ((0 : Int32)), .ref a0])) rfl ?_
  obtain ⟨hh1, e2, H⟩ := am_bd H
  refine am_G.pF rfl e2 ?_
  refine am_G.fr 1 (g := (6, [some (.ref a0), some (.int a1), some (.int a2), none], [.ref a0])) rfl ?_
  obtain ⟨hh4, e3, H⟩ := am_bd H
  refine am_G.cl [.ref a0] [] (am_Cl.mono (by decide) (lX10_triesNow e3)) rfl rfl rfl rfl (Nat.le_of_ble_eq_true rfl) ?_
  refine am_G.fr 2 (g := (11, [some (.ref a0), some (.int a1), some (.int a2), some (.int ((0 : Int32)))], [])) rfl ?_
  obtain ⟨o33, E32, H⟩ := am_bd H
  have hL := lX10_meets_L11 (sc := sc) _ _ _ _ _ _ _ E32
  clear E32
  rcases o33 with hh31 | y34
  · dsimp only at H
    refine am_G.sq hL ?_
    refine am_G.fr 1 (g := (90, [none, none, none, none], [.int ((-1 : Int32))])) rfl ?_
    obtain ⟨rfl, rfl⟩ := am_inj2 H
    exact am_G.nd ⟨rfl, rfl⟩
  · dsimp only at H
    obtain rfl := Option.some.inj H
    exact hL
def fX10_isCalm_L11 : Nat → Nat → Int32 → Int32 → Int32 → am_H → Option (am_H)
  | 0, _, _, _, _, _ => none
  | n + 1, v0, v1, v2, v3, h =>
    if v1 ≤ v3 then
      some h
    else
      (fX10_passes v0 ((987 : Int32)) h).bind fun hh7 =>
      fX10_isCalm_L11 n v0 v1 v2 (v3 + (1 : Int32)) hh7
def fX10_isCalm (a0 : Nat) (a1 : Int32) (h : am_H) : Option (Int32 × am_H) :=
  (am_isO h a0 9).bind fun _ =>
  (am_gR h a0 9 24).bind fun state1 =>
  (am_aI h 0 state1 ((988 : Int32))).bind fun x3 =>
  Option.bind (fX10_isCalm_L11 4000 a0 a1 x3 ((0 : Int32)) h) fun hh8 =>
  (am_gR hh8 a0 9 24).bind fun state10 =>
  (am_aI hh8 0 state10 ((988 : Int32))).bind fun x12 =>
  Option.bind (
    if ¬ x12 = x3 then
      some ((0 : Int32))
    else
      some ((1 : Int32))) fun js14 =>
  (am_z01 js14).bind fun b16 =>
  some (b16, hh8)
set_option maxHeartbeats 4000000 in
set_option maxRecDepth 100000 in
theorem lX10_isCalm_L11 {sc : Nat × (Nat → Int32)} : ∀ (n : Nat) (v0 : Nat) (v1 : Int32) (v2 : Int32) (v3 : Int32) (h : am_H) (h1 : am_H), fX10_isCalm_L11 n v0 v1 v2 v3 h = some h1 → am_G sc (am_Cl am_T am_N sc 7) (am_at kX10_isCalm) (fun t => t = ((29, [some (.ref v0), none, some (.int v2), none], []), h1)) ((11, [some (.ref v0), some (.int v1), some (.int v2), some (.int v3)], []), h) := by
  intro n
  induction n with
  | zero => intro _ _ _ _ _ _ H; cases H
  | succ n ih =>
    intro v0 v1 v2 v3 h h1 H
    rw [fX10_isCalm_L11] at H
    refine am_G.fr 2 (g := (13, [some (.ref v0), some (.int v1), some (.int v2), some (.int v3)], [.int v1, .int v3])) rfl ?_
    by_cases c5 : v1 ≤ v3
    · rw [if_pos c5] at H
      refine am_G.br (tgt := 29) rfl rfl (if_pos c5) rfl ?_
      obtain rfl := Option.some.inj H
      refine am_G.fg [some (.ref v0), none, some (.int v2), none] (by simp only [am_sub, and_self]) ?_
      exact am_G.nd rfl
    · rw [if_neg c5] at H
      refine am_G.br (tgt := 16) rfl rfl (if_neg c5) rfl ?_
      refine am_G.fr 2 (g := (20, [some (.ref v0), some (.int v1), some (.int v2), some (.int v3)], [.int ((987 : Int32)), .ref v0])) rfl ?_
      obtain ⟨hh7, e6, H⟩ := am_bd H
      refine am_G.cl [.ref v0, .int ((987 : Int32))] [] (am_Cl.mono (by decide) (lX10_passes e6)) rfl rfl rfl rfl (Nat.le_of_ble_eq_true rfl) ?_
      refine am_G.fr 2 (g := (11, [some (.ref v0), some (.int v1), some (.int v2), some (.int (v3 + (1 : Int32)))], [])) rfl ?_
      exact ih _ _ _ _ _ _ H
set_option maxHeartbeats 4000000 in
set_option maxRecDepth 100000 in
theorem lX10_isCalm {sc : Nat × (Nat → Int32)} {a0 : Nat} {a1 : Int32} {h : am_H} {r : Int32} {h1 : am_H} (H : fX10_isCalm a0 a1 h = some (r, h1)) : am_Cl am_T am_N sc 8 213 [.ref a0, .int a1] h (some (.int r)) h1 := by
  unfold fX10_isCalm at H
  obtain ⟨_, hO, H⟩ := am_bd H
  obtain ⟨fs0, hO⟩ := am_isO_ok hO
  refine am_mk (q := qX10_isCalm) rfl (fun _ => ⟨_, _, _, _, _, rfl, hO, rfl, rfl⟩) (fun z => absurd z (by decide)) (Nat.le_of_ble_eq_true rfl) rfl ?_
  show am_G sc (am_Cl am_T am_N sc 7) (am_at kX10_isCalm) (fun t => t.2 = h1 ∧ am_ret 2 (am_at kX10_isCalm) t.1 = some (some (.int r))) ((0, [some (.ref a0), some (.int a1), none, none], []), h)
  refine am_G.fr 1 (g := (1, [some (.ref a0), some (.int a1), none, none], [.ref a0])) rfl ?_
  obtain ⟨state1, e2, H⟩ := am_bd H
  refine am_G.gR rfl e2 ?_
  refine am_G.fr 1 (g := (7, [some (.ref a0), some (.int a1), none, none], [.int ((988 : Int32)), .ref state1])) rfl ?_
  obtain ⟨x3, e4, H⟩ := am_bd H
  refine am_G.aI rfl e4 ?_
  refine am_G.fr 3 (g := (11, [some (.ref a0), some (.int a1), some (.int x3), some (.int ((0 : Int32)))], [])) rfl ?_
  obtain ⟨hh8, E9, H⟩ := am_bd H
  refine am_G.sq (lX10_isCalm_L11 _ _ _ _ _ _ _ E9) ?_
  clear E9
  refine am_G.fr 1 (g := (30, [some (.ref a0), none, some (.int x3), none], [.ref a0])) rfl ?_
  obtain ⟨state10, e11, H⟩ := am_bd H
  refine am_G.gR rfl e11 ?_
  refine am_G.fr 1 (g := (36, [some (.ref a0), none, some (.int x3), none], [.int ((988 : Int32)), .ref state10])) rfl ?_
  obtain ⟨x12, e13, H⟩ := am_bd H
  refine am_G.aI rfl e13 ?_
  refine am_G.fr 1 (g := (38, [some (.ref a0), none, some (.int x3), none], [.int x3, .int x12])) rfl ?_
  obtain ⟨js14, E18, H⟩ := am_bd H
  refine am_G.sq (t := ((46, [none, none, none, none], [.int js14]), hh8)) ?_ ?_
  · clear H
    have H := E18
    clear E18
    by_cases c15 : ¬ x12 = x3
    · rw [if_pos c15] at H
      refine am_G.br (tgt := 45) rfl rfl (if_pos c15) rfl ?_
      refine am_G.fr 1 (g := (46, [some (.ref a0), none, some (.int x3), none], [.int ((0 : Int32))])) rfl ?_
      obtain rfl := Option.some.inj H
      refine am_G.fg [none, none, none, none] (by simp only [am_sub, and_self]) ?_
      exact am_G.nd rfl
    · rw [if_neg c15] at H
      refine am_G.br (tgt := 41) rfl rfl (if_neg c15) rfl ?_
      refine am_G.fr 2 (g := (46, [some (.ref a0), none, some (.int x3), none], [.int ((1 : Int32))])) rfl ?_
      obtain rfl := Option.some.inj H
      refine am_G.fg [none, none, none, none] (by simp only [am_sub, and_self]) ?_
      exact am_G.nd rfl
  · clear E18
    obtain ⟨b16, e17, H⟩ := am_bd H
    obtain ⟨rfl, rfl⟩ := am_inj2 H
    exact am_G.nd ⟨rfl, am_ret2 rfl e17⟩
def fX10_builtIn_L10 : Nat → Int32 → Int32 → Int32 → am_H → Option (Int32)
  | 0, _, _, _, _ => none
  | n + 1, v2, v3, v4, h =>
    if v4 ≤ v2 then
      some v3
    else
      (am_dv v3 ((3 : Int32))).bind fun q4 =>
      fX10_builtIn_L10 n v2 q4 (v4 + (-1 : Int32)) h
def fX10_builtIn (a0 : Nat) (a1 : Int32) (a2 : Int32) (h : am_H) : Option (Int32) :=
  (am_isO h a0 9).bind fun _ =>
  (fX10_houses a0 h).bind fun x2 =>
  Option.bind (fX10_builtIn_L10 4000 a2 a1 (x2 - ((1 : Int32))) h) fun lw6 =>
  (am_rm' lw6 ((3 : Int32))).bind fun q8 =>
  some q8
set_option maxHeartbeats 4000000 in
set_option maxRecDepth 100000 in
theorem lX10_builtIn_L10 {sc : Nat × (Nat → Int32)} : ∀ (n : Nat) (v2 : Int32) (v3 : Int32) (v4 : Int32) (h : am_H) (w3 : Int32), fX10_builtIn_L10 n v2 v3 v4 h = some w3 → am_G sc (am_Cl am_T am_N sc 1) (am_at kX10_builtIn) (fun t => t = ((26, [none, none, none, some (.int w3), none], []), h)) ((10, [none, none, some (.int v2), some (.int v3), some (.int v4)], []), h) := by
  intro n
  induction n with
  | zero => intro _ _ _ _ _ H; cases H
  | succ n ih =>
    intro v2 v3 v4 h w3 H
    rw [fX10_builtIn_L10] at H
    refine am_G.fr 2 (g := (13, [none, none, some (.int v2), some (.int v3), some (.int v4)], [.int v2, .int v4])) rfl ?_
    by_cases c3 : v4 ≤ v2
    · rw [if_pos c3] at H
      refine am_G.br (tgt := 26) rfl rfl (if_pos c3) rfl ?_
      obtain rfl := Option.some.inj H
      refine am_G.fg [none, none, none, some (.int v3), none] (by simp only [am_sub, and_self]) ?_
      exact am_G.nd rfl
    · rw [if_neg c3] at H
      refine am_G.br (tgt := 16) rfl rfl (if_neg c3) rfl ?_
      refine am_G.fr 2 (g := (18, [none, none, some (.int v2), some (.int v3), some (.int v4)], [.int ((3 : Int32)), .int v3])) rfl ?_
      obtain ⟨q4, e5, H⟩ := am_bd H
      refine am_G.dv rfl e5 ?_
      refine am_G.fr 3 (g := (10, [none, none, some (.int v2), some (.int q4), some (.int (v4 + (-1 : Int32)))], [])) rfl ?_
      exact ih _ _ _ _ _ H
set_option maxHeartbeats 4000000 in
set_option maxRecDepth 100000 in
theorem lX10_builtIn {sc : Nat × (Nat → Int32)} {a0 : Nat} {a1 : Int32} {a2 : Int32} {h : am_H} {r : Int32} (H : fX10_builtIn a0 a1 a2 h = some r) : am_Cl am_T am_N sc 2 214 [.ref a0, .int a1, .int a2] h (some (.int r)) h := by
  unfold fX10_builtIn at H
  obtain ⟨_, hO, H⟩ := am_bd H
  obtain ⟨fs0, hO⟩ := am_isO_ok hO
  refine am_mk (q := qX10_builtIn) rfl (fun _ => ⟨_, _, _, _, _, rfl, hO, rfl, rfl⟩) (fun z => absurd z (by decide)) (Nat.le_of_ble_eq_true rfl) rfl ?_
  show am_G sc (am_Cl am_T am_N sc 1) (am_at kX10_builtIn) (fun t => t.2 = h ∧ am_ret 1 (am_at kX10_builtIn) t.1 = some (some (.int r))) ((0, [some (.ref a0), some (.int a1), some (.int a2), none, none], []), h)
  refine am_G.fr 3 (g := (3, [some (.ref a0), some (.int a1), some (.int a2), some (.int a1), none], [.ref a0])) rfl ?_
  obtain ⟨x2, e1, H⟩ := am_bd H
  refine am_G.cl [.ref a0] [] (am_Cl.mono (by decide) (lX10_houses e1)) rfl rfl rfl rfl (Nat.le_of_ble_eq_true rfl) ?_
  refine am_G.fr 3 (g := (10, [some (.ref a0), some (.int a1), some (.int a2), some (.int a1), some (.int (x2 - ((1 : Int32))))], [])) rfl ?_
  obtain ⟨lw6, E7, H⟩ := am_bd H
  refine am_G.fg [none, none, some (.int a2), some (.int a1), some (.int (x2 - ((1 : Int32))))] (by simp only [am_sub, and_self]) ?_
  refine am_G.sq (lX10_builtIn_L10 _ _ _ _ _ _ E7) ?_
  clear E7
  refine am_G.fr 2 (g := (28, [none, none, none, some (.int lw6), none], [.int ((3 : Int32)), .int lw6])) rfl ?_
  obtain ⟨q8, e9, H⟩ := am_bd H
  refine am_G.rm rfl e9 ?_
  obtain rfl := Option.some.inj H
  exact am_G.nd ⟨rfl, rfl⟩
def fX10_beds_L36 : Nat → Nat → Int32 → Int32 → Int32 → Int32 → am_H → Option (Int32)
  | 0, _, _, _, _, _, _ => none
  | n + 1, v0, v1, v2, v3, v4, h =>
    (fX10_houses v0 h).bind fun x8 =>
    if x8 ≤ v4 then
      some v3
    else
      fX10_beds_L36 n v0 v1 v2 (v3 * ((3 : Int32))) (v4 + (1 : Int32)) h
def fX10_beds_L83 : Nat → Nat → Int32 → Int32 → Int32 → Int32 → Int32 → Int32 → Int32 → Int32 → Int32 → am_H → Option (Int32 × Int32 × am_H)
  | 0, _, _, _, _, _, _, _, _, _, _, _ => none
  | n + 1, v0, v1, v2, v3, v4, v5, v6, v7, v8, v9, h =>
    (fX10_houses v0 h).bind fun x16 =>
    if x16 ≤ v9 then
      some (v7, v8, h)
    else
      (fX10_builtIn v0 v6 v9 h).bind fun x19 =>
      (am_gR h v0 9 24).bind fun state20 =>
      (am_aI h 0 state20 (((989 : Int32)) + v9)).bind fun x22 =>
      (fX10_builtIn v0 v6 v9 h).bind fun x25 =>
      (am_sI h 0 state20 (((989 : Int32)) + v9) (x22 + x25)).bind fun hh26 =>
      Option.bind (
        if v8 = 0 then
          some ((0 : Int32))
        else
          (am_gR hh26 v0 9 24).bind fun state30 =>
          (am_aI hh26 0 state30 (((989 : Int32)) + v9)).bind fun x32 =>
          if ((9 : Int32)) < x32 then
            some ((0 : Int32))
          else
            some ((1 : Int32))) fun js28 =>
      fX10_beds_L83 n v0 v1 v2 v3 v4 v5 v6 (v7 + x19) js28 (v9 + (1 : Int32)) hh26
def fX10_beds_L64 : Nat → Nat → Int32 → Int32 → Int32 → Int32 → Int32 → Int32 → am_H → Option (Int32 × Int32 × am_H)
  | 0, _, _, _, _, _, _, _, _ => none
  | n + 1, v0, v1, v2, v3, v4, v5, v6, h =>
    if v3 ≤ v6 then
      some (v4, v5, h)
    else
      (fX10_triesNow v0 h).bind fun hh14 =>
      am_b3 (fX10_beds_L83 4000 v0 v1 v2 v3 v4 v5 v6 ((0 : Int32)) ((1 : Int32)) ((0 : Int32)) hh14) fun lw36 lw37 hh38 =>
      am_b2 (
        if lw37 = 0 then
          some ((0 : Int32), hh38)
        else
          if v4 < 0 then
            am_b2 (fX10_isCalm v0 v1 hh38) fun x45 hh46 =>
            if x45 = 0 then
              some ((0 : Int32), hh46)
            else
              some ((1 : Int32), hh46)
          else
            if v5 ≤ lw36 then
              some ((0 : Int32), hh38)
            else
              am_b2 (fX10_isCalm v0 v1 hh38) fun x50 hh51 =>
              if x50 = 0 then
                some ((0 : Int32), hh51)
              else
                some ((1 : Int32), hh51)) fun js40 hh41 =>
      Option.bind (
        if js40 = 0 then
          some v4
        else
          some v6) fun js53 =>
      Option.bind (
        if js40 = 0 then
          some v5
        else
          some lw36) fun js55 =>
      fX10_beds_L64 n v0 v1 v2 v3 js53 js55 (v6 + (1 : Int32)) hh41
def fX10_beds (a0 : Nat) (a1 : Int32) (a2 : Int32) (h : am_H) : Option (Int32 × am_H) :=
  (am_isO h a0 9).bind fun _ =>
  (am_pF h a0 9 0 (.int ((0 : Int32)))).bind fun hh1 =>
  (fX10_within a1 ((1 : Int32)) ((36 : Int32)) hh1).bind fun x4 =>
  if x4 = 0 then
    some ((-2 : Int32), hh1)
  else
    if a2 = ((-1 : Int32)) then
      Option.bind (fX10_beds_L36 4000 a0 a1 a2 ((1 : Int32)) ((0 : Int32)) hh1) fun lw10 =>
      am_b3 (fX10_beds_L64 4000 a0 a1 a2 lw10 ((-1 : Int32)) ((0 : Int32)) ((0 : Int32)) hh1) fun lw60 lw61 hh62 =>
      Option.bind (
        if 0 ≤ lw60 then
          if ¬ a2 = ((-1 : Int32)) then
            (fX10_builtIn a0 lw60 a2 hh62).bind fun x68 =>
            some x68
          else
            some lw61
        else
          some ((-2 : Int32))) fun js64 =>
      some (js64, hh62)
    else
      (fX10_isHouse a0 a2 hh1).bind fun x71 =>
      if ¬ x71 = 0 then
        Option.bind (fX10_beds_L36 4000 a0 a1 a2 ((1 : Int32)) ((0 : Int32)) hh1) fun lw73 =>
        am_b3 (fX10_beds_L64 4000 a0 a1 a2 lw73 ((-1 : Int32)) ((0 : Int32)) ((0 : Int32)) hh1) fun lw75 lw76 hh77 =>
        Option.bind (
          if 0 ≤ lw75 then
            if ¬ a2 = ((-1 : Int32)) then
              (fX10_builtIn a0 lw75 a2 hh77).bind fun x83 =>
              some x83
            else
              some lw76
          else
            some ((-2 : Int32))) fun js79 =>
        some (js79, hh77)
      else
        some ((-2 : Int32), hh1)
set_option maxHeartbeats 4000000 in
set_option maxRecDepth 100000 in
theorem lX10_beds_L36 {sc : Nat × (Nat → Int32)} : ∀ (n : Nat) (v0 : Nat) (v1 : Int32) (v2 : Int32) (v3 : Int32) (v4 : Int32) (h : am_H) (w3 : Int32), fX10_beds_L36 n v0 v1 v2 v3 v4 h = some w3 → am_G sc (am_Cl am_T am_N sc 8) (am_at kX10_beds) (fun t => t = ((55, [some (.ref v0), some (.int v1), some (.int v2), some (.int w3), none, none, none, none, none, none], []), h)) ((36, [some (.ref v0), some (.int v1), some (.int v2), some (.int v3), some (.int v4), none, none, none, none, none], []), h) := by
  intro n
  induction n with
  | zero => intro _ _ _ _ _ _ _ H; cases H
  | succ n ih =>
    intro v0 v1 v2 v3 v4 h w3 H
    rw [fX10_beds_L36] at H
    refine am_G.fr 2 (g := (39, [some (.ref v0), some (.int v1), some (.int v2), some (.int v3), some (.int v4), none, none, none, none, none], [.ref v0, .int v4])) rfl ?_
    obtain ⟨x8, e7, H⟩ := am_bd H
    refine am_G.cl [.ref v0] [.int v4] (am_Cl.mono (by decide) (lX10_houses e7)) rfl rfl rfl rfl (Nat.le_of_ble_eq_true rfl) ?_
    by_cases c9 : x8 ≤ v4
    · rw [if_pos c9] at H
      refine am_G.br (tgt := 55) rfl rfl (if_pos c9) rfl ?_
      obtain rfl := Option.some.inj H
      refine am_G.fg [some (.ref v0), some (.int v1), some (.int v2), some (.int v3), none, none, none, none, none, none] (by simp only [am_sub, and_self]) ?_
      exact am_G.nd rfl
    · rw [if_neg c9] at H
      refine am_G.br (tgt := 45) rfl rfl (if_neg c9) rfl ?_
      refine am_G.fr 6 (g := (36, [some (.ref v0), some (.int v1), some (.int v2), some (.int (v3 * ((3 : Int32)))), some (.int (v4 + (1 : Int32))), none, none, none, none, none], [])) rfl ?_
      exact ih _ _ _ _ _ _ _ H
set_option maxHeartbeats 4000000 in
set_option maxRecDepth 100000 in
theorem lX10_beds_L83 {sc : Nat × (Nat → Int32)} : ∀ (n : Nat) (v0 : Nat) (v1 : Int32) (v2 : Int32) (v3 : Int32) (v4 : Int32) (v5 : Int32) (v6 : Int32) (v7 : Int32) (v8 : Int32) (v9 : Int32) (h : am_H) (w7 : Int32) (w8 : Int32) (h1 : am_H), fX10_beds_L83 n v0 v1 v2 v3 v4 v5 v6 v7 v8 v9 h = some (w7, w8, h1) → am_G sc (am_Cl am_T am_N sc 8) (am_at kX10_beds) (fun t => t = ((161, [some (.ref v0), some (.int v1), some (.int v2), some (.int v3), some (.int v4), some (.int v5), some (.int v6), some (.int w7), some (.int w8), none], []), h1)) ((83, [some (.ref v0), some (.int v1), some (.int v2), some (.int v3), some (.int v4), some (.int v5), some (.int v6), some (.int v7), some (.int v8), some (.int v9)], []), h) := by
  intro n
  induction n with
  | zero => intro _ _ _ _ _ _ _ _ _ _ _ _ _ _ H; cases H
  | succ n ih =>
    intro v0 v1 v2 v3 v4 v5 v6 v7 v8 v9 h w7 w8 h1 H
    rw [fX10_beds_L83] at H
    refine am_G.fr 2 (g := (86, [some (.ref v0), some (.int v1), some (.int v2), some (.int v3), some (.int v4), some (.int v5), some (.int v6), some (.int v7), some (.int v8), some (.int v9)], [.ref v0, .int v9])) rfl ?_
    obtain ⟨x16, e15, H⟩ := am_bd H
    refine am_G.cl [.ref v0] [.int v9] (am_Cl.mono (by decide) (lX10_houses e15)) rfl rfl rfl rfl (Nat.le_of_ble_eq_true rfl) ?_
    by_cases c17 : x16 ≤ v9
    · rw [if_pos c17] at H
      refine am_G.br (tgt := 161) rfl rfl (if_pos c17) rfl ?_
      obtain ⟨rfl, rfl, rfl⟩ := am_inj3 H
      refine am_G.fg [some (.ref v0), some (.int v1), some (.int v2), some (.int v3), some (.int v4), some (.int v5), some (.int v6), some (.int v7), some (.int v8), none] (by simp only [am_sub, and_self]) ?_
      exact am_G.nd rfl
    · rw [if_neg c17] at H
      refine am_G.br (tgt := 92) rfl rfl (if_neg c17) rfl ?_
      refine am_G.fr 4 (g := (99, [some (.ref v0), some (.int v1), some (.int v2), some (.int v3), some (.int v4), some (.int v5), some (.int v6), some (.int v7), some (.int v8), some (.int v9)], [.int v9, .int v6, .ref v0, .int v7])) rfl ?_
      obtain ⟨x19, e18, H⟩ := am_bd H
      refine am_G.cl [.ref v0, .int v6, .int v9] [.int v7] (am_Cl.mono (by decide) (lX10_builtIn e18)) rfl rfl rfl rfl (Nat.le_of_ble_eq_true rfl) ?_
      refine am_G.fr 3 (g := (106, [some (.ref v0), some (.int v1), some (.int v2), some (.int v3), some (.int v4), some (.int v5), some (.int v6), some (.int (v7 + x19)), some (.int v8), some (.int v9)], [.ref v0])) rfl ?_
      obtain ⟨state20, e21, H⟩ := am_bd H
      refine am_G.gR rfl e21 ?_
      refine am_G.fr 4 (g := (116, [some (.ref v0), some (.int v1), some (.int v2), some (.int v3), some (.int v4), some (.int v5), some (.int v6), some (.int (v7 + x19)), some (.int v8), some (.int v9)], [.int (((989 : Int32)) + v9), .ref state20, .int (((989 : Int32)) + v9), .ref state20])) rfl ?_
      obtain ⟨x22, e23, H⟩ := am_bd H
      refine am_G.aI rfl e23 ?_
      refine am_G.fr 3 (g := (122, [some (.ref v0), some (.int v1), some (.int v2), some (.int v3), some (.int v4), some (.int v5), some (.int v6), some (.int (v7 + x19)), some (.int v8), some (.int v9)], [.int v9, .int v6, .ref v0, .int x22, .int (((989 : Int32)) + v9), .ref state20])) rfl ?_
      obtain ⟨x25, e24, H⟩ := am_bd H
      refine am_G.cl [.ref v0, .int v6, .int v9] [.int x22, .int (((989 : Int32)) + v9), .ref state20] (am_Cl.mono (by decide) (lX10_builtIn e24)) rfl rfl rfl rfl (Nat.le_of_ble_eq_true rfl) ?_
      refine am_G.fr 1 (g := (126, [some (.ref v0), some (.int v1), some (.int v2), some (.int v3), some (.int v4), some (.int v5), some (.int v6), some (.int (v7 + x19)), some (.int v8), some (.int v9)], [.int (x22 + x25), .int (((989 : Int32)) + v9), .ref state20])) rfl ?_
      obtain ⟨hh26, e27, H⟩ := am_bd H
      refine am_G.sI rfl e27 ?_
      refine am_G.fr 1 (g := (129, [some (.ref v0), some (.int v1), some (.int v2), some (.int v3), some (.int v4), some (.int v5), some (.int v6), some (.int (v7 + x19)), some (.int v8), some (.int v9)], [.int v8])) rfl ?_
      obtain ⟨js28, E35, H⟩ := am_bd H
      refine am_G.sq (t := ((153, [some (.ref v0), some (.int v1), some (.int v2), some (.int v3), some (.int v4), some (.int v5), some (.int v6), some (.int (v7 + x19)), none, some (.int v9)], [.int js28]), hh26)) ?_ ?_
      · clear H
        have H := E35
        clear E35
        by_cases c29 : v8 = 0
        · rw [if_pos c29] at H
          refine am_G.br (tgt := 152) rfl rfl (if_pos c29) rfl ?_
          refine am_G.fr 1 (g := (153, [some (.ref v0), some (.int v1), some (.int v2), some (.int v3), some (.int v4), some (.int v5), some (.int v6), some (.int (v7 + x19)), some (.int v8), some (.int v9)], [.int ((0 : Int32))])) rfl ?_
          obtain rfl := Option.some.inj H
          refine am_G.fg [some (.ref v0), some (.int v1), some (.int v2), some (.int v3), some (.int v4), some (.int v5), some (.int v6), some (.int (v7 + x19)), none, some (.int v9)] (by simp only [am_sub, and_self]) ?_
          exact am_G.nd rfl
        · rw [if_neg c29] at H
          refine am_G.br (tgt := 132) rfl rfl (if_neg c29) rfl ?_
          refine am_G.fr 1 (g := (133, [some (.ref v0), some (.int v1), some (.int v2), some (.int v3), some (.int v4), some (.int v5), some (.int v6), some (.int (v7 + x19)), some (.int v8), some (.int v9)], [.ref v0])) rfl ?_
          obtain ⟨state30, e31, H⟩ := am_bd H
          refine am_G.gR rfl e31 ?_
          refine am_G.fr 3 (g := (142, [some (.ref v0), some (.int v1), some (.int v2), some (.int v3), some (.int v4), some (.int v5), some (.int v6), some (.int (v7 + x19)), some (.int v8), some (.int v9)], [.int (((989 : Int32)) + v9), .ref state30])) rfl ?_
          obtain ⟨x32, e33, H⟩ := am_bd H
          refine am_G.aI rfl e33 ?_
          refine am_G.fr 1 (g := (145, [some (.ref v0), some (.int v1), some (.int v2), some (.int v3), some (.int v4), some (.int v5), some (.int v6), some (.int (v7 + x19)), some (.int v8), some (.int v9)], [.int ((9 : Int32)), .int x32])) rfl ?_
          by_cases c34 : ((9 : Int32)) < x32
          · rw [if_pos c34] at H
            refine am_G.br (tgt := 152) rfl rfl (if_pos c34) rfl ?_
            refine am_G.fr 1 (g := (153, [some (.ref v0), some (.int v1), some (.int v2), some (.int v3), some (.int v4), some (.int v5), some (.int v6), some (.int (v7 + x19)), some (.int v8), some (.int v9)], [.int ((0 : Int32))])) rfl ?_
            obtain rfl := Option.some.inj H
            refine am_G.fg [some (.ref v0), some (.int v1), some (.int v2), some (.int v3), some (.int v4), some (.int v5), some (.int v6), some (.int (v7 + x19)), none, some (.int v9)] (by simp only [am_sub, and_self]) ?_
            exact am_G.nd rfl
          · rw [if_neg c34] at H
            refine am_G.br (tgt := 148) rfl rfl (if_neg c34) rfl ?_
            refine am_G.fr 2 (g := (153, [some (.ref v0), some (.int v1), some (.int v2), some (.int v3), some (.int v4), some (.int v5), some (.int v6), some (.int (v7 + x19)), some (.int v8), some (.int v9)], [.int ((1 : Int32))])) rfl ?_
            obtain rfl := Option.some.inj H
            refine am_G.fg [some (.ref v0), some (.int v1), some (.int v2), some (.int v3), some (.int v4), some (.int v5), some (.int v6), some (.int (v7 + x19)), none, some (.int v9)] (by simp only [am_sub, and_self]) ?_
            exact am_G.nd rfl
      · clear E35
        refine am_G.fr 3 (g := (83, [some (.ref v0), some (.int v1), some (.int v2), some (.int v3), some (.int v4), some (.int v5), some (.int v6), some (.int (v7 + x19)), some (.int js28), some (.int (v9 + (1 : Int32)))], [])) rfl ?_
        exact ih _ _ _ _ _ _ _ _ _ _ _ _ _ _ H
set_option maxHeartbeats 4000000 in
set_option maxRecDepth 100000 in
theorem lX10_beds_L64 {sc : Nat × (Nat → Int32)} : ∀ (n : Nat) (v0 : Nat) (v1 : Int32) (v2 : Int32) (v3 : Int32) (v4 : Int32) (v5 : Int32) (v6 : Int32) (h : am_H) (w4 : Int32) (w5 : Int32) (h1 : am_H), fX10_beds_L64 n v0 v1 v2 v3 v4 v5 v6 h = some (w4, w5, h1) → am_G sc (am_Cl am_T am_N sc 8) (am_at kX10_beds) (fun t => t = ((227, [some (.ref v0), none, some (.int v2), none, some (.int w4), some (.int w5), none, none, none, none], []), h1)) ((64, [some (.ref v0), some (.int v1), some (.int v2), some (.int v3), some (.int v4), some (.int v5), some (.int v6), none, none, none], []), h) := by
  intro n
  induction n with
  | zero => intro _ _ _ _ _ _ _ _ _ _ _ H; cases H
  | succ n ih =>
    intro v0 v1 v2 v3 v4 v5 v6 h w4 w5 h1 H
    rw [fX10_beds_L64] at H
    refine am_G.fr 2 (g := (67, [some (.ref v0), some (.int v1), some (.int v2), some (.int v3), some (.int v4), some (.int v5), some (.int v6), none, none, none], [.int v3, .int v6])) rfl ?_
    by_cases c12 : v3 ≤ v6
    · rw [if_pos c12] at H
      refine am_G.br (tgt := 227) rfl rfl (if_pos c12) rfl ?_
      obtain ⟨rfl, rfl, rfl⟩ := am_inj3 H
      refine am_G.fg [some (.ref v0), none, some (.int v2), none, some (.int v4), some (.int v5), none, none, none, none] (by simp only [am_sub, and_self]) ?_
      exact am_G.nd rfl
    · rw [if_neg c12] at H
      refine am_G.br (tgt := 70) rfl rfl (if_neg c12) rfl ?_
      refine am_G.fr 1 (g := (71, [some (.ref v0), some (.int v1), some (.int v2), some (.int v3), some (.int v4), some (.int v5), some (.int v6), none, none, none], [.ref v0])) rfl ?_
      obtain ⟨hh14, e13, H⟩ := am_bd H
      refine am_G.cl [.ref v0] [] (am_Cl.mono (by decide) (lX10_triesNow e13)) rfl rfl rfl rfl (Nat.le_of_ble_eq_true rfl) ?_
      refine am_G.fr 6 (g := (83, [some (.ref v0), some (.int v1), some (.int v2), some (.int v3), some (.int v4), some (.int v5), some (.int v6), some (.int ((0 : Int32))), some (.int ((1 : Int32))), some (.int ((0 : Int32)))], [])) rfl ?_
      obtain ⟨lw36, lw37, hh38, E39, H⟩ := am_bd3 H
      refine am_G.sq (lX10_beds_L83 _ _ _ _ _ _ _ _ _ _ _ _ _ _ _ E39) ?_
      clear E39
      refine am_G.fr 1 (g := (163, [some (.ref v0), some (.int v1), some (.int v2), some (.int v3), some (.int v4), some (.int v5), some (.int v6), some (.int lw36), some (.int lw37), none], [.int lw37])) rfl ?_
      obtain ⟨js40, hh41, E59, H⟩ := am_bd2 H
      refine am_G.sq (t := ((191, [some (.ref v0), some (.int v1), some (.int v2), some (.int v3), some (.int v4), some (.int v5), some (.int v6), some (.int lw36), none, none], [.int js40]), hh41)) ?_ ?_
      · clear H
        have H := E59
        clear E59
        by_cases c42 : lw37 = 0
        · rw [if_pos c42] at H
          refine am_G.br (tgt := 190) rfl rfl (if_pos c42) rfl ?_
          refine am_G.fr 1 (g := (191, [some (.ref v0), some (.int v1), some (.int v2), some (.int v3), some (.int v4), some (.int v5), some (.int v6), some (.int lw36), some (.int lw37), none], [.int ((0 : Int32))])) rfl ?_
          obtain ⟨rfl, rfl⟩ := am_inj2 H
          refine am_G.fg [some (.ref v0), some (.int v1), some (.int v2), some (.int v3), some (.int v4), some (.int v5), some (.int v6), some (.int lw36), none, none] (by simp only [am_sub, and_self]) ?_
          exact am_G.nd rfl
        · rw [if_neg c42] at H
          refine am_G.br (tgt := 166) rfl rfl (if_neg c42) rfl ?_
          refine am_G.fr 1 (g := (168, [some (.ref v0), some (.int v1), some (.int v2), some (.int v3), some (.int v4), some (.int v5), some (.int v6), some (.int lw36), some (.int lw37), none], [.int v4])) rfl ?_
          by_cases c43 : v4 < 0
          · rw [if_pos c43] at H
            refine am_G.br (tgt := 178) rfl rfl (if_pos c43) rfl ?_
            refine am_G.fr 2 (g := (180, [some (.ref v0), some (.int v1), some (.int v2), some (.int v3), some (.int v4), some (.int v5), some (.int v6), some (.int lw36), some (.int lw37), none], [.int v1, .ref v0])) rfl ?_
            obtain ⟨x45, hh46, e44, H⟩ := am_bd2 H
            refine am_G.cl [.ref v0, .int v1] [] (am_Cl.mono (by decide) (lX10_isCalm e44)) rfl rfl rfl rfl (Nat.le_of_ble_eq_true rfl) ?_
            by_cases c47 : x45 = 0
            · rw [if_pos c47] at H
              refine am_G.br (tgt := 190) rfl rfl (if_pos c47) rfl ?_
              refine am_G.fr 1 (g := (191, [some (.ref v0), some (.int v1), some (.int v2), some (.int v3), some (.int v4), some (.int v5), some (.int v6), some (.int lw36), some (.int lw37), none], [.int ((0 : Int32))])) rfl ?_
              obtain ⟨rfl, rfl⟩ := am_inj2 H
              refine am_G.fg [some (.ref v0), some (.int v1), some (.int v2), some (.int v3), some (.int v4), some (.int v5), some (.int v6), some (.int lw36), none, none] (by simp only [am_sub, and_self]) ?_
              exact am_G.nd rfl
            · rw [if_neg c47] at H
              refine am_G.br (tgt := 186) rfl rfl (if_neg c47) rfl ?_
              refine am_G.fr 2 (g := (191, [some (.ref v0), some (.int v1), some (.int v2), some (.int v3), some (.int v4), some (.int v5), some (.int v6), some (.int lw36), some (.int lw37), none], [.int ((1 : Int32))])) rfl ?_
              obtain ⟨rfl, rfl⟩ := am_inj2 H
              refine am_G.fg [some (.ref v0), some (.int v1), some (.int v2), some (.int v3), some (.int v4), some (.int v5), some (.int v6), some (.int lw36), none, none] (by simp only [am_sub, and_self]) ?_
              exact am_G.nd rfl
          · rw [if_neg c43] at H
            refine am_G.br (tgt := 171) rfl rfl (if_neg c43) rfl ?_
            refine am_G.fr 2 (g := (175, [some (.ref v0), some (.int v1), some (.int v2), some (.int v3), some (.int v4), some (.int v5), some (.int v6), some (.int lw36), some (.int lw37), none], [.int v5, .int lw36])) rfl ?_
            by_cases c48 : v5 ≤ lw36
            · rw [if_pos c48] at H
              refine am_G.br (tgt := 190) rfl rfl (if_pos c48) rfl ?_
              refine am_G.fr 1 (g := (191, [some (.ref v0), some (.int v1), some (.int v2), some (.int v3), some (.int v4), some (.int v5), some (.int v6), some (.int lw36), some (.int lw37), none], [.int ((0 : Int32))])) rfl ?_
              obtain ⟨rfl, rfl⟩ := am_inj2 H
              refine am_G.fg [some (.ref v0), some (.int v1), some (.int v2), some (.int v3), some (.int v4), some (.int v5), some (.int v6), some (.int lw36), none, none] (by simp only [am_sub, and_self]) ?_
              exact am_G.nd rfl
            · rw [if_neg c48] at H
              refine am_G.br (tgt := 178) rfl rfl (if_neg c48) rfl ?_
              refine am_G.fr 2 (g := (180, [some (.ref v0), some (.int v1), some (.int v2), some (.int v3), some (.int v4), some (.int v5), some (.int v6), some (.int lw36), some (.int lw37), none], [.int v1, .ref v0])) rfl ?_
              obtain ⟨x50, hh51, e49, H⟩ := am_bd2 H
              refine am_G.cl [.ref v0, .int v1] [] (am_Cl.mono (by decide) (lX10_isCalm e49)) rfl rfl rfl rfl (Nat.le_of_ble_eq_true rfl) ?_
              by_cases c52 : x50 = 0
              · rw [if_pos c52] at H
                refine am_G.br (tgt := 190) rfl rfl (if_pos c52) rfl ?_
                refine am_G.fr 1 (g := (191, [some (.ref v0), some (.int v1), some (.int v2), some (.int v3), some (.int v4), some (.int v5), some (.int v6), some (.int lw36), some (.int lw37), none], [.int ((0 : Int32))])) rfl ?_
                obtain ⟨rfl, rfl⟩ := am_inj2 H
                refine am_G.fg [some (.ref v0), some (.int v1), some (.int v2), some (.int v3), some (.int v4), some (.int v5), some (.int v6), some (.int lw36), none, none] (by simp only [am_sub, and_self]) ?_
                exact am_G.nd rfl
              · rw [if_neg c52] at H
                refine am_G.br (tgt := 186) rfl rfl (if_neg c52) rfl ?_
                refine am_G.fr 2 (g := (191, [some (.ref v0), some (.int v1), some (.int v2), some (.int v3), some (.int v4), some (.int v5), some (.int v6), some (.int lw36), some (.int lw37), none], [.int ((1 : Int32))])) rfl ?_
                obtain ⟨rfl, rfl⟩ := am_inj2 H
                refine am_G.fg [some (.ref v0), some (.int v1), some (.int v2), some (.int v3), some (.int v4), some (.int v5), some (.int v6), some (.int lw36), none, none] (by simp only [am_sub, and_self]) ?_
                exact am_G.nd rfl
      · clear E59
        refine am_G.fr 2 (g := (195, [some (.ref v0), some (.int v1), some (.int v2), some (.int v3), some (.int v4), some (.int v5), some (.int v6), some (.int lw36), none, some (.int js40)], [.int js40])) rfl ?_
        obtain ⟨js53, E58, H⟩ := am_bd H
        refine am_G.sq (t := ((205, [some (.ref v0), some (.int v1), some (.int v2), some (.int v3), none, some (.int v5), some (.int v6), some (.int lw36), none, some (.int js40)], [.int js53]), hh41)) ?_ ?_
        · clear H
          have H := E58
          clear E58
          by_cases c54 : js40 = 0
          · rw [if_pos c54] at H
            refine am_G.br (tgt := 203) rfl rfl (if_pos c54) rfl ?_
            refine am_G.fr 1 (g := (205, [some (.ref v0), some (.int v1), some (.int v2), some (.int v3), some (.int v4), some (.int v5), some (.int v6), some (.int lw36), none, some (.int js40)], [.int v4])) rfl ?_
            obtain rfl := Option.some.inj H
            refine am_G.fg [some (.ref v0), some (.int v1), some (.int v2), some (.int v3), none, some (.int v5), some (.int v6), some (.int lw36), none, some (.int js40)] (by simp only [am_sub, and_self]) ?_
            exact am_G.nd rfl
          · rw [if_neg c54] at H
            refine am_G.br (tgt := 198) rfl rfl (if_neg c54) rfl ?_
            refine am_G.fr 2 (g := (205, [some (.ref v0), some (.int v1), some (.int v2), some (.int v3), some (.int v4), some (.int v5), some (.int v6), some (.int lw36), none, some (.int js40)], [.int v6])) rfl ?_
            obtain rfl := Option.some.inj H
            refine am_G.fg [some (.ref v0), some (.int v1), some (.int v2), some (.int v3), none, some (.int v5), some (.int v6), some (.int lw36), none, some (.int js40)] (by simp only [am_sub, and_self]) ?_
            exact am_G.nd rfl
        · clear E58
          refine am_G.fr 2 (g := (209, [some (.ref v0), some (.int v1), some (.int v2), some (.int v3), some (.int js53), some (.int v5), some (.int v6), some (.int lw36), none, some (.int js40)], [.int js40])) rfl ?_
          obtain ⟨js55, E57, H⟩ := am_bd H
          refine am_G.sq (t := ((219, [some (.ref v0), some (.int v1), some (.int v2), some (.int v3), some (.int js53), none, some (.int v6), none, none, none], [.int js55]), hh41)) ?_ ?_
          · clear H
            have H := E57
            clear E57
            by_cases c56 : js40 = 0
            · rw [if_pos c56] at H
              refine am_G.br (tgt := 217) rfl rfl (if_pos c56) rfl ?_
              refine am_G.fr 1 (g := (219, [some (.ref v0), some (.int v1), some (.int v2), some (.int v3), some (.int js53), some (.int v5), some (.int v6), some (.int lw36), none, some (.int js40)], [.int v5])) rfl ?_
              obtain rfl := Option.some.inj H
              refine am_G.fg [some (.ref v0), some (.int v1), some (.int v2), some (.int v3), some (.int js53), none, some (.int v6), none, none, none] (by simp only [am_sub, and_self]) ?_
              exact am_G.nd rfl
            · rw [if_neg c56] at H
              refine am_G.br (tgt := 212) rfl rfl (if_neg c56) rfl ?_
              refine am_G.fr 2 (g := (219, [some (.ref v0), some (.int v1), some (.int v2), some (.int v3), some (.int js53), some (.int v5), some (.int v6), some (.int lw36), none, some (.int js40)], [.int lw36])) rfl ?_
              obtain rfl := Option.some.inj H
              refine am_G.fg [some (.ref v0), some (.int v1), some (.int v2), some (.int v3), some (.int js53), none, some (.int v6), none, none, none] (by simp only [am_sub, and_self]) ?_
              exact am_G.nd rfl
          · clear E57
            refine am_G.fr 3 (g := (64, [some (.ref v0), some (.int v1), some (.int v2), some (.int v3), some (.int js53), some (.int js55), some (.int (v6 + (1 : Int32))), none, none, none], [])) rfl ?_
            exact ih _ _ _ _ _ _ _ _ _ _ _ H
set_option maxHeartbeats 4000000 in
set_option maxRecDepth 100000 in
theorem lX10_beds {sc : Nat × (Nat → Int32)} {a0 : Nat} {a1 : Int32} {a2 : Int32} {h : am_H} {r : Int32} {h1 : am_H} (H : fX10_beds a0 a1 a2 h = some (r, h1)) : am_Cl am_T am_N sc 9 215 [.ref a0, .int a1, .int a2] h (some (.int r)) h1 := by
  unfold fX10_beds at H
  obtain ⟨_, hO, H⟩ := am_bd H
  obtain ⟨fs0, hO⟩ := am_isO_ok hO
  refine am_mk (q := qX10_beds) rfl (fun _ => ⟨_, _, _, _, _, rfl, hO, rfl, rfl⟩) (fun z => absurd z (by decide)) (Nat.le_of_ble_eq_true rfl) rfl ?_
  show am_G sc (am_Cl am_T am_N sc 8) (am_at kX10_beds) (fun t => t.2 = h1 ∧ am_ret 1 (am_at kX10_beds) t.1 = some (some (.int r))) ((0, [some (.ref a0), some (.int a1), some (.int a2), none, none, none, none, none, none, none], []), h)
  refine am_G.fr 2 (g := (2, [some (.ref a0), some (.int a1), some (.int a2), none, none, none, none, none, none, none], [.int ((0 : Int32)), .ref a0])) rfl ?_
  obtain ⟨hh1, e2, H⟩ := am_bd H
  refine am_G.pF rfl e2 ?_
  refine am_G.fr 3 (g := (9, [some (.ref a0), some (.int a1), some (.int a2), none, none, none, none, none, none, none], [.int ((36 : Int32)), .int ((1 : Int32)), .int a1])) rfl ?_
  obtain ⟨x4, e3, H⟩ := am_bd H
  refine am_G.cl [.int a1, .int ((1 : Int32)), .int ((36 : Int32))] [] (am_Cl.mono (by decide) (lX10_within e3)) rfl rfl rfl rfl (Nat.le_of_ble_eq_true rfl) ?_
  by_cases c5 : x4 = 0
  · rw [if_pos c5] at H
    refine am_G.br (tgt := 28) rfl rfl (if_pos c5) rfl ?_
    refine am_G.fr 1 (g := (30, [some (.ref a0), some (.int a1), some (.int a2), none, none, none, none, none, none, none], [.int ((-2 : Int32))])) rfl ?_
    obtain ⟨rfl, rfl⟩ := am_inj2 H
    exact am_G.nd ⟨rfl, rfl⟩
  · rw [if_neg c5] at H
    refine am_G.br (tgt := 15) rfl rfl (if_neg c5) rfl ?_
    refine am_G.fr 2 (g := (17, [some (.ref a0), some (.int a1), some (.int a2), none, none, none, none, none, none, none], [.int ((-1 : Int32)), .int a2])) rfl ?_
    by_cases c6 : a2 = ((-1 : Int32))
    · rw [if_pos c6] at H
      refine am_G.br (tgt := 31) rfl rfl (if_pos c6) rfl ?_
      refine am_G.fr 4 (g := (36, [some (.ref a0), some (.int a1), some (.int a2), some (.int ((1 : Int32))), some (.int ((0 : Int32))), none, none, none, none, none], [])) rfl ?_
      obtain ⟨lw10, E11, H⟩ := am_bd H
      refine am_G.sq (lX10_beds_L36 _ _ _ _ _ _ _ _ E11) ?_
      clear E11
      refine am_G.fr 6 (g := (64, [some (.ref a0), some (.int a1), some (.int a2), some (.int lw10), some (.int ((-1 : Int32))), some (.int ((0 : Int32))), some (.int ((0 : Int32))), none, none, none], [])) rfl ?_
      obtain ⟨lw60, lw61, hh62, E63, H⟩ := am_bd3 H
      refine am_G.sq (lX10_beds_L64 _ _ _ _ _ _ _ _ _ _ _ _ E63) ?_
      clear E63
      refine am_G.fr 1 (g := (229, [some (.ref a0), none, some (.int a2), none, some (.int lw60), some (.int lw61), none, none, none, none], [.int lw60])) rfl ?_
      obtain ⟨js64, E69, H⟩ := am_bd H
      refine am_G.sq (t := ((254, [none, none, none, none, none, none, none, none, none, none], [.int js64]), hh62)) ?_ ?_
      · clear H
        have H := E69
        clear E69
        by_cases c65 : 0 ≤ lw60
        · rw [if_pos c65] at H
          refine am_G.br (tgt := 237) rfl rfl (if_pos c65) rfl ?_
          refine am_G.fr 2 (g := (239, [some (.ref a0), none, some (.int a2), none, some (.int lw60), some (.int lw61), none, none, none, none], [.int ((-1 : Int32)), .int a2])) rfl ?_
          by_cases c66 : ¬ a2 = ((-1 : Int32))
          · rw [if_pos c66] at H
            refine am_G.br (tgt := 247) rfl rfl (if_pos c66) rfl ?_
            refine am_G.fr 3 (g := (251, [some (.ref a0), none, some (.int a2), none, some (.int lw60), some (.int lw61), none, none, none, none], [.int a2, .int lw60, .ref a0])) rfl ?_
            obtain ⟨x68, e67, H⟩ := am_bd H
            refine am_G.cl [.ref a0, .int lw60, .int a2] [] (am_Cl.mono (by decide) (lX10_builtIn e67)) rfl rfl rfl rfl (Nat.le_of_ble_eq_true rfl) ?_
            obtain rfl := Option.some.inj H
            refine am_G.fg [none, none, none, none, none, none, none, none, none, none] (by simp only [am_sub, and_self]) ?_
            exact am_G.nd rfl
          · rw [if_neg c66] at H
            refine am_G.br (tgt := 242) rfl rfl (if_neg c66) rfl ?_
            refine am_G.fr 2 (g := (254, [some (.ref a0), none, some (.int a2), none, some (.int lw60), some (.int lw61), none, none, none, none], [.int lw61])) rfl ?_
            obtain rfl := Option.some.inj H
            refine am_G.fg [none, none, none, none, none, none, none, none, none, none] (by simp only [am_sub, and_self]) ?_
            exact am_G.nd rfl
        · rw [if_neg c65] at H
          refine am_G.br (tgt := 232) rfl rfl (if_neg c65) rfl ?_
          refine am_G.fr 2 (g := (254, [some (.ref a0), none, some (.int a2), none, some (.int lw60), some (.int lw61), none, none, none, none], [.int ((-2 : Int32))])) rfl ?_
          obtain rfl := Option.some.inj H
          refine am_G.fg [none, none, none, none, none, none, none, none, none, none] (by simp only [am_sub, and_self]) ?_
          exact am_G.nd rfl
      · clear E69
        obtain ⟨rfl, rfl⟩ := am_inj2 H
        exact am_G.nd ⟨rfl, rfl⟩
    · rw [if_neg c6] at H
      refine am_G.br (tgt := 20) rfl rfl (if_neg c6) rfl ?_
      refine am_G.fr 2 (g := (22, [some (.ref a0), some (.int a1), some (.int a2), none, none, none, none, none, none, none], [.int a2, .ref a0])) rfl ?_
      obtain ⟨x71, e70, H⟩ := am_bd H
      refine am_G.cl [.ref a0, .int a2] [] (am_Cl.mono (by decide) (lX10_isHouse e70)) rfl rfl rfl rfl (Nat.le_of_ble_eq_true rfl) ?_
      by_cases c72 : ¬ x71 = 0
      · rw [if_pos c72] at H
        refine am_G.br (tgt := 31) rfl rfl (if_pos c72) rfl ?_
        refine am_G.fr 4 (g := (36, [some (.ref a0), some (.int a1), some (.int a2), some (.int ((1 : Int32))), some (.int ((0 : Int32))), none, none, none, none, none], [])) rfl ?_
        obtain ⟨lw73, E74, H⟩ := am_bd H
        refine am_G.sq (lX10_beds_L36 _ _ _ _ _ _ _ _ E74) ?_
        clear E74
        refine am_G.fr 6 (g := (64, [some (.ref a0), some (.int a1), some (.int a2), some (.int lw73), some (.int ((-1 : Int32))), some (.int ((0 : Int32))), some (.int ((0 : Int32))), none, none, none], [])) rfl ?_
        obtain ⟨lw75, lw76, hh77, E78, H⟩ := am_bd3 H
        refine am_G.sq (lX10_beds_L64 _ _ _ _ _ _ _ _ _ _ _ _ E78) ?_
        clear E78
        refine am_G.fr 1 (g := (229, [some (.ref a0), none, some (.int a2), none, some (.int lw75), some (.int lw76), none, none, none, none], [.int lw75])) rfl ?_
        obtain ⟨js79, E84, H⟩ := am_bd H
        refine am_G.sq (t := ((254, [none, none, none, none, none, none, none, none, none, none], [.int js79]), hh77)) ?_ ?_
        · clear H
          have H := E84
          clear E84
          by_cases c80 : 0 ≤ lw75
          · rw [if_pos c80] at H
            refine am_G.br (tgt := 237) rfl rfl (if_pos c80) rfl ?_
            refine am_G.fr 2 (g := (239, [some (.ref a0), none, some (.int a2), none, some (.int lw75), some (.int lw76), none, none, none, none], [.int ((-1 : Int32)), .int a2])) rfl ?_
            by_cases c81 : ¬ a2 = ((-1 : Int32))
            · rw [if_pos c81] at H
              refine am_G.br (tgt := 247) rfl rfl (if_pos c81) rfl ?_
              refine am_G.fr 3 (g := (251, [some (.ref a0), none, some (.int a2), none, some (.int lw75), some (.int lw76), none, none, none, none], [.int a2, .int lw75, .ref a0])) rfl ?_
              obtain ⟨x83, e82, H⟩ := am_bd H
              refine am_G.cl [.ref a0, .int lw75, .int a2] [] (am_Cl.mono (by decide) (lX10_builtIn e82)) rfl rfl rfl rfl (Nat.le_of_ble_eq_true rfl) ?_
              obtain rfl := Option.some.inj H
              refine am_G.fg [none, none, none, none, none, none, none, none, none, none] (by simp only [am_sub, and_self]) ?_
              exact am_G.nd rfl
            · rw [if_neg c81] at H
              refine am_G.br (tgt := 242) rfl rfl (if_neg c81) rfl ?_
              refine am_G.fr 2 (g := (254, [some (.ref a0), none, some (.int a2), none, some (.int lw75), some (.int lw76), none, none, none, none], [.int lw76])) rfl ?_
              obtain rfl := Option.some.inj H
              refine am_G.fg [none, none, none, none, none, none, none, none, none, none] (by simp only [am_sub, and_self]) ?_
              exact am_G.nd rfl
          · rw [if_neg c80] at H
            refine am_G.br (tgt := 232) rfl rfl (if_neg c80) rfl ?_
            refine am_G.fr 2 (g := (254, [some (.ref a0), none, some (.int a2), none, some (.int lw75), some (.int lw76), none, none, none, none], [.int ((-2 : Int32))])) rfl ?_
            obtain rfl := Option.some.inj H
            refine am_G.fg [none, none, none, none, none, none, none, none, none, none] (by simp only [am_sub, and_self]) ?_
            exact am_G.nd rfl
        · clear E84
          obtain ⟨rfl, rfl⟩ := am_inj2 H
          exact am_G.nd ⟨rfl, rfl⟩
      · rw [if_neg c72] at H
        refine am_G.br (tgt := 28) rfl rfl (if_neg c72) rfl ?_
        refine am_G.fr 1 (g := (30, [some (.ref a0), some (.int a1), some (.int a2), none, none, none, none, none, none, none], [.int ((-2 : Int32))])) rfl ?_
        obtain ⟨rfl, rfl⟩ := am_inj2 H
        exact am_G.nd ⟨rfl, rfl⟩
def fX10_defer_L45 : Nat → Nat → Int32 → Int32 → Int32 → Int32 → Int32 → Int32 → am_H → Option (Int32 × am_H)
  | 0, _, _, _, _, _, _, _, _ => none
  | n + 1, v0, v1, v2, v3, v4, v5, v6, h =>
    if ((24 : Int32)) ≤ v6 then
      some (v5, h)
    else
      (fX10_passes v0 ((987 : Int32)) h).bind fun hh15 =>
      (fX10_somewhere v0 ((987 : Int32)) hh15).bind fun x17 =>
      (fX10_bits x17 hh15).bind fun x19 =>
      Option.bind (
        if x19 ≤ v5 then
          some v5
        else
          (fX10_somewhere v0 ((987 : Int32)) hh15).bind fun x23 =>
          (fX10_bits x23 hh15).bind fun x25 =>
          some x25) fun js20 =>
      fX10_defer_L45 n v0 v1 v2 v3 v4 js20 (v6 + (1 : Int32)) hh15
def fX10_defer_L12 : Nat → Nat → Int32 → Int32 → Int32 → Int32 → am_H → Option (Int32 × am_H)
  | 0, _, _, _, _, _, _ => none
  | n + 1, v0, v1, v2, v3, v4, h =>
    if ((12 : Int32)) ≤ v4 then
      some (v2, h)
    else
      (fX10_isDay v0 v1 h).bind fun x5 =>
      if x5 = 0 then
        some (v2, h)
      else
        (am_gR h v0 9 27).bind fun dates7 =>
        (am_sI h 0 dates7 v1 v4).bind fun hh9 =>
        (fX10_triesNow v0 hh9).bind fun hh12 =>
        am_b2 (fX10_defer_L45 4000 v0 v1 v2 v3 v4 ((0 : Int32)) ((0 : Int32)) hh12) fun lw27 hh28 =>
        Option.bind (
          if v2 < 0 then
            some ((1 : Int32))
          else
            if v3 ≤ lw27 then
              some ((0 : Int32))
            else
              some ((1 : Int32))) fun js30 =>
        Option.bind (
          if js30 = 0 then
            some v2
          else
            some v4) fun js33 =>
        Option.bind (
          if js30 = 0 then
            some v3
          else
            some lw27) fun js35 =>
        fX10_defer_L12 n v0 v1 js33 js35 (v4 + (1 : Int32)) hh28
def fX10_defer (a0 : Nat) (a1 : Int32) (h : am_H) : Option (Int32 × am_H) :=
  (am_isO h a0 9).bind fun _ =>
  (am_pF h a0 9 0 (.int ((0 : Int32)))).bind fun hh1 =>
  am_b2 (fX10_defer_L12 4000 a0 a1 ((-1 : Int32)) ((0 : Int32)) ((0 : Int32)) hh1) fun lw40 hh41 =>
  (fX10_datesAsTold a0 hh41).bind fun hh44 =>
  some (lw40, hh44)
set_option maxHeartbeats 4000000 in
set_option maxRecDepth 100000 in
theorem lX10_defer_L45 {sc : Nat × (Nat → Int32)} : ∀ (n : Nat) (v0 : Nat) (v1 : Int32) (v2 : Int32) (v3 : Int32) (v4 : Int32) (v5 : Int32) (v6 : Int32) (h : am_H) (w5 : Int32) (h1 : am_H), fX10_defer_L45 n v0 v1 v2 v3 v4 v5 v6 h = some (w5, h1) → am_G sc (am_Cl am_T am_N sc 7) (am_at kX10_defer) (fun t => t = ((97, [some (.ref v0), some (.int v1), some (.int v2), some (.int v3), some (.int v4), some (.int w5), none], []), h1)) ((45, [some (.ref v0), some (.int v1), some (.int v2), some (.int v3), some (.int v4), some (.int v5), some (.int v6)], []), h) := by
  intro n
  induction n with
  | zero => intro _ _ _ _ _ _ _ _ _ _ H; cases H
  | succ n ih =>
    intro v0 v1 v2 v3 v4 v5 v6 h w5 h1 H
    rw [fX10_defer_L45] at H
    refine am_G.fr 2 (g := (49, [some (.ref v0), some (.int v1), some (.int v2), some (.int v3), some (.int v4), some (.int v5), some (.int v6)], [.int ((24 : Int32)), .int v6])) rfl ?_
    by_cases c13 : ((24 : Int32)) ≤ v6
    · rw [if_pos c13] at H
      refine am_G.br (tgt := 97) rfl rfl (if_pos c13) rfl ?_
      obtain ⟨rfl, rfl⟩ := am_inj2 H
      refine am_G.fg [some (.ref v0), some (.int v1), some (.int v2), some (.int v3), some (.int v4), some (.int v5), none] (by simp only [am_sub, and_self]) ?_
      exact am_G.nd rfl
    · rw [if_neg c13] at H
      refine am_G.br (tgt := 52) rfl rfl (if_neg c13) rfl ?_
      refine am_G.fr 2 (g := (56, [some (.ref v0), some (.int v1), some (.int v2), some (.int v3), some (.int v4), some (.int v5), some (.int v6)], [.int ((987 : Int32)), .ref v0])) rfl ?_
      obtain ⟨hh15, e14, H⟩ := am_bd H
      refine am_G.cl [.ref v0, .int ((987 : Int32))] [] (am_Cl.mono (by decide) (lX10_passes e14)) rfl rfl rfl rfl (Nat.le_of_ble_eq_true rfl) ?_
      refine am_G.fr 2 (g := (63, [some (.ref v0), some (.int v1), some (.int v2), some (.int v3), some (.int v4), some (.int v5), some (.int v6)], [.int ((987 : Int32)), .ref v0])) rfl ?_
      obtain ⟨x17, e16, H⟩ := am_bd H
      refine am_G.cl [.ref v0, .int ((987 : Int32))] [] (am_Cl.mono (by decide) (lX10_somewhere e16)) rfl rfl rfl rfl (Nat.le_of_ble_eq_true rfl) ?_
      obtain ⟨x19, e18, H⟩ := am_bd H
      refine am_G.cl [.int x17] [] (am_Cl.mono (by decide) (lX10_bits e18)) rfl rfl rfl rfl (Nat.le_of_ble_eq_true rfl) ?_
      refine am_G.fr 1 (g := (71, [some (.ref v0), some (.int v1), some (.int v2), some (.int v3), some (.int v4), some (.int v5), some (.int v6)], [.int v5, .int x19])) rfl ?_
      obtain ⟨js20, E26, H⟩ := am_bd H
      refine am_G.sq (t := ((89, [some (.ref v0), some (.int v1), some (.int v2), some (.int v3), some (.int v4), none, some (.int v6)], [.int js20]), hh15)) ?_ ?_
      · clear H
        have H := E26
        clear E26
        by_cases c21 : x19 ≤ v5
        · rw [if_pos c21] at H
          refine am_G.br (tgt := 87) rfl rfl (if_pos c21) rfl ?_
          refine am_G.fr 1 (g := (89, [some (.ref v0), some (.int v1), some (.int v2), some (.int v3), some (.int v4), some (.int v5), some (.int v6)], [.int v5])) rfl ?_
          obtain rfl := Option.some.inj H
          refine am_G.fg [some (.ref v0), some (.int v1), some (.int v2), some (.int v3), some (.int v4), none, some (.int v6)] (by simp only [am_sub, and_self]) ?_
          exact am_G.nd rfl
        · rw [if_neg c21] at H
          refine am_G.br (tgt := 74) rfl rfl (if_neg c21) rfl ?_
          refine am_G.fr 2 (g := (78, [some (.ref v0), some (.int v1), some (.int v2), some (.int v3), some (.int v4), some (.int v5), some (.int v6)], [.int ((987 : Int32)), .ref v0])) rfl ?_
          obtain ⟨x23, e22, H⟩ := am_bd H
          refine am_G.cl [.ref v0, .int ((987 : Int32))] [] (am_Cl.mono (by decide) (lX10_somewhere e22)) rfl rfl rfl rfl (Nat.le_of_ble_eq_true rfl) ?_
          obtain ⟨x25, e24, H⟩ := am_bd H
          refine am_G.cl [.int x23] [] (am_Cl.mono (by decide) (lX10_bits e24)) rfl rfl rfl rfl (Nat.le_of_ble_eq_true rfl) ?_
          refine am_G.fr 1 (g := (89, [some (.ref v0), some (.int v1), some (.int v2), some (.int v3), some (.int v4), some (.int v5), some (.int v6)], [.int x25])) rfl ?_
          obtain rfl := Option.some.inj H
          refine am_G.fg [some (.ref v0), some (.int v1), some (.int v2), some (.int v3), some (.int v4), none, some (.int v6)] (by simp only [am_sub, and_self]) ?_
          exact am_G.nd rfl
      · clear E26
        refine am_G.fr 3 (g := (45, [some (.ref v0), some (.int v1), some (.int v2), some (.int v3), some (.int v4), some (.int js20), some (.int (v6 + (1 : Int32)))], [])) rfl ?_
        exact ih _ _ _ _ _ _ _ _ _ _ H
set_option maxHeartbeats 4000000 in
set_option maxRecDepth 100000 in
theorem lX10_defer_L12 {sc : Nat × (Nat → Int32)} : ∀ (n : Nat) (v0 : Nat) (v1 : Int32) (v2 : Int32) (v3 : Int32) (v4 : Int32) (h : am_H) (w2 : Int32) (h1 : am_H), fX10_defer_L12 n v0 v1 v2 v3 v4 h = some (w2, h1) → am_G sc (am_Cl am_T am_N sc 7) (am_at kX10_defer) (fun t => t = ((144, [some (.ref v0), none, some (.int w2), none, none, none, none], []), h1)) ((12, [some (.ref v0), some (.int v1), some (.int v2), some (.int v3), some (.int v4), none, none], []), h) := by
  intro n
  induction n with
  | zero => intro _ _ _ _ _ _ _ _ H; cases H
  | succ n ih =>
    intro v0 v1 v2 v3 v4 h w2 h1 H
    rw [fX10_defer_L12] at H
    refine am_G.fr 2 (g := (16, [some (.ref v0), some (.int v1), some (.int v2), some (.int v3), some (.int v4), none, none], [.int ((12 : Int32)), .int v4])) rfl ?_
    by_cases c3 : ((12 : Int32)) ≤ v4
    · rw [if_pos c3] at H
      refine am_G.br (tgt := 144) rfl rfl (if_pos c3) rfl ?_
      obtain ⟨rfl, rfl⟩ := am_inj2 H
      refine am_G.fg [some (.ref v0), none, some (.int v2), none, none, none, none] (by simp only [am_sub, and_self]) ?_
      exact am_G.nd rfl
    · rw [if_neg c3] at H
      refine am_G.br (tgt := 19) rfl rfl (if_neg c3) rfl ?_
      refine am_G.fr 2 (g := (21, [some (.ref v0), some (.int v1), some (.int v2), some (.int v3), some (.int v4), none, none], [.int v1, .ref v0])) rfl ?_
      obtain ⟨x5, e4, H⟩ := am_bd H
      refine am_G.cl [.ref v0, .int v1] [] (am_Cl.mono (by decide) (lX10_isDay e4)) rfl rfl rfl rfl (Nat.le_of_ble_eq_true rfl) ?_
      by_cases c6 : x5 = 0
      · rw [if_pos c6] at H
        refine am_G.br (tgt := 144) rfl rfl (if_pos c6) rfl ?_
        obtain ⟨rfl, rfl⟩ := am_inj2 H
        refine am_G.fg [some (.ref v0), none, some (.int v2), none, none, none, none] (by simp only [am_sub, and_self]) ?_
        exact am_G.nd rfl
      · rw [if_neg c6] at H
        refine am_G.br (tgt := 27) rfl rfl (if_neg c6) rfl ?_
        refine am_G.fr 1 (g := (28, [some (.ref v0), some (.int v1), some (.int v2), some (.int v3), some (.int v4), none, none], [.ref v0])) rfl ?_
        obtain ⟨dates7, e8, H⟩ := am_bd H
        refine am_G.gR rfl e8 ?_
        refine am_G.fr 2 (g := (34, [some (.ref v0), some (.int v1), some (.int v2), some (.int v3), some (.int v4), none, none], [.int v4, .int v1, .ref dates7])) rfl ?_
        obtain ⟨hh9, e10, H⟩ := am_bd H
        refine am_G.sI rfl e10 ?_
        refine am_G.fr 1 (g := (36, [some (.ref v0), some (.int v1), some (.int v2), some (.int v3), some (.int v4), none, none], [.ref v0])) rfl ?_
        obtain ⟨hh12, e11, H⟩ := am_bd H
        refine am_G.cl [.ref v0] [] (am_Cl.mono (by decide) (lX10_triesNow e11)) rfl rfl rfl rfl (Nat.le_of_ble_eq_true rfl) ?_
        refine am_G.fr 4 (g := (45, [some (.ref v0), some (.int v1), some (.int v2), some (.int v3), some (.int v4), some (.int ((0 : Int32))), some (.int ((0 : Int32)))], [])) rfl ?_
        obtain ⟨lw27, hh28, E29, H⟩ := am_bd2 H
        refine am_G.sq (lX10_defer_L45 _ _ _ _ _ _ _ _ _ _ _ E29) ?_
        clear E29
        refine am_G.fr 1 (g := (98, [some (.ref v0), some (.int v1), some (.int v2), some (.int v3), some (.int v4), some (.int lw27), none], [.int v2])) rfl ?_
        obtain ⟨js30, E39, H⟩ := am_bd H
        refine am_G.sq (t := ((112, [some (.ref v0), some (.int v1), some (.int v2), some (.int v3), some (.int v4), some (.int lw27), none], [.int js30]), hh28)) ?_ ?_
        · clear H
          have H := E39
          clear E39
          by_cases c31 : v2 < 0
          · rw [if_pos c31] at H
            refine am_G.br (tgt := 107) rfl rfl (if_pos c31) rfl ?_
            refine am_G.fr 2 (g := (112, [some (.ref v0), some (.int v1), some (.int v2), some (.int v3), some (.int v4), some (.int lw27), none], [.int ((1 : Int32))])) rfl ?_
            obtain rfl := Option.some.inj H
            exact am_G.nd rfl
          · rw [if_neg c31] at H
            refine am_G.br (tgt := 101) rfl rfl (if_neg c31) rfl ?_
            refine am_G.fr 2 (g := (104, [some (.ref v0), some (.int v1), some (.int v2), some (.int v3), some (.int v4), some (.int lw27), none], [.int v3, .int lw27])) rfl ?_
            by_cases c32 : v3 ≤ lw27
            · rw [if_pos c32] at H
              refine am_G.br (tgt := 111) rfl rfl (if_pos c32) rfl ?_
              refine am_G.fr 1 (g := (112, [some (.ref v0), some (.int v1), some (.int v2), some (.int v3), some (.int v4), some (.int lw27), none], [.int ((0 : Int32))])) rfl ?_
              obtain rfl := Option.some.inj H
              exact am_G.nd rfl
            · rw [if_neg c32] at H
              refine am_G.br (tgt := 107) rfl rfl (if_neg c32) rfl ?_
              refine am_G.fr 2 (g := (112, [some (.ref v0), some (.int v1), some (.int v2), some (.int v3), some (.int v4), some (.int lw27), none], [.int ((1 : Int32))])) rfl ?_
              obtain rfl := Option.some.inj H
              exact am_G.nd rfl
        · clear E39
          refine am_G.fr 2 (g := (116, [some (.ref v0), some (.int v1), some (.int v2), some (.int v3), some (.int v4), some (.int lw27), some (.int js30)], [.int js30])) rfl ?_
          obtain ⟨js33, E38, H⟩ := am_bd H
          refine am_G.sq (t := ((125, [some (.ref v0), some (.int v1), none, some (.int v3), some (.int v4), some (.int lw27), some (.int js30)], [.int js33]), hh28)) ?_ ?_
          · clear H
            have H := E38
            clear E38
            by_cases c34 : js30 = 0
            · rw [if_pos c34] at H
              refine am_G.br (tgt := 124) rfl rfl (if_pos c34) rfl ?_
              refine am_G.fr 1 (g := (125, [some (.ref v0), some (.int v1), some (.int v2), some (.int v3), some (.int v4), some (.int lw27), some (.int js30)], [.int v2])) rfl ?_
              obtain rfl := Option.some.inj H
              refine am_G.fg [some (.ref v0), some (.int v1), none, some (.int v3), some (.int v4), some (.int lw27), some (.int js30)] (by simp only [am_sub, and_self]) ?_
              exact am_G.nd rfl
            · rw [if_neg c34] at H
              refine am_G.br (tgt := 119) rfl rfl (if_neg c34) rfl ?_
              refine am_G.fr 2 (g := (125, [some (.ref v0), some (.int v1), some (.int v2), some (.int v3), some (.int v4), some (.int lw27), some (.int js30)], [.int v4])) rfl ?_
              obtain rfl := Option.some.inj H
              refine am_G.fg [some (.ref v0), some (.int v1), none, some (.int v3), some (.int v4), some (.int lw27), some (.int js30)] (by simp only [am_sub, and_self]) ?_
              exact am_G.nd rfl
          · clear E38
            refine am_G.fr 2 (g := (128, [some (.ref v0), some (.int v1), some (.int js33), some (.int v3), some (.int v4), some (.int lw27), some (.int js30)], [.int js30])) rfl ?_
            obtain ⟨js35, E37, H⟩ := am_bd H
            refine am_G.sq (t := ((137, [some (.ref v0), some (.int v1), some (.int js33), none, some (.int v4), none, none], [.int js35]), hh28)) ?_ ?_
            · clear H
              have H := E37
              clear E37
              by_cases c36 : js30 = 0
              · rw [if_pos c36] at H
                refine am_G.br (tgt := 136) rfl rfl (if_pos c36) rfl ?_
                refine am_G.fr 1 (g := (137, [some (.ref v0), some (.int v1), some (.int js33), some (.int v3), some (.int v4), some (.int lw27), some (.int js30)], [.int v3])) rfl ?_
                obtain rfl := Option.some.inj H
                refine am_G.fg [some (.ref v0), some (.int v1), some (.int js33), none, some (.int v4), none, none] (by simp only [am_sub, and_self]) ?_
                exact am_G.nd rfl
              · rw [if_neg c36] at H
                refine am_G.br (tgt := 131) rfl rfl (if_neg c36) rfl ?_
                refine am_G.fr 2 (g := (137, [some (.ref v0), some (.int v1), some (.int js33), some (.int v3), some (.int v4), some (.int lw27), some (.int js30)], [.int lw27])) rfl ?_
                obtain rfl := Option.some.inj H
                refine am_G.fg [some (.ref v0), some (.int v1), some (.int js33), none, some (.int v4), none, none] (by simp only [am_sub, and_self]) ?_
                exact am_G.nd rfl
            · clear E37
              refine am_G.fr 3 (g := (12, [some (.ref v0), some (.int v1), some (.int js33), some (.int js35), some (.int (v4 + (1 : Int32))), none, none], [])) rfl ?_
              exact ih _ _ _ _ _ _ _ _ H
set_option maxHeartbeats 4000000 in
set_option maxRecDepth 100000 in
theorem lX10_defer {sc : Nat × (Nat → Int32)} {a0 : Nat} {a1 : Int32} {h : am_H} {r : Int32} {h1 : am_H} (H : fX10_defer a0 a1 h = some (r, h1)) : am_Cl am_T am_N sc 8 220 [.ref a0, .int a1] h (some (.int r)) h1 := by
  unfold fX10_defer at H
  obtain ⟨_, hO, H⟩ := am_bd H
  obtain ⟨fs0, hO⟩ := am_isO_ok hO
  refine am_mk (q := qX10_defer) rfl (fun _ => ⟨_, _, _, _, _, rfl, hO, rfl, rfl⟩) (fun z => absurd z (by decide)) (Nat.le_of_ble_eq_true rfl) rfl ?_
  show am_G sc (am_Cl am_T am_N sc 7) (am_at kX10_defer) (fun t => t.2 = h1 ∧ am_ret 1 (am_at kX10_defer) t.1 = some (some (.int r))) ((0, [some (.ref a0), some (.int a1), none, none, none, none, none], []), h)
  refine am_G.fr 2 (g := (2, [some (.ref a0), some (.int a1), none, none, none, none, none], [.int ((0 : Int32)), .ref a0])) rfl ?_
  obtain ⟨hh1, e2, H⟩ := am_bd H
  refine am_G.pF rfl e2 ?_
  refine am_G.fr 6 (g := (12, [some (.ref a0), some (.int a1), some (.int ((-1 : Int32))), some (.int ((0 : Int32))), some (.int ((0 : Int32))), none, none], [])) rfl ?_
  obtain ⟨lw40, hh41, E42, H⟩ := am_bd2 H
  refine am_G.sq (lX10_defer_L12 _ _ _ _ _ _ _ _ _ E42) ?_
  clear E42
  refine am_G.fr 1 (g := (145, [some (.ref a0), none, some (.int lw40), none, none, none, none], [.ref a0])) rfl ?_
  obtain ⟨hh44, e43, H⟩ := am_bd H
  refine am_G.cl [.ref a0] [] (am_Cl.mono (by decide) (lX10_datesAsTold e43)) rfl rfl rfl rfl (Nat.le_of_ble_eq_true rfl) ?_
  refine am_G.fr 1 (g := (149, [some (.ref a0), none, some (.int lw40), none, none, none, none], [.int lw40])) rfl ?_
  obtain ⟨rfl, rfl⟩ := am_inj2 H
  exact am_G.nd ⟨rfl, rfl⟩
def fX10_spare_L9 : Nat → Nat → Int32 → Int32 → am_H → Option (Int32 × am_H)
  | 0, _, _, _, _ => none
  | n + 1, v0, v1, v2, h =>
    (fX10_houses v0 h).bind fun x4 =>
    if x4 ≤ v2 then
      some (v1, h)
    else
      (fX10_triesNow v0 h).bind fun hh7 =>
      (am_gR hh7 v0 9 24).bind fun state8 =>
      (am_aI hh7 0 state8 (((989 : Int32)) + v2)).bind fun x10 =>
      (am_sI hh7 0 state8 (((989 : Int32)) + v2) (x10 - ((1 : Int32)))).bind fun hh12 =>
      (am_gR hh12 v0 9 24).bind fun state14 =>
      (am_aI hh12 0 state14 (((2 : Int32)) + v2)).bind fun x16 =>
      am_b2 (
        if x16 ≤ ((1 : Int32)) then
          some ((0 : Int32), hh12)
        else
          am_b2 (fX10_isCalm v0 ((24 : Int32)) hh12) fun x22 hh23 =>
          if x22 = 0 then
            some ((0 : Int32), hh23)
          else
            some (((1 : Int32)) <<< (v2 &&& 31), hh23)) fun js18 hh19 =>
      fX10_spare_L9 n v0 (v1 ||| js18) (v2 + (1 : Int32)) hh19
def fX10_spare (a0 : Nat) (h : am_H) : Option (Int32 × am_H) :=
  (am_isO h a0 9).bind fun _ =>
  (am_pF h a0 9 0 (.int ((0 : Int32)))).bind fun hh1 =>
  am_b2 (fX10_spare_L9 4000 a0 ((0 : Int32)) ((0 : Int32)) hh1) fun lw26 hh27 =>
  some (lw26, hh27)
set_option maxHeartbeats 4000000 in
set_option maxRecDepth 100000 in
theorem lX10_spare_L9 {sc : Nat × (Nat → Int32)} : ∀ (n : Nat) (v0 : Nat) (v1 : Int32) (v2 : Int32) (h : am_H) (w1 : Int32) (h1 : am_H), fX10_spare_L9 n v0 v1 v2 h = some (w1, h1) → am_G sc (am_Cl am_T am_N sc 8) (am_at kX10_spare) (fun t => t = ((72, [none, some (.int w1), none], []), h1)) ((9, [some (.ref v0), some (.int v1), some (.int v2)], []), h) := by
  intro n
  induction n with
  | zero => intro _ _ _ _ _ _ H; cases H
  | succ n ih =>
    intro v0 v1 v2 h w1 h1 H
    rw [fX10_spare_L9] at H
    refine am_G.fr 2 (g := (11, [some (.ref v0), some (.int v1), some (.int v2)], [.ref v0, .int v2])) rfl ?_
    obtain ⟨x4, e3, H⟩ := am_bd H
    refine am_G.cl [.ref v0] [.int v2] (am_Cl.mono (by decide) (lX10_houses e3)) rfl rfl rfl rfl (Nat.le_of_ble_eq_true rfl) ?_
    by_cases c5 : x4 ≤ v2
    · rw [if_pos c5] at H
      refine am_G.br (tgt := 72) rfl rfl (if_pos c5) rfl ?_
      obtain ⟨rfl, rfl⟩ := am_inj2 H
      refine am_G.fg [none, some (.int v1), none] (by simp only [am_sub, and_self]) ?_
      exact am_G.nd rfl
    · rw [if_neg c5] at H
      refine am_G.br (tgt := 17) rfl rfl (if_neg c5) rfl ?_
      refine am_G.fr 1 (g := (18, [some (.ref v0), some (.int v1), some (.int v2)], [.ref v0])) rfl ?_
      obtain ⟨hh7, e6, H⟩ := am_bd H
      refine am_G.cl [.ref v0] [] (am_Cl.mono (by decide) (lX10_triesNow e6)) rfl rfl rfl rfl (Nat.le_of_ble_eq_true rfl) ?_
      refine am_G.fr 1 (g := (22, [some (.ref v0), some (.int v1), some (.int v2)], [.ref v0])) rfl ?_
      obtain ⟨state8, e9, H⟩ := am_bd H
      refine am_G.gR rfl e9 ?_
      refine am_G.fr 4 (g := (31, [some (.ref v0), some (.int v1), some (.int v2)], [.int (((989 : Int32)) + v2), .ref state8, .int (((989 : Int32)) + v2), .ref state8])) rfl ?_
      obtain ⟨x10, e11, H⟩ := am_bd H
      refine am_G.aI rfl e11 ?_
      refine am_G.fr 2 (g := (34, [some (.ref v0), some (.int v1), some (.int v2)], [.int (x10 - ((1 : Int32))), .int (((989 : Int32)) + v2), .ref state8])) rfl ?_
      obtain ⟨hh12, e13, H⟩ := am_bd H
      refine am_G.sI rfl e13 ?_
      refine am_G.fr 2 (g := (37, [some (.ref v0), some (.int v1), some (.int v2)], [.ref v0, .int v1])) rfl ?_
      obtain ⟨state14, e15, H⟩ := am_bd H
      refine am_G.gR rfl e15 ?_
      refine am_G.fr 3 (g := (43, [some (.ref v0), some (.int v1), some (.int v2)], [.int (((2 : Int32)) + v2), .ref state14, .int v1])) rfl ?_
      obtain ⟨x16, e17, H⟩ := am_bd H
      refine am_G.aI rfl e17 ?_
      refine am_G.fr 1 (g := (45, [some (.ref v0), some (.int v1), some (.int v2)], [.int ((1 : Int32)), .int x16, .int v1])) rfl ?_
      obtain ⟨js18, hh19, E25, H⟩ := am_bd2 H
      refine am_G.sq (t := ((64, [some (.ref v0), none, some (.int v2)], [.int js18, .int v1]), hh19)) ?_ ?_
      · clear H
        have H := E25
        clear E25
        by_cases c20 : x16 ≤ ((1 : Int32))
        · rw [if_pos c20] at H
          refine am_G.br (tgt := 63) rfl rfl (if_pos c20) rfl ?_
          refine am_G.fr 1 (g := (64, [some (.ref v0), some (.int v1), some (.int v2)], [.int ((0 : Int32)), .int v1])) rfl ?_
          obtain ⟨rfl, rfl⟩ := am_inj2 H
          refine am_G.fg [some (.ref v0), none, some (.int v2)] (by simp only [am_sub, and_self]) ?_
          exact am_G.nd rfl
        · rw [if_neg c20] at H
          refine am_G.br (tgt := 48) rfl rfl (if_neg c20) rfl ?_
          refine am_G.fr 2 (g := (51, [some (.ref v0), some (.int v1), some (.int v2)], [.int ((24 : Int32)), .ref v0, .int v1])) rfl ?_
          obtain ⟨x22, hh23, e21, H⟩ := am_bd2 H
          refine am_G.cl [.ref v0, .int ((24 : Int32))] [.int v1] (am_Cl.mono (by decide) (lX10_isCalm e21)) rfl rfl rfl rfl (Nat.le_of_ble_eq_true rfl) ?_
          by_cases c24 : x22 = 0
          · rw [if_pos c24] at H
            refine am_G.br (tgt := 63) rfl rfl (if_pos c24) rfl ?_
            refine am_G.fr 1 (g := (64, [some (.ref v0), some (.int v1), some (.int v2)], [.int ((0 : Int32)), .int v1])) rfl ?_
            obtain ⟨rfl, rfl⟩ := am_inj2 H
            refine am_G.fg [some (.ref v0), none, some (.int v2)] (by simp only [am_sub, and_self]) ?_
            exact am_G.nd rfl
          · rw [if_neg c24] at H
            refine am_G.br (tgt := 57) rfl rfl (if_neg c24) rfl ?_
            refine am_G.fr 4 (g := (64, [some (.ref v0), some (.int v1), some (.int v2)], [.int (((1 : Int32)) <<< (v2 &&& 31)), .int v1])) rfl ?_
            obtain ⟨rfl, rfl⟩ := am_inj2 H
            refine am_G.fg [some (.ref v0), none, some (.int v2)] (by simp only [am_sub, and_self]) ?_
            exact am_G.nd rfl
      · clear E25
        refine am_G.fr 4 (g := (9, [some (.ref v0), some (.int (v1 ||| js18)), some (.int (v2 + (1 : Int32)))], [])) rfl ?_
        exact ih _ _ _ _ _ _ H
set_option maxHeartbeats 4000000 in
set_option maxRecDepth 100000 in
theorem lX10_spare {sc : Nat × (Nat → Int32)} {a0 : Nat} {h : am_H} {r : Int32} {h1 : am_H} (H : fX10_spare a0 h = some (r, h1)) : am_Cl am_T am_N sc 9 221 [.ref a0] h (some (.int r)) h1 := by
  unfold fX10_spare at H
  obtain ⟨_, hO, H⟩ := am_bd H
  obtain ⟨fs0, hO⟩ := am_isO_ok hO
  refine am_mk (q := qX10_spare) rfl (fun _ => ⟨_, _, _, _, _, rfl, hO, rfl, rfl⟩) (fun z => absurd z (by decide)) (Nat.le_of_ble_eq_true rfl) rfl ?_
  show am_G sc (am_Cl am_T am_N sc 8) (am_at kX10_spare) (fun t => t.2 = h1 ∧ am_ret 1 (am_at kX10_spare) t.1 = some (some (.int r))) ((0, [some (.ref a0), none, none], []), h)
  refine am_G.fr 2 (g := (2, [some (.ref a0), none, none], [.int ((0 : Int32)), .ref a0])) rfl ?_
  obtain ⟨hh1, e2, H⟩ := am_bd H
  refine am_G.pF rfl e2 ?_
  refine am_G.fr 4 (g := (9, [some (.ref a0), some (.int ((0 : Int32))), some (.int ((0 : Int32)))], [])) rfl ?_
  obtain ⟨lw26, hh27, E28, H⟩ := am_bd2 H
  refine am_G.sq (lX10_spare_L9 _ _ _ _ _ _ _ E28) ?_
  clear E28
  refine am_G.fr 1 (g := (73, [none, some (.int lw26), none], [.int lw26])) rfl ?_
  obtain ⟨rfl, rfl⟩ := am_inj2 H
  exact am_G.nd ⟨rfl, rfl⟩
def fX10_see (a0 : Nat) (a1 : Int32) (a2 : Int32) (h : am_H) : Option (Int32 × am_H) :=
  (am_isO h a0 9).bind fun _ =>
  (am_pF h a0 9 0 (.int ((0 : Int32)))).bind fun hh1 =>
  if a1 = ((-1 : Int32)) then
    (fX10_within a2 ((0 : Int32)) ((24 : Int32)) hh1).bind fun x5 =>
    if x5 = 0 then
      some ((0 : Int32), hh1)
    else
      (am_gR hh1 a0 9 24).bind fun state7 =>
      (am_aI hh1 0 state7 ((30 : Int32))).bind fun x9 =>
      if ¬ x9 = ((8 : Int32)) then
        (am_gR hh1 a0 9 24).bind fun state12 =>
        (am_aI hh1 0 state12 ((30 : Int32))).bind fun x14 =>
        (am_gR hh1 a0 9 24).bind fun state16 =>
        (am_sI hh1 0 state16 (((31 : Int32)) + (((2 : Int32)) * x14)) a1).bind fun hh18 =>
        (am_gR hh18 a0 9 24).bind fun state20 =>
        (am_sI hh18 0 state20 ((((31 : Int32)) + (((2 : Int32)) * x14)) + ((1 : Int32))) a2).bind fun hh22 =>
        (am_gR hh22 a0 9 24).bind fun state24 =>
        (am_aI hh22 0 state24 ((30 : Int32))).bind fun x26 =>
        (am_sI hh22 0 state24 ((30 : Int32)) (x26 + ((1 : Int32)))).bind fun hh28 =>
        some ((1 : Int32), hh28)
      else
        some ((0 : Int32), hh1)
  else
    (fX10_isHouse a0 a1 hh1).bind fun x31 =>
    if x31 = 0 then
      some ((0 : Int32), hh1)
    else
      (fX10_within a2 ((0 : Int32)) ((24 : Int32)) hh1).bind fun x34 =>
      if x34 = 0 then
        some ((0 : Int32), hh1)
      else
        (am_gR hh1 a0 9 24).bind fun state36 =>
        (am_aI hh1 0 state36 ((30 : Int32))).bind fun x38 =>
        if ¬ x38 = ((8 : Int32)) then
          (am_gR hh1 a0 9 24).bind fun state41 =>
          (am_aI hh1 0 state41 ((30 : Int32))).bind fun x43 =>
          (am_gR hh1 a0 9 24).bind fun state45 =>
          (am_sI hh1 0 state45 (((31 : Int32)) + (((2 : Int32)) * x43)) a1).bind fun hh47 =>
          (am_gR hh47 a0 9 24).bind fun state49 =>
          (am_sI hh47 0 state49 ((((31 : Int32)) + (((2 : Int32)) * x43)) + ((1 : Int32))) a2).bind fun hh51 =>
          (am_gR hh51 a0 9 24).bind fun state53 =>
          (am_aI hh51 0 state53 ((30 : Int32))).bind fun x55 =>
          (am_sI hh51 0 state53 ((30 : Int32)) (x55 + ((1 : Int32)))).bind fun hh57 =>
          some ((1 : Int32), hh57)
        else
          some ((0 : Int32), hh1)
set_option maxHeartbeats 4000000 in
set_option maxRecDepth 100000 in
theorem lX10_see {sc : Nat × (Nat → Int32)} {a0 : Nat} {a1 : Int32} {a2 : Int32} {h : am_H} {r : Int32} {h1 : am_H} (H : fX10_see a0 a1 a2 h = some (r, h1)) : am_Cl am_T am_N sc 3 222 [.ref a0, .int a1, .int a2] h (some (.int r)) h1 := by
  unfold fX10_see at H
  obtain ⟨_, hO, H⟩ := am_bd H
  obtain ⟨fs0, hO⟩ := am_isO_ok hO
  refine am_mk (q := qX10_see) rfl (fun _ => ⟨_, _, _, _, _, rfl, hO, rfl, rfl⟩) (fun z => absurd z (by decide)) (Nat.le_of_ble_eq_true rfl) rfl ?_
  show am_G sc (am_Cl am_T am_N sc 2) (am_at kX10_see) (fun t => t.2 = h1 ∧ am_ret 2 (am_at kX10_see) t.1 = some (some (.int r))) ((0, [some (.ref a0), some (.int a1), some (.int a2), none], []), h)
  refine am_G.fr 2 (g := (2, [some (.ref a0), some (.int a1), some (.int a2), none], [.int ((0 : Int32)), .ref a0])) rfl ?_
  obtain ⟨hh1, e2, H⟩ := am_bd H
  refine am_G.pF rfl e2 ?_
  refine am_G.fr 2 (g := (7, [some (.ref a0), some (.int a1), some (.int a2), none], [.int ((-1 : Int32)), .int a1])) rfl ?_
  by_cases c3 : a1 = ((-1 : Int32))
  · rw [if_pos c3] at H
    refine am_G.br (tgt := 18) rfl rfl (if_pos c3) rfl ?_
    refine am_G.fr 3 (g := (22, [some (.ref a0), some (.int a1), some (.int a2), none], [.int ((24 : Int32)), .int ((0 : Int32)), .int a2])) rfl ?_
    obtain ⟨x5, e4, H⟩ := am_bd H
    refine am_G.cl [.int a2, .int ((0 : Int32)), .int ((24 : Int32))] [] (am_Cl.mono (by decide) (lX10_within e4)) rfl rfl rfl rfl (Nat.le_of_ble_eq_true rfl) ?_
    by_cases c6 : x5 = 0
    · rw [if_pos c6] at H
      refine am_G.br (tgt := 40) rfl rfl (if_pos c6) rfl ?_
      refine am_G.fr 1 (g := (41, [some (.ref a0), some (.int a1), some (.int a2), none], [.int ((0 : Int32))])) rfl ?_
      obtain ⟨rfl, rfl⟩ := am_inj2 H
      exact am_G.nd ⟨rfl, am_ret2 rfl (if_pos (by decide))⟩
    · rw [if_neg c6] at H
      refine am_G.br (tgt := 28) rfl rfl (if_neg c6) rfl ?_
      refine am_G.fr 1 (g := (29, [some (.ref a0), some (.int a1), some (.int a2), none], [.ref a0])) rfl ?_
      obtain ⟨state7, e8, H⟩ := am_bd H
      refine am_G.gR rfl e8 ?_
      refine am_G.fr 1 (g := (34, [some (.ref a0), some (.int a1), some (.int a2), none], [.int ((30 : Int32)), .ref state7])) rfl ?_
      obtain ⟨x9, e10, H⟩ := am_bd H
      refine am_G.aI rfl e10 ?_
      refine am_G.fr 1 (g := (37, [some (.ref a0), some (.int a1), some (.int a2), none], [.int ((8 : Int32)), .int x9])) rfl ?_
      by_cases c11 : ¬ x9 = ((8 : Int32))
      · rw [if_pos c11] at H
        refine am_G.br (tgt := 42) rfl rfl (if_pos c11) rfl ?_
        refine am_G.fr 3 (g := (46, [some (.ref a0), some (.int a1), some (.int a2), none], [.ref a0, .int ((2 : Int32)), .int ((31 : Int32))])) rfl ?_
        obtain ⟨state12, e13, H⟩ := am_bd H
        refine am_G.gR rfl e13 ?_
        refine am_G.fr 1 (g := (51, [some (.ref a0), some (.int a1), some (.int a2), none], [.int ((30 : Int32)), .ref state12, .int ((2 : Int32)), .int ((31 : Int32))])) rfl ?_
        obtain ⟨x14, e15, H⟩ := am_bd H
        refine am_G.aI rfl e15 ?_
        refine am_G.fr 4 (g := (56, [some (.ref a0), some (.int a1), some (.int a2), some (.int (((31 : Int32)) + (((2 : Int32)) * x14)))], [.ref a0])) rfl ?_
        obtain ⟨state16, e17, H⟩ := am_bd H
        refine am_G.gR rfl e17 ?_
        refine am_G.fr 2 (g := (61, [some (.ref a0), some (.int a1), some (.int a2), some (.int (((31 : Int32)) + (((2 : Int32)) * x14)))], [.int a1, .int (((31 : Int32)) + (((2 : Int32)) * x14)), .ref state16])) rfl ?_
        obtain ⟨hh18, e19, H⟩ := am_bd H
        refine am_G.sI rfl e19 ?_
        refine am_G.fr 1 (g := (63, [some (.ref a0), some (.int a1), some (.int a2), some (.int (((31 : Int32)) + (((2 : Int32)) * x14)))], [.ref a0])) rfl ?_
        obtain ⟨state20, e21, H⟩ := am_bd H
        refine am_G.gR rfl e21 ?_
        refine am_G.fr 4 (g := (70, [some (.ref a0), some (.int a1), some (.int a2), some (.int (((31 : Int32)) + (((2 : Int32)) * x14)))], [.int a2, .int ((((31 : Int32)) + (((2 : Int32)) * x14)) + ((1 : Int32))), .ref state20])) rfl ?_
        obtain ⟨hh22, e23, H⟩ := am_bd H
        refine am_G.sI rfl e23 ?_
        refine am_G.fr 1 (g := (72, [some (.ref a0), some (.int a1), some (.int a2), some (.int (((31 : Int32)) + (((2 : Int32)) * x14)))], [.ref a0])) rfl ?_
        obtain ⟨state24, e25, H⟩ := am_bd H
        refine am_G.gR rfl e25 ?_
        refine am_G.fr 2 (g := (78, [some (.ref a0), some (.int a1), some (.int a2), some (.int (((31 : Int32)) + (((2 : Int32)) * x14)))], [.int ((30 : Int32)), .ref state24, .int ((30 : Int32)), .ref state24])) rfl ?_
        obtain ⟨x26, e27, H⟩ := am_bd H
        refine am_G.aI rfl e27 ?_
        refine am_G.fr 2 (g := (81, [some (.ref a0), some (.int a1), some (.int a2), some (.int (((31 : Int32)) + (((2 : Int32)) * x14)))], [.int (x26 + ((1 : Int32))), .int ((30 : Int32)), .ref state24])) rfl ?_
        obtain ⟨hh28, e29, H⟩ := am_bd H
        refine am_G.sI rfl e29 ?_
        refine am_G.fr 1 (g := (83, [some (.ref a0), some (.int a1), some (.int a2), some (.int (((31 : Int32)) + (((2 : Int32)) * x14)))], [.int ((1 : Int32))])) rfl ?_
        obtain ⟨rfl, rfl⟩ := am_inj2 H
        exact am_G.nd ⟨rfl, am_ret2 rfl (if_pos (by decide))⟩
      · rw [if_neg c11] at H
        refine am_G.br (tgt := 40) rfl rfl (if_neg c11) rfl ?_
        refine am_G.fr 1 (g := (41, [some (.ref a0), some (.int a1), some (.int a2), none], [.int ((0 : Int32))])) rfl ?_
        obtain ⟨rfl, rfl⟩ := am_inj2 H
        exact am_G.nd ⟨rfl, am_ret2 rfl (if_pos (by decide))⟩
  · rw [if_neg c3] at H
    refine am_G.br (tgt := 10) rfl rfl (if_neg c3) rfl ?_
    refine am_G.fr 2 (g := (12, [some (.ref a0), some (.int a1), some (.int a2), none], [.int a1, .ref a0])) rfl ?_
    obtain ⟨x31, e30, H⟩ := am_bd H
    refine am_G.cl [.ref a0, .int a1] [] (am_Cl.mono (by decide) (lX10_isHouse e30)) rfl rfl rfl rfl (Nat.le_of_ble_eq_true rfl) ?_
    by_cases c32 : x31 = 0
    · rw [if_pos c32] at H
      refine am_G.br (tgt := 40) rfl rfl (if_pos c32) rfl ?_
      refine am_G.fr 1 (g := (41, [some (.ref a0), some (.int a1), some (.int a2), none], [.int ((0 : Int32))])) rfl ?_
      obtain ⟨rfl, rfl⟩ := am_inj2 H
      exact am_G.nd ⟨rfl, am_ret2 rfl (if_pos (by decide))⟩
    · rw [if_neg c32] at H
      refine am_G.br (tgt := 18) rfl rfl (if_neg c32) rfl ?_
      refine am_G.fr 3 (g := (22, [some (.ref a0), some (.int a1), some (.int a2), none], [.int ((24 : Int32)), .int ((0 : Int32)), .int a2])) rfl ?_
      obtain ⟨x34, e33, H⟩ := am_bd H
      refine am_G.cl [.int a2, .int ((0 : Int32)), .int ((24 : Int32))] [] (am_Cl.mono (by decide) (lX10_within e33)) rfl rfl rfl rfl (Nat.le_of_ble_eq_true rfl) ?_
      by_cases c35 : x34 = 0
      · rw [if_pos c35] at H
        refine am_G.br (tgt := 40) rfl rfl (if_pos c35) rfl ?_
        refine am_G.fr 1 (g := (41, [some (.ref a0), some (.int a1), some (.int a2), none], [.int ((0 : Int32))])) rfl ?_
        obtain ⟨rfl, rfl⟩ := am_inj2 H
        exact am_G.nd ⟨rfl, am_ret2 rfl (if_pos (by decide))⟩
      · rw [if_neg c35] at H
        refine am_G.br (tgt := 28) rfl rfl (if_neg c35) rfl ?_
        refine am_G.fr 1 (g := (29, [some (.ref a0), some (.int a1), some (.int a2), none], [.ref a0])) rfl ?_
        obtain ⟨state36, e37, H⟩ := am_bd H
        refine am_G.gR rfl e37 ?_
        refine am_G.fr 1 (g := (34, [some (.ref a0), some (.int a1), some (.int a2), none], [.int ((30 : Int32)), .ref state36])) rfl ?_
        obtain ⟨x38, e39, H⟩ := am_bd H
        refine am_G.aI rfl e39 ?_
        refine am_G.fr 1 (g := (37, [some (.ref a0), some (.int a1), some (.int a2), none], [.int ((8 : Int32)), .int x38])) rfl ?_
        by_cases c40 : ¬ x38 = ((8 : Int32))
        · rw [if_pos c40] at H
          refine am_G.br (tgt := 42) rfl rfl (if_pos c40) rfl ?_
          refine am_G.fr 3 (g := (46, [some (.ref a0), some (.int a1), some (.int a2), none], [.ref a0, .int ((2 : Int32)), .int ((31 : Int32))])) rfl ?_
          obtain ⟨state41, e42, H⟩ := am_bd H
          refine am_G.gR rfl e42 ?_
          refine am_G.fr 1 (g := (51, [some (.ref a0), some (.int a1), some (.int a2), none], [.int ((30 : Int32)), .ref state41, .int ((2 : Int32)), .int ((31 : Int32))])) rfl ?_
          obtain ⟨x43, e44, H⟩ := am_bd H
          refine am_G.aI rfl e44 ?_
          refine am_G.fr 4 (g := (56, [some (.ref a0), some (.int a1), some (.int a2), some (.int (((31 : Int32)) + (((2 : Int32)) * x43)))], [.ref a0])) rfl ?_
          obtain ⟨state45, e46, H⟩ := am_bd H
          refine am_G.gR rfl e46 ?_
          refine am_G.fr 2 (g := (61, [some (.ref a0), some (.int a1), some (.int a2), some (.int (((31 : Int32)) + (((2 : Int32)) * x43)))], [.int a1, .int (((31 : Int32)) + (((2 : Int32)) * x43)), .ref state45])) rfl ?_
          obtain ⟨hh47, e48, H⟩ := am_bd H
          refine am_G.sI rfl e48 ?_
          refine am_G.fr 1 (g := (63, [some (.ref a0), some (.int a1), some (.int a2), some (.int (((31 : Int32)) + (((2 : Int32)) * x43)))], [.ref a0])) rfl ?_
          obtain ⟨state49, e50, H⟩ := am_bd H
          refine am_G.gR rfl e50 ?_
          refine am_G.fr 4 (g := (70, [some (.ref a0), some (.int a1), some (.int a2), some (.int (((31 : Int32)) + (((2 : Int32)) * x43)))], [.int a2, .int ((((31 : Int32)) + (((2 : Int32)) * x43)) + ((1 : Int32))), .ref state49])) rfl ?_
          obtain ⟨hh51, e52, H⟩ := am_bd H
          refine am_G.sI rfl e52 ?_
          refine am_G.fr 1 (g := (72, [some (.ref a0), some (.int a1), some (.int a2), some (.int (((31 : Int32)) + (((2 : Int32)) * x43)))], [.ref a0])) rfl ?_
          obtain ⟨state53, e54, H⟩ := am_bd H
          refine am_G.gR rfl e54 ?_
          refine am_G.fr 2 (g := (78, [some (.ref a0), some (.int a1), some (.int a2), some (.int (((31 : Int32)) + (((2 : Int32)) * x43)))], [.int ((30 : Int32)), .ref state53, .int ((30 : Int32)), .ref state53])) rfl ?_
          obtain ⟨x55, e56, H⟩ := am_bd H
          refine am_G.aI rfl e56 ?_
          refine am_G.fr 2 (g := (81, [some (.ref a0), some (.int a1), some (.int a2), some (.int (((31 : Int32)) + (((2 : Int32)) * x43)))], [.int (x55 + ((1 : Int32))), .int ((30 : Int32)), .ref state53])) rfl ?_
          obtain ⟨hh57, e58, H⟩ := am_bd H
          refine am_G.sI rfl e58 ?_
          refine am_G.fr 1 (g := (83, [some (.ref a0), some (.int a1), some (.int a2), some (.int (((31 : Int32)) + (((2 : Int32)) * x43)))], [.int ((1 : Int32))])) rfl ?_
          obtain ⟨rfl, rfl⟩ := am_inj2 H
          exact am_G.nd ⟨rfl, am_ret2 rfl (if_pos (by decide))⟩
        · rw [if_neg c40] at H
          refine am_G.br (tgt := 40) rfl rfl (if_neg c40) rfl ?_
          refine am_G.fr 1 (g := (41, [some (.ref a0), some (.int a1), some (.int a2), none], [.int ((0 : Int32))])) rfl ?_
          obtain ⟨rfl, rfl⟩ := am_inj2 H
          exact am_G.nd ⟨rfl, am_ret2 rfl (if_pos (by decide))⟩
def fX10_whoNow_L45 : Nat → Nat → Int32 → Int32 → Int32 → Int32 → Int32 → am_H → Option (Int32)
  | 0, _, _, _, _, _, _, _ => none
  | n + 1, v0, v1, v2, v3, v4, v5, h =>
    (fX10_days v0 h).bind fun x12 =>
    if x12 ≤ v5 then
      some v1
    else
      (am_gR h v0 9 24).bind fun state14 =>
      (am_aI h 0 state14 (v4 + ((1 : Int32)))).bind fun x16 =>
      Option.bind (
        if ¬ x16 = v2 then
          some ((-1 : Int32))
        else
          (am_gR h v0 9 24).bind fun state20 =>
          (am_aI h 0 state20 (((993 : Int32)) + v5)).bind fun x22 =>
          (am_gR h v0 9 24).bind fun state24 =>
          (am_aI h 0 state24 v4).bind fun x26 =>
          if x22 = x26 then
            some ((-1 : Int32))
          else
            some ((((1 : Int32)) <<< (v5 &&& 31)) ^^^ ((-1 : Int32)))) fun js18 =>
      fX10_whoNow_L45 n v0 (v1 &&& js18) v2 v3 v4 (v5 + (1 : Int32)) h
def fX10_whoNow_L23 : Nat → Nat → Int32 → Int32 → Int32 → am_H → Option (Int32)
  | 0, _, _, _, _, _ => none
  | n + 1, v0, v1, v2, v3, h =>
    (am_gR h v0 9 24).bind fun state6 =>
    (am_aI h 0 state6 ((30 : Int32))).bind fun x8 =>
    if x8 ≤ v3 then
      some v1
    else
      Option.bind (fX10_whoNow_L45 4000 v0 v1 v2 v3 (((31 : Int32)) + (((2 : Int32)) * v3)) ((0 : Int32)) h) fun lw30 =>
      fX10_whoNow_L23 n v0 lw30 v2 (v3 + (1 : Int32)) h
def fX10_whoNow_L15 : Nat → Nat → Int32 → Int32 → am_H → Option (Int32 × am_H)
  | 0, _, _, _, _ => none
  | n + 1, v0, v1, v2, h =>
    if ((24 : Int32)) < v2 then
      some (v1, h)
    else
      Option.bind (fX10_whoNow_L23 4000 v0 v1 v2 ((0 : Int32)) h) fun lw32 =>
      (fX10_passes v0 ((987 : Int32)) h).bind fun hh35 =>
      fX10_whoNow_L15 n v0 lw32 (v2 + (1 : Int32)) hh35
def fX10_whoNow (a0 : Nat) (h : am_H) : Option (Int32 × am_H) :=
  (am_isO h a0 9).bind fun _ =>
  (fX10_days a0 h).bind fun x2 =>
  (fX10_triesNow a0 h).bind fun hh4 =>
  am_b2 (fX10_whoNow_L15 4000 a0 ((((1 : Int32)) <<< (x2 &&& 31)) - ((1 : Int32))) ((0 : Int32)) hh4) fun lw36 hh37 =>
  some (lw36, hh37)
set_option maxHeartbeats 4000000 in
set_option maxRecDepth 100000 in
theorem lX10_whoNow_L45 {sc : Nat × (Nat → Int32)} : ∀ (n : Nat) (v0 : Nat) (v1 : Int32) (v2 : Int32) (v3 : Int32) (v4 : Int32) (v5 : Int32) (h : am_H) (w1 : Int32), fX10_whoNow_L45 n v0 v1 v2 v3 v4 v5 h = some w1 → am_G sc (am_Cl am_T am_N sc 7) (am_at kX10_whoNow) (fun t => t = ((107, [some (.ref v0), some (.int w1), some (.int v2), some (.int v3), none, none], []), h)) ((45, [some (.ref v0), some (.int v1), some (.int v2), some (.int v3), some (.int v4), some (.int v5)], []), h) := by
  intro n
  induction n with
  | zero => intro _ _ _ _ _ _ _ _ H; cases H
  | succ n ih =>
    intro v0 v1 v2 v3 v4 v5 h w1 H
    rw [fX10_whoNow_L45] at H
    refine am_G.fr 2 (g := (48, [some (.ref v0), some (.int v1), some (.int v2), some (.int v3), some (.int v4), some (.int v5)], [.ref v0, .int v5])) rfl ?_
    obtain ⟨x12, e11, H⟩ := am_bd H
    refine am_G.cl [.ref v0] [.int v5] (am_Cl.mono (by decide) (lX10_days e11)) rfl rfl rfl rfl (Nat.le_of_ble_eq_true rfl) ?_
    by_cases c13 : x12 ≤ v5
    · rw [if_pos c13] at H
      refine am_G.br (tgt := 107) rfl rfl (if_pos c13) rfl ?_
      obtain rfl := Option.some.inj H
      refine am_G.fg [some (.ref v0), some (.int v1), some (.int v2), some (.int v3), none, none] (by simp only [am_sub, and_self]) ?_
      exact am_G.nd rfl
    · rw [if_neg c13] at H
      refine am_G.br (tgt := 54) rfl rfl (if_neg c13) rfl ?_
      refine am_G.fr 2 (g := (56, [some (.ref v0), some (.int v1), some (.int v2), some (.int v3), some (.int v4), some (.int v5)], [.ref v0, .int v1])) rfl ?_
      obtain ⟨state14, e15, H⟩ := am_bd H
      refine am_G.gR rfl e15 ?_
      refine am_G.fr 3 (g := (63, [some (.ref v0), some (.int v1), some (.int v2), some (.int v3), some (.int v4), some (.int v5)], [.int (v4 + ((1 : Int32))), .ref state14, .int v1])) rfl ?_
      obtain ⟨x16, e17, H⟩ := am_bd H
      refine am_G.aI rfl e17 ?_
      refine am_G.fr 1 (g := (65, [some (.ref v0), some (.int v1), some (.int v2), some (.int v3), some (.int v4), some (.int v5)], [.int v2, .int x16, .int v1])) rfl ?_
      obtain ⟨js18, E29, H⟩ := am_bd H
      refine am_G.sq (t := ((99, [some (.ref v0), none, some (.int v2), some (.int v3), some (.int v4), some (.int v5)], [.int js18, .int v1]), h)) ?_ ?_
      · clear H
        have H := E29
        clear E29
        by_cases c19 : ¬ x16 = v2
        · rw [if_pos c19] at H
          refine am_G.br (tgt := 98) rfl rfl (if_pos c19) rfl ?_
          refine am_G.fr 1 (g := (99, [some (.ref v0), some (.int v1), some (.int v2), some (.int v3), some (.int v4), some (.int v5)], [.int ((-1 : Int32)), .int v1])) rfl ?_
          obtain rfl := Option.some.inj H
          refine am_G.fg [some (.ref v0), none, some (.int v2), some (.int v3), some (.int v4), some (.int v5)] (by simp only [am_sub, and_self]) ?_
          exact am_G.nd rfl
        · rw [if_neg c19] at H
          refine am_G.br (tgt := 68) rfl rfl (if_neg c19) rfl ?_
          refine am_G.fr 1 (g := (69, [some (.ref v0), some (.int v1), some (.int v2), some (.int v3), some (.int v4), some (.int v5)], [.ref v0, .int v1])) rfl ?_
          obtain ⟨state20, e21, H⟩ := am_bd H
          refine am_G.gR rfl e21 ?_
          refine am_G.fr 3 (g := (78, [some (.ref v0), some (.int v1), some (.int v2), some (.int v3), some (.int v4), some (.int v5)], [.int (((993 : Int32)) + v5), .ref state20, .int v1])) rfl ?_
          obtain ⟨x22, e23, H⟩ := am_bd H
          refine am_G.aI rfl e23 ?_
          refine am_G.fr 1 (g := (80, [some (.ref v0), some (.int v1), some (.int v2), some (.int v3), some (.int v4), some (.int v5)], [.ref v0, .int x22, .int v1])) rfl ?_
          obtain ⟨state24, e25, H⟩ := am_bd H
          refine am_G.gR rfl e25 ?_
          refine am_G.fr 1 (g := (85, [some (.ref v0), some (.int v1), some (.int v2), some (.int v3), some (.int v4), some (.int v5)], [.int v4, .ref state24, .int x22, .int v1])) rfl ?_
          obtain ⟨x26, e27, H⟩ := am_bd H
          refine am_G.aI rfl e27 ?_
          by_cases c28 : x22 = x26
          · rw [if_pos c28] at H
            refine am_G.br (tgt := 98) rfl rfl (if_pos c28) rfl ?_
            refine am_G.fr 1 (g := (99, [some (.ref v0), some (.int v1), some (.int v2), some (.int v3), some (.int v4), some (.int v5)], [.int ((-1 : Int32)), .int v1])) rfl ?_
            obtain rfl := Option.some.inj H
            refine am_G.fg [some (.ref v0), none, some (.int v2), some (.int v3), some (.int v4), some (.int v5)] (by simp only [am_sub, and_self]) ?_
            exact am_G.nd rfl
          · rw [if_neg c28] at H
            refine am_G.br (tgt := 89) rfl rfl (if_neg c28) rfl ?_
            refine am_G.fr 6 (g := (99, [some (.ref v0), some (.int v1), some (.int v2), some (.int v3), some (.int v4), some (.int v5)], [.int ((((1 : Int32)) <<< (v5 &&& 31)) ^^^ ((-1 : Int32))), .int v1])) rfl ?_
            obtain rfl := Option.some.inj H
            refine am_G.fg [some (.ref v0), none, some (.int v2), some (.int v3), some (.int v4), some (.int v5)] (by simp only [am_sub, and_self]) ?_
            exact am_G.nd rfl
      · clear E29
        refine am_G.fr 4 (g := (45, [some (.ref v0), some (.int (v1 &&& js18)), some (.int v2), some (.int v3), some (.int v4), some (.int (v5 + (1 : Int32)))], [])) rfl ?_
        exact ih _ _ _ _ _ _ _ _ H
set_option maxHeartbeats 4000000 in
set_option maxRecDepth 100000 in
theorem lX10_whoNow_L23 {sc : Nat × (Nat → Int32)} : ∀ (n : Nat) (v0 : Nat) (v1 : Int32) (v2 : Int32) (v3 : Int32) (h : am_H) (w1 : Int32), fX10_whoNow_L23 n v0 v1 v2 v3 h = some w1 → am_G sc (am_Cl am_T am_N sc 7) (am_at kX10_whoNow) (fun t => t = ((113, [some (.ref v0), some (.int w1), some (.int v2), none, none, none], []), h)) ((23, [some (.ref v0), some (.int v1), some (.int v2), some (.int v3), none, none], []), h) := by
  intro n
  induction n with
  | zero => intro _ _ _ _ _ _ H; cases H
  | succ n ih =>
    intro v0 v1 v2 v3 h w1 H
    rw [fX10_whoNow_L23] at H
    refine am_G.fr 2 (g := (25, [some (.ref v0), some (.int v1), some (.int v2), some (.int v3), none, none], [.ref v0, .int v3])) rfl ?_
    obtain ⟨state6, e7, H⟩ := am_bd H
    refine am_G.gR rfl e7 ?_
    refine am_G.fr 1 (g := (30, [some (.ref v0), some (.int v1), some (.int v2), some (.int v3), none, none], [.int ((30 : Int32)), .ref state6, .int v3])) rfl ?_
    obtain ⟨x8, e9, H⟩ := am_bd H
    refine am_G.aI rfl e9 ?_
    by_cases c10 : x8 ≤ v3
    · rw [if_pos c10] at H
      refine am_G.br (tgt := 113) rfl rfl (if_pos c10) rfl ?_
      obtain rfl := Option.some.inj H
      refine am_G.fg [some (.ref v0), some (.int v1), some (.int v2), none, none, none] (by simp only [am_sub, and_self]) ?_
      exact am_G.nd rfl
    · rw [if_neg c10] at H
      refine am_G.br (tgt := 34) rfl rfl (if_neg c10) rfl ?_
      refine am_G.fr 8 (g := (45, [some (.ref v0), some (.int v1), some (.int v2), some (.int v3), some (.int (((31 : Int32)) + (((2 : Int32)) * v3))), some (.int ((0 : Int32)))], [])) rfl ?_
      obtain ⟨lw30, E31, H⟩ := am_bd H
      refine am_G.sq (lX10_whoNow_L45 _ _ _ _ _ _ _ _ _ E31) ?_
      clear E31
      refine am_G.fr 2 (g := (23, [some (.ref v0), some (.int lw30), some (.int v2), some (.int (v3 + (1 : Int32))), none, none], [])) rfl ?_
      exact ih _ _ _ _ _ _ H
set_option maxHeartbeats 4000000 in
set_option maxRecDepth 100000 in
theorem lX10_whoNow_L15 {sc : Nat × (Nat → Int32)} : ∀ (n : Nat) (v0 : Nat) (v1 : Int32) (v2 : Int32) (h : am_H) (w1 : Int32) (h1 : am_H), fX10_whoNow_L15 n v0 v1 v2 h = some (w1, h1) → am_G sc (am_Cl am_T am_N sc 7) (am_at kX10_whoNow) (fun t => t = ((126, [none, some (.int w1), none, none, none, none], []), h1)) ((15, [some (.ref v0), some (.int v1), some (.int v2), none, none, none], []), h) := by
  intro n
  induction n with
  | zero => intro _ _ _ _ _ _ H; cases H
  | succ n ih =>
    intro v0 v1 v2 h w1 h1 H
    rw [fX10_whoNow_L15] at H
    refine am_G.fr 2 (g := (18, [some (.ref v0), some (.int v1), some (.int v2), none, none, none], [.int ((24 : Int32)), .int v2])) rfl ?_
    by_cases c5 : ((24 : Int32)) < v2
    · rw [if_pos c5] at H
      refine am_G.br (tgt := 126) rfl rfl (if_pos c5) rfl ?_
      obtain ⟨rfl, rfl⟩ := am_inj2 H
      refine am_G.fg [none, some (.int v1), none, none, none, none] (by simp only [am_sub, and_self]) ?_
      exact am_G.nd rfl
    · rw [if_neg c5] at H
      refine am_G.br (tgt := 21) rfl rfl (if_neg c5) rfl ?_
      refine am_G.fr 2 (g := (23, [some (.ref v0), some (.int v1), some (.int v2), some (.int ((0 : Int32))), none, none], [])) rfl ?_
      obtain ⟨lw32, E33, H⟩ := am_bd H
      refine am_G.sq (lX10_whoNow_L23 _ _ _ _ _ _ _ E33) ?_
      clear E33
      refine am_G.fr 2 (g := (117, [some (.ref v0), some (.int lw32), some (.int v2), none, none, none], [.int ((987 : Int32)), .ref v0])) rfl ?_
      obtain ⟨hh35, e34, H⟩ := am_bd H
      refine am_G.cl [.ref v0, .int ((987 : Int32))] [] (am_Cl.mono (by decide) (lX10_passes e34)) rfl rfl rfl rfl (Nat.le_of_ble_eq_true rfl) ?_
      refine am_G.fr 2 (g := (15, [some (.ref v0), some (.int lw32), some (.int (v2 + (1 : Int32))), none, none, none], [])) rfl ?_
      exact ih _ _ _ _ _ _ H
set_option maxHeartbeats 4000000 in
set_option maxRecDepth 100000 in
theorem lX10_whoNow {sc : Nat × (Nat → Int32)} {a0 : Nat} {h : am_H} {r : Int32} {h1 : am_H} (H : fX10_whoNow a0 h = some (r, h1)) : am_Cl am_T am_N sc 8 223 [.ref a0] h (some (.int r)) h1 := by
  unfold fX10_whoNow at H
  obtain ⟨_, hO, H⟩ := am_bd H
  obtain ⟨fs0, hO⟩ := am_isO_ok hO
  refine am_mk (q := qX10_whoNow) rfl (fun _ => ⟨_, _, _, _, _, rfl, hO, rfl, rfl⟩) (fun z => absurd z (by decide)) (Nat.le_of_ble_eq_true rfl) rfl ?_
  show am_G sc (am_Cl am_T am_N sc 7) (am_at kX10_whoNow) (fun t => t.2 = h1 ∧ am_ret 1 (am_at kX10_whoNow) t.1 = some (some (.int r))) ((0, [some (.ref a0), none, none, none, none, none], []), h)
  refine am_G.fr 2 (g := (2, [some (.ref a0), none, none, none, none, none], [.ref a0, .int ((1 : Int32))])) rfl ?_
  obtain ⟨x2, e1, H⟩ := am_bd H
  refine am_G.cl [.ref a0] [.int ((1 : Int32))] (am_Cl.mono (by decide) (lX10_days e1)) rfl rfl rfl rfl (Nat.le_of_ble_eq_true rfl) ?_
  refine am_G.fr 5 (g := (10, [some (.ref a0), some (.int ((((1 : Int32)) <<< (x2 &&& 31)) - ((1 : Int32)))), none, none, none, none], [.ref a0])) rfl ?_
  obtain ⟨hh4, e3, H⟩ := am_bd H
  refine am_G.cl [.ref a0] [] (am_Cl.mono (by decide) (lX10_triesNow e3)) rfl rfl rfl rfl (Nat.le_of_ble_eq_true rfl) ?_
  refine am_G.fr 2 (g := (15, [some (.ref a0), some (.int ((((1 : Int32)) <<< (x2 &&& 31)) - ((1 : Int32)))), some (.int ((0 : Int32))), none, none, none], [])) rfl ?_
  obtain ⟨lw36, hh37, E38, H⟩ := am_bd2 H
  refine am_G.sq (lX10_whoNow_L15 _ _ _ _ _ _ _ E38) ?_
  clear E38
  refine am_G.fr 1 (g := (127, [none, some (.int lw36), none, none, none, none], [.int lw36])) rfl ?_
  obtain ⟨rfl, rfl⟩ := am_inj2 H
  exact am_G.nd ⟨rfl, rfl⟩
def fX10_who (a0 : Nat) (h : am_H) : Option (Int32 × am_H) :=
  (am_isO h a0 9).bind fun _ =>
  (am_pF h a0 9 0 (.int ((0 : Int32)))).bind fun hh1 =>
  am_b2 (fX10_whoNow a0 hh1) fun x4 hh5 =>
  some (x4, hh5)
set_option maxHeartbeats 4000000 in
set_option maxRecDepth 100000 in
theorem lX10_who {sc : Nat × (Nat → Int32)} {a0 : Nat} {h : am_H} {r : Int32} {h1 : am_H} (H : fX10_who a0 h = some (r, h1)) : am_Cl am_T am_N sc 9 224 [.ref a0] h (some (.int r)) h1 := by
  unfold fX10_who at H
  obtain ⟨_, hO, H⟩ := am_bd H
  obtain ⟨fs0, hO⟩ := am_isO_ok hO
  refine am_mk (q := qX10_who) rfl (fun _ => ⟨_, _, _, _, _, rfl, hO, rfl, rfl⟩) (fun z => absurd z (by decide)) (Nat.le_of_ble_eq_true rfl) rfl ?_
  show am_G sc (am_Cl am_T am_N sc 8) (am_at kX10_who) (fun t => t.2 = h1 ∧ am_ret 1 (am_at kX10_who) t.1 = some (some (.int r))) ((0, [some (.ref a0)], []), h)
  refine am_G.fr 2 (g := (2, [some (.ref a0)], [.int ((0 : Int32)), .ref a0])) rfl ?_
  obtain ⟨hh1, e2, H⟩ := am_bd H
  refine am_G.pF rfl e2 ?_
  refine am_G.fr 1 (g := (6, [some (.ref a0)], [.ref a0])) rfl ?_
  obtain ⟨x4, hh5, e3, H⟩ := am_bd2 H
  refine am_G.cl [.ref a0] [] (am_Cl.mono (by decide) (lX10_whoNow e3)) rfl rfl rfl rfl (Nat.le_of_ble_eq_true rfl) ?_
  obtain ⟨rfl, rfl⟩ := am_inj2 H
  exact am_G.nd ⟨rfl, rfl⟩
def fX10_look_L37 : Nat → Nat → Int32 → Int32 → Int32 → Int32 → Int32 → Int32 → am_H → Option (Int32)
  | 0, _, _, _, _, _, _, _, _ => none
  | n + 1, v0, v1, v2, v3, v4, v5, v6, h =>
    (fX10_houses v0 h).bind fun x12 =>
    if x12 ≤ v6 then
      some v5
    else
      (fX10_inHouse v0 ((987 : Int32)) v6 h).bind fun x15 =>
      (fX10_bits (x15 &&& v1) h).bind fun x17 =>
      Option.bind (
        if x17 ≤ v5 then
          some v5
        else
          some x17) fun js18 =>
      fX10_look_L37 n v0 v1 v2 v3 v4 js18 (v6 + (1 : Int32)) h
def fX10_look_L24 : Nat → Nat → Int32 → Int32 → Int32 → Int32 → am_H → Option (Int32 × am_H)
  | 0, _, _, _, _, _, _ => none
  | n + 1, v0, v1, v2, v3, v4, h =>
    if ((24 : Int32)) < v4 then
      some (v2, h)
    else
      Option.bind (fX10_look_L37 4000 v0 v1 v2 v3 v4 ((0 : Int32)) ((-1 : Int32)) h) fun lw21 =>
      Option.bind (
        if v3 ≤ lw21 then
          some v2
        else
          some v4) fun js23 =>
      Option.bind (
        if v3 ≤ lw21 then
          some v3
        else
          some lw21) fun js25 =>
      (fX10_passes v0 ((987 : Int32)) h).bind fun hh28 =>
      fX10_look_L24 n v0 v1 js23 js25 (v4 + (1 : Int32)) hh28
def fX10_look (a0 : Nat) (h : am_H) : Option (Int32 × am_H) :=
  (am_isO h a0 9).bind fun _ =>
  (am_pF h a0 9 0 (.int ((0 : Int32)))).bind fun hh1 =>
  am_b2 (fX10_whoNow a0 hh1) fun x4 hh5 =>
  (fX10_bits x4 hh5).bind fun x7 =>
  (fX10_triesNow a0 hh5).bind fun hh9 =>
  am_b2 (fX10_look_L24 4000 a0 x4 ((-1 : Int32)) x7 ((0 : Int32)) hh9) fun lw31 hh32 =>
  some (lw31, hh32)
set_option maxHeartbeats 4000000 in
set_option maxRecDepth 100000 in
theorem lX10_look_L37 {sc : Nat × (Nat → Int32)} : ∀ (n : Nat) (v0 : Nat) (v1 : Int32) (v2 : Int32) (v3 : Int32) (v4 : Int32) (v5 : Int32) (v6 : Int32) (h : am_H) (w5 : Int32), fX10_look_L37 n v0 v1 v2 v3 v4 v5 v6 h = some w5 → am_G sc (am_Cl am_T am_N sc 8) (am_at kX10_look) (fun t => t = ((84, [some (.ref v0), some (.int v1), some (.int v2), some (.int v3), some (.int v4), some (.int w5), none, none], []), h)) ((37, [some (.ref v0), some (.int v1), some (.int v2), some (.int v3), some (.int v4), some (.int v5), some (.int v6), none], []), h) := by
  intro n
  induction n with
  | zero => intro _ _ _ _ _ _ _ _ _ H; cases H
  | succ n ih =>
    intro v0 v1 v2 v3 v4 v5 v6 h w5 H
    rw [fX10_look_L37] at H
    refine am_G.fr 2 (g := (40, [some (.ref v0), some (.int v1), some (.int v2), some (.int v3), some (.int v4), some (.int v5), some (.int v6), none], [.ref v0, .int v6])) rfl ?_
    obtain ⟨x12, e11, H⟩ := am_bd H
    refine am_G.cl [.ref v0] [.int v6] (am_Cl.mono (by decide) (lX10_houses e11)) rfl rfl rfl rfl (Nat.le_of_ble_eq_true rfl) ?_
    by_cases c13 : x12 ≤ v6
    · rw [if_pos c13] at H
      refine am_G.br (tgt := 84) rfl rfl (if_pos c13) rfl ?_
      obtain rfl := Option.some.inj H
      refine am_G.fg [some (.ref v0), some (.int v1), some (.int v2), some (.int v3), some (.int v4), some (.int v5), none, none] (by simp only [am_sub, and_self]) ?_
      exact am_G.nd rfl
    · rw [if_neg c13] at H
      refine am_G.br (tgt := 46) rfl rfl (if_neg c13) rfl ?_
      refine am_G.fr 3 (g := (52, [some (.ref v0), some (.int v1), some (.int v2), some (.int v3), some (.int v4), some (.int v5), some (.int v6), none], [.int v6, .int ((987 : Int32)), .ref v0])) rfl ?_
      obtain ⟨x15, e14, H⟩ := am_bd H
      refine am_G.cl [.ref v0, .int ((987 : Int32)), .int v6] [] (am_Cl.mono (by decide) (lX10_inHouse e14)) rfl rfl rfl rfl (Nat.le_of_ble_eq_true rfl) ?_
      refine am_G.fr 2 (g := (57, [some (.ref v0), some (.int v1), some (.int v2), some (.int v3), some (.int v4), some (.int v5), some (.int v6), none], [.int (x15 &&& v1)])) rfl ?_
      obtain ⟨x17, e16, H⟩ := am_bd H
      refine am_G.cl [.int (x15 &&& v1)] [] (am_Cl.mono (by decide) (lX10_bits e16)) rfl rfl rfl rfl (Nat.le_of_ble_eq_true rfl) ?_
      refine am_G.fr 3 (g := (66, [some (.ref v0), some (.int v1), some (.int v2), some (.int v3), some (.int v4), some (.int v5), some (.int v6), some (.int x17)], [.int v5, .int x17])) rfl ?_
      obtain ⟨js18, E20, H⟩ := am_bd H
      refine am_G.sq (t := ((76, [some (.ref v0), some (.int v1), some (.int v2), some (.int v3), some (.int v4), none, some (.int v6), none], [.int js18]), h)) ?_ ?_
      · clear H
        have H := E20
        clear E20
        by_cases c19 : x17 ≤ v5
        · rw [if_pos c19] at H
          refine am_G.br (tgt := 74) rfl rfl (if_pos c19) rfl ?_
          refine am_G.fr 1 (g := (76, [some (.ref v0), some (.int v1), some (.int v2), some (.int v3), some (.int v4), some (.int v5), some (.int v6), some (.int x17)], [.int v5])) rfl ?_
          obtain rfl := Option.some.inj H
          refine am_G.fg [some (.ref v0), some (.int v1), some (.int v2), some (.int v3), some (.int v4), none, some (.int v6), none] (by simp only [am_sub, and_self]) ?_
          exact am_G.nd rfl
        · rw [if_neg c19] at H
          refine am_G.br (tgt := 69) rfl rfl (if_neg c19) rfl ?_
          refine am_G.fr 2 (g := (76, [some (.ref v0), some (.int v1), some (.int v2), some (.int v3), some (.int v4), some (.int v5), some (.int v6), some (.int x17)], [.int x17])) rfl ?_
          obtain rfl := Option.some.inj H
          refine am_G.fg [some (.ref v0), some (.int v1), some (.int v2), some (.int v3), some (.int v4), none, some (.int v6), none] (by simp only [am_sub, and_self]) ?_
          exact am_G.nd rfl
      · clear E20
        refine am_G.fr 3 (g := (37, [some (.ref v0), some (.int v1), some (.int v2), some (.int v3), some (.int v4), some (.int js18), some (.int (v6 + (1 : Int32))), none], [])) rfl ?_
        exact ih _ _ _ _ _ _ _ _ _ H
set_option maxHeartbeats 4000000 in
set_option maxRecDepth 100000 in
theorem lX10_look_L24 {sc : Nat × (Nat → Int32)} : ∀ (n : Nat) (v0 : Nat) (v1 : Int32) (v2 : Int32) (v3 : Int32) (v4 : Int32) (h : am_H) (w2 : Int32) (h1 : am_H), fX10_look_L24 n v0 v1 v2 v3 v4 h = some (w2, h1) → am_G sc (am_Cl am_T am_N sc 8) (am_at kX10_look) (fun t => t = ((123, [none, none, some (.int w2), none, none, none, none, none], []), h1)) ((24, [some (.ref v0), some (.int v1), some (.int v2), some (.int v3), some (.int v4), none, none, none], []), h) := by
  intro n
  induction n with
  | zero => intro _ _ _ _ _ _ _ _ H; cases H
  | succ n ih =>
    intro v0 v1 v2 v3 v4 h w2 h1 H
    rw [fX10_look_L24] at H
    refine am_G.fr 2 (g := (28, [some (.ref v0), some (.int v1), some (.int v2), some (.int v3), some (.int v4), none, none, none], [.int ((24 : Int32)), .int v4])) rfl ?_
    by_cases c10 : ((24 : Int32)) < v4
    · rw [if_pos c10] at H
      refine am_G.br (tgt := 123) rfl rfl (if_pos c10) rfl ?_
      obtain ⟨rfl, rfl⟩ := am_inj2 H
      refine am_G.fg [none, none, some (.int v2), none, none, none, none, none] (by simp only [am_sub, and_self]) ?_
      exact am_G.nd rfl
    · rw [if_neg c10] at H
      refine am_G.br (tgt := 31) rfl rfl (if_neg c10) rfl ?_
      refine am_G.fr 4 (g := (37, [some (.ref v0), some (.int v1), some (.int v2), some (.int v3), some (.int v4), some (.int ((0 : Int32))), some (.int ((-1 : Int32))), none], [])) rfl ?_
      obtain ⟨lw21, E22, H⟩ := am_bd H
      refine am_G.sq (lX10_look_L37 _ _ _ _ _ _ _ _ _ _ E22) ?_
      clear E22
      refine am_G.fr 2 (g := (87, [some (.ref v0), some (.int v1), some (.int v2), some (.int v3), some (.int v4), some (.int lw21), none, none], [.int v3, .int lw21])) rfl ?_
      obtain ⟨js23, E30, H⟩ := am_bd H
      refine am_G.sq (t := ((96, [some (.ref v0), some (.int v1), none, some (.int v3), some (.int v4), some (.int lw21), none, none], [.int js23]), h)) ?_ ?_
      · clear H
        have H := E30
        clear E30
        by_cases c24 : v3 ≤ lw21
        · rw [if_pos c24] at H
          refine am_G.br (tgt := 95) rfl rfl (if_pos c24) rfl ?_
          refine am_G.fr 1 (g := (96, [some (.ref v0), some (.int v1), some (.int v2), some (.int v3), some (.int v4), some (.int lw21), none, none], [.int v2])) rfl ?_
          obtain rfl := Option.some.inj H
          refine am_G.fg [some (.ref v0), some (.int v1), none, some (.int v3), some (.int v4), some (.int lw21), none, none] (by simp only [am_sub, and_self]) ?_
          exact am_G.nd rfl
        · rw [if_neg c24] at H
          refine am_G.br (tgt := 90) rfl rfl (if_neg c24) rfl ?_
          refine am_G.fr 2 (g := (96, [some (.ref v0), some (.int v1), some (.int v2), some (.int v3), some (.int v4), some (.int lw21), none, none], [.int v4])) rfl ?_
          obtain rfl := Option.some.inj H
          refine am_G.fg [some (.ref v0), some (.int v1), none, some (.int v3), some (.int v4), some (.int lw21), none, none] (by simp only [am_sub, and_self]) ?_
          exact am_G.nd rfl
      · clear E30
        refine am_G.fr 3 (g := (100, [some (.ref v0), some (.int v1), some (.int js23), some (.int v3), some (.int v4), some (.int lw21), none, none], [.int v3, .int lw21])) rfl ?_
        obtain ⟨js25, E29, H⟩ := am_bd H
        refine am_G.sq (t := ((109, [some (.ref v0), some (.int v1), some (.int js23), none, some (.int v4), none, none, none], [.int js25]), h)) ?_ ?_
        · clear H
          have H := E29
          clear E29
          by_cases c26 : v3 ≤ lw21
          · rw [if_pos c26] at H
            refine am_G.br (tgt := 108) rfl rfl (if_pos c26) rfl ?_
            refine am_G.fr 1 (g := (109, [some (.ref v0), some (.int v1), some (.int js23), some (.int v3), some (.int v4), some (.int lw21), none, none], [.int v3])) rfl ?_
            obtain rfl := Option.some.inj H
            refine am_G.fg [some (.ref v0), some (.int v1), some (.int js23), none, some (.int v4), none, none, none] (by simp only [am_sub, and_self]) ?_
            exact am_G.nd rfl
          · rw [if_neg c26] at H
            refine am_G.br (tgt := 103) rfl rfl (if_neg c26) rfl ?_
            refine am_G.fr 2 (g := (109, [some (.ref v0), some (.int v1), some (.int js23), some (.int v3), some (.int v4), some (.int lw21), none, none], [.int lw21])) rfl ?_
            obtain rfl := Option.some.inj H
            refine am_G.fg [some (.ref v0), some (.int v1), some (.int js23), none, some (.int v4), none, none, none] (by simp only [am_sub, and_self]) ?_
            exact am_G.nd rfl
        · clear E29
          refine am_G.fr 3 (g := (114, [some (.ref v0), some (.int v1), some (.int js23), some (.int js25), some (.int v4), none, none, none], [.int ((987 : Int32)), .ref v0])) rfl ?_
          obtain ⟨hh28, e27, H⟩ := am_bd H
          refine am_G.cl [.ref v0, .int ((987 : Int32))] [] (am_Cl.mono (by decide) (lX10_passes e27)) rfl rfl rfl rfl (Nat.le_of_ble_eq_true rfl) ?_
          refine am_G.fr 2 (g := (24, [some (.ref v0), some (.int v1), some (.int js23), some (.int js25), some (.int (v4 + (1 : Int32))), none, none, none], [])) rfl ?_
          exact ih _ _ _ _ _ _ _ _ H
set_option maxHeartbeats 4000000 in
set_option maxRecDepth 100000 in
theorem lX10_look {sc : Nat × (Nat → Int32)} {a0 : Nat} {h : am_H} {r : Int32} {h1 : am_H} (H : fX10_look a0 h = some (r, h1)) : am_Cl am_T am_N sc 9 225 [.ref a0] h (some (.int r)) h1 := by
  unfold fX10_look at H
  obtain ⟨_, hO, H⟩ := am_bd H
  obtain ⟨fs0, hO⟩ := am_isO_ok hO
  refine am_mk (q := qX10_look) rfl (fun _ => ⟨_, _, _, _, _, rfl, hO, rfl, rfl⟩) (fun z => absurd z (by decide)) (Nat.le_of_ble_eq_true rfl) rfl ?_
  show am_G sc (am_Cl am_T am_N sc 8) (am_at kX10_look) (fun t => t.2 = h1 ∧ am_ret 1 (am_at kX10_look) t.1 = some (some (.int r))) ((0, [some (.ref a0), none, none, none, none, none, none, none], []), h)
  refine am_G.fr 2 (g := (2, [some (.ref a0), none, none, none, none, none, none, none], [.int ((0 : Int32)), .ref a0])) rfl ?_
  obtain ⟨hh1, e2, H⟩ := am_bd H
  refine am_G.pF rfl e2 ?_
  refine am_G.fr 1 (g := (6, [some (.ref a0), none, none, none, none, none, none, none], [.ref a0])) rfl ?_
  obtain ⟨x4, hh5, e3, H⟩ := am_bd2 H
  refine am_G.cl [.ref a0] [] (am_Cl.mono (by decide) (lX10_whoNow e3)) rfl rfl rfl rfl (Nat.le_of_ble_eq_true rfl) ?_
  refine am_G.fr 4 (g := (13, [some (.ref a0), some (.int x4), some (.int ((-1 : Int32))), none, none, none, none, none], [.int x4])) rfl ?_
  obtain ⟨x7, e6, H⟩ := am_bd H
  refine am_G.cl [.int x4] [] (am_Cl.mono (by decide) (lX10_bits e6)) rfl rfl rfl rfl (Nat.le_of_ble_eq_true rfl) ?_
  refine am_G.fr 2 (g := (18, [some (.ref a0), some (.int x4), some (.int ((-1 : Int32))), some (.int x7), none, none, none, none], [.ref a0])) rfl ?_
  obtain ⟨hh9, e8, H⟩ := am_bd H
  refine am_G.cl [.ref a0] [] (am_Cl.mono (by decide) (lX10_triesNow e8)) rfl rfl rfl rfl (Nat.le_of_ble_eq_true rfl) ?_
  refine am_G.fr 2 (g := (24, [some (.ref a0), some (.int x4), some (.int ((-1 : Int32))), some (.int x7), some (.int ((0 : Int32))), none, none, none], [])) rfl ?_
  obtain ⟨lw31, hh32, E33, H⟩ := am_bd2 H
  refine am_G.sq (lX10_look_L24 _ _ _ _ _ _ _ _ _ E33) ?_
  clear E33
  refine am_G.fr 1 (g := (124, [none, none, some (.int lw31), none, none, none, none, none], [.int lw31])) rfl ?_
  obtain ⟨rfl, rfl⟩ := am_inj2 H
  exact am_G.nd ⟨rfl, rfl⟩
