/-! lifted methods -/
def fX10_through_L56 : Nat → Nat → Int32 → Int32 → Int32 → Int32 → Int32 → am_H → Option (Int32)
  | 0, _, _, _, _, _, _, _ => none
  | n + 1, v0, v2, v3, v4, v5, v6, h =>
    (fX10_houses v0 h).bind fun x13 =>
    if x13 ≤ v6 then
      some v5
    else
      Option.bind (
        if ¬ ((v3 >>> (v6 &&& 31)) &&& ((1 : Int32))) = ((1 : Int32)) then
          some ((0 : Int32))
        else
          (fX10_houseOf v0 v6 ((1 : Int32)) h).bind fun x18 =>
          some x18) fun js15 =>
      fX10_through_L56 n v0 v2 v3 v4 (v5 ||| js15) (v6 + (1 : Int32)) h
def fX10_through_L24 : Nat → Nat → Int32 → Int32 → Int32 → am_H → Option ((Unit) ⊕ (Int32 × am_H))
  | 0, _, _, _, _, _ => none
  | n + 1, v0, v2, v3, v4, h =>
    if ((4 : Int32)) ≤ v4 then
      some (.inl ())
    else
      (fX10_isHouse v0 v2 h).bind fun x9 =>
      if x9 = 0 then
        some (.inl ())
      else
        if ¬ ((v3 >>> (v2 &&& 31)) &&& ((1 : Int32))) = ((1 : Int32)) then
          Option.bind (fX10_through_L56 4000 v0 v2 v3 v4 v3 ((0 : Int32)) h) fun lw20 =>
          fX10_through_L24 n v0 v2 lw20 (v4 + (1 : Int32)) h
        else
          some (.inr (v4, h))
def fX10_through (a0 : Nat) (a1 : Int32) (a2 : Int32) (h : am_H) : Option (Int32 × am_H) :=
  (am_isO h a0 9).bind fun _ =>
  (am_pF h a0 9 0 (.int ((0 : Int32)))).bind fun hh1 =>
  (fX10_isHouse a0 a1 hh1).bind fun x4 =>
  Option.bind (
    if x4 = 0 then
      some ((0 : Int32))
    else
      some (((1 : Int32)) <<< (a1 &&& 31))) fun js5 =>
  (fX10_through_L24 4000 a0 a2 js5 ((0 : Int32)) hh1).bind fun o23 => match o23 with
    | .inl _ =>
      some ((-1 : Int32), hh1)
    | .inr y24 => some y24
set_option maxHeartbeats 4000000 in
set_option maxRecDepth 100000 in
theorem lX10_through_L56 {sc : Nat × (Nat → Int32)} : ∀ (n : Nat) (v0 : Nat) (v2 : Int32) (v3 : Int32) (v4 : Int32) (v5 : Int32) (v6 : Int32) (h : am_H) (w5 : Int32), fX10_through_L56 n v0 v2 v3 v4 v5 v6 h = some w5 → am_G sc (am_Cl am_T am_N sc 2) (am_at kX10_through) (fun t => t = ((97, [some (.ref v0), none, some (.int v2), none, some (.int v4), some (.int w5), none], []), h)) ((56, [some (.ref v0), none, some (.int v2), some (.int v3), some (.int v4), some (.int v5), some (.int v6)], []), h) := by
  intro n
  induction n with
  | zero => intro _ _ _ _ _ _ _ _ H; cases H
  | succ n ih =>
    intro v0 v2 v3 v4 v5 v6 h w5 H
    rw [fX10_through_L56] at H
    refine am_G.fr 2 (g := (59, [some (.ref v0), none, some (.int v2), some (.int v3), some (.int v4), some (.int v5), some (.int v6)], [.ref v0, .int v6])) rfl ?_
    obtain ⟨x13, e12, H⟩ := am_bd H
    refine am_G.cl [.ref v0] [.int v6] (am_Cl.mono (by decide) (lX10_houses e12)) rfl rfl rfl rfl (Nat.le_of_ble_eq_true rfl) ?_
    by_cases c14 : x13 ≤ v6
    · rw [if_pos c14] at H
      refine am_G.br (tgt := 97) rfl rfl (if_pos c14) rfl ?_
      obtain rfl := Option.some.inj H
      refine am_G.fg [some (.ref v0), none, some (.int v2), none, some (.int v4), some (.int v5), none] (by simp only [am_sub, and_self]) ?_
      exact am_G.nd rfl
    · rw [if_neg c14] at H
      refine am_G.br (tgt := 65) rfl rfl (if_neg c14) rfl ?_
      refine am_G.fr 7 (g := (74, [some (.ref v0), none, some (.int v2), some (.int v3), some (.int v4), some (.int v5), some (.int v6)], [.int ((1 : Int32)), .int ((v3 >>> (v6 &&& 31)) &&& ((1 : Int32))), .int v5])) rfl ?_
      obtain ⟨js15, E19, H⟩ := am_bd H
      refine am_G.sq (t := ((88, [some (.ref v0), none, some (.int v2), some (.int v3), some (.int v4), none, some (.int v6)], [.int js15, .int v5]), h)) ?_ ?_
      · clear H
        have H := E19
        clear E19
        by_cases c16 : ¬ ((v3 >>> (v6 &&& 31)) &&& ((1 : Int32))) = ((1 : Int32))
        · rw [if_pos c16] at H
          refine am_G.br (tgt := 87) rfl rfl (if_pos c16) rfl ?_
          refine am_G.fr 1 (g := (88, [some (.ref v0), none, some (.int v2), some (.int v3), some (.int v4), some (.int v5), some (.int v6)], [.int ((0 : Int32)), .int v5])) rfl ?_
          obtain rfl := Option.some.inj H
          refine am_G.fg [some (.ref v0), none, some (.int v2), some (.int v3), some (.int v4), none, some (.int v6)] (by simp only [am_sub, and_self]) ?_
          exact am_G.nd rfl
        · rw [if_neg c16] at H
          refine am_G.br (tgt := 77) rfl rfl (if_neg c16) rfl ?_
          refine am_G.fr 3 (g := (81, [some (.ref v0), none, some (.int v2), some (.int v3), some (.int v4), some (.int v5), some (.int v6)], [.int ((1 : Int32)), .int v6, .ref v0, .int v5])) rfl ?_
          obtain ⟨x18, e17, H⟩ := am_bd H
          refine am_G.cl [.ref v0, .int v6, .int ((1 : Int32))] [.int v5] (am_Cl.mono (by decide) (lX10_houseOf e17)) rfl rfl rfl rfl (Nat.le_of_ble_eq_true rfl) ?_
          refine am_G.fr 1 (g := (88, [some (.ref v0), none, some (.int v2), some (.int v3), some (.int v4), some (.int v5), some (.int v6)], [.int x18, .int v5])) rfl ?_
          obtain rfl := Option.some.inj H
          refine am_G.fg [some (.ref v0), none, some (.int v2), some (.int v3), some (.int v4), none, some (.int v6)] (by simp only [am_sub, and_self]) ?_
          exact am_G.nd rfl
      · clear E19
        refine am_G.fr 4 (g := (56, [some (.ref v0), none, some (.int v2), some (.int v3), some (.int v4), some (.int (v5 ||| js15)), some (.int (v6 + (1 : Int32)))], [])) rfl ?_
        exact ih _ _ _ _ _ _ _ _ H
set_option maxHeartbeats 4000000 in
set_option maxRecDepth 100000 in
theorem lX10_through_L24 {sc : Nat × (Nat → Int32)} : ∀ (n : Nat) (v0 : Nat) (v2 : Int32) (v3 : Int32) (v4 : Int32) (h : am_H) (o : (Unit) ⊕ (Int32 × am_H)), fX10_through_L24 n v0 v2 v3 v4 h = some o → am_G sc (am_Cl am_T am_N sc 2) (am_at kX10_through) (fun t => match o with
    | .inl _ => t = ((106, [none, none, none, none, none, none, none], []), h)
    | .inr y => t.2 = y.2 ∧ am_ret 1 (am_at kX10_through) t.1 = some (some (.int y.1))) ((24, [some (.ref v0), none, some (.int v2), some (.int v3), some (.int v4), none, none], []), h) := by
  intro n
  induction n with
  | zero => intro _ _ _ _ _ _ H; cases H
  | succ n ih =>
    intro v0 v2 v3 v4 h o H
    rw [fX10_through_L24] at H
    refine am_G.fr 2 (g := (27, [some (.ref v0), none, some (.int v2), some (.int v3), some (.int v4), none, none], [.int ((4 : Int32)), .int v4])) rfl ?_
    by_cases c7 : ((4 : Int32)) ≤ v4
    · rw [if_pos c7] at H
      refine am_G.br (tgt := 106) rfl rfl (if_pos c7) rfl ?_
      obtain rfl := Option.some.inj H
      refine am_G.fg [none, none, none, none, none, none, none] (by simp only [am_sub, and_self]) ?_
      exact am_G.nd rfl
    · rw [if_neg c7] at H
      refine am_G.br (tgt := 30) rfl rfl (if_neg c7) rfl ?_
      refine am_G.fr 2 (g := (32, [some (.ref v0), none, some (.int v2), some (.int v3), some (.int v4), none, none], [.int v2, .ref v0])) rfl ?_
      obtain ⟨x9, e8, H⟩ := am_bd H
      refine am_G.cl [.ref v0, .int v2] [] (am_Cl.mono (by decide) (lX10_isHouse e8)) rfl rfl rfl rfl (Nat.le_of_ble_eq_true rfl) ?_
      by_cases c10 : x9 = 0
      · rw [if_pos c10] at H
        refine am_G.br (tgt := 106) rfl rfl (if_pos c10) rfl ?_
        obtain rfl := Option.some.inj H
        refine am_G.fg [none, none, none, none, none, none, none] (by simp only [am_sub, and_self]) ?_
        exact am_G.nd rfl
      · rw [if_neg c10] at H
        refine am_G.br (tgt := 38) rfl rfl (if_neg c10) rfl ?_
        refine am_G.fr 6 (g := (44, [some (.ref v0), none, some (.int v2), some (.int v3), some (.int v4), none, none], [.int ((1 : Int32)), .int ((v3 >>> (v2 &&& 31)) &&& ((1 : Int32)))])) rfl ?_
        by_cases c11 : ¬ ((v3 >>> (v2 &&& 31)) &&& ((1 : Int32))) = ((1 : Int32))
        · rw [if_pos c11] at H
          refine am_G.br (tgt := 50) rfl rfl (if_pos c11) rfl ?_
          refine am_G.fr 4 (g := (56, [some (.ref v0), none, some (.int v2), some (.int v3), some (.int v4), some (.int v3), some (.int ((0 : Int32)))], [])) rfl ?_
          obtain ⟨lw20, E21, H⟩ := am_bd H
          refine am_G.sq (lX10_through_L56 _ _ _ _ _ _ _ _ _ E21) ?_
          clear E21
          refine am_G.fr 4 (g := (24, [some (.ref v0), none, some (.int v2), some (.int lw20), some (.int (v4 + (1 : Int32))), some (.int lw20), none], [])) rfl ?_
          refine am_G.fg [some (.ref v0), none, some (.int v2), some (.int lw20), some (.int (v4 + (1 : Int32))), none, none] (by simp only [am_sub, and_self]) ?_
          exact ih _ _ _ _ _ _ H
        · rw [if_neg c11] at H
          refine am_G.br (tgt := 47) rfl rfl (if_neg c11) rfl ?_
          refine am_G.fr 1 (g := (49, [some (.ref v0), none, some (.int v2), some (.int v3), some (.int v4), none, none], [.int v4])) rfl ?_
          obtain rfl := Option.some.inj H
          exact am_G.nd ⟨rfl, rfl⟩
set_option maxHeartbeats 4000000 in
set_option maxRecDepth 100000 in
theorem lX10_through {sc : Nat × (Nat → Int32)} {a0 : Nat} {a1 : Int32} {a2 : Int32} {h : am_H} {r : Int32} {h1 : am_H} (H : fX10_through a0 a1 a2 h = some (r, h1)) : am_Cl am_T am_N sc 3 226 [.ref a0, .int a1, .int a2] h (some (.int r)) h1 := by
  unfold fX10_through at H
  obtain ⟨_, hO, H⟩ := am_bd H
  obtain ⟨fs0, hO⟩ := am_isO_ok hO
  refine am_mk (q := qX10_through) rfl (fun _ => ⟨_, _, _, _, _, rfl, hO, rfl, rfl⟩) (fun z => absurd z (by decide)) (Nat.le_of_ble_eq_true rfl) rfl ?_
  show am_G sc (am_Cl am_T am_N sc 2) (am_at kX10_through) (fun t => t.2 = h1 ∧ am_ret 1 (am_at kX10_through) t.1 = some (some (.int r))) ((0, [some (.ref a0), some (.int a1), some (.int a2), none, none, none, none], []), h)
  refine am_G.fr 2 (g := (2, [some (.ref a0), some (.int a1), some (.int a2), none, none, none, none], [.int ((0 : Int32)), .ref a0])) rfl ?_
  obtain ⟨hh1, e2, H⟩ := am_bd H
  refine am_G.pF rfl e2 ?_
  refine am_G.fr 2 (g := (7, [some (.ref a0), some (.int a1), some (.int a2), none, none, none, none], [.int a1, .ref a0])) rfl ?_
  obtain ⟨x4, e3, H⟩ := am_bd H
  refine am_G.cl [.ref a0, .int a1] [] (am_Cl.mono (by decide) (lX10_isHouse e3)) rfl rfl rfl rfl (Nat.le_of_ble_eq_true rfl) ?_
  obtain ⟨js5, E25, H⟩ := am_bd H
  refine am_G.sq (t := ((20, [some (.ref a0), none, some (.int a2), none, none, none, none], [.int js5]), hh1)) ?_ ?_
  · clear H
    have H := E25
    clear E25
    by_cases c6 : x4 = 0
    · rw [if_pos c6] at H
      refine am_G.br (tgt := 19) rfl rfl (if_pos c6) rfl ?_
      refine am_G.fr 1 (g := (20, [some (.ref a0), some (.int a1), some (.int a2), none, none, none, none], [.int ((0 : Int32))])) rfl ?_
      obtain rfl := Option.some.inj H
      refine am_G.fg [some (.ref a0), none, some (.int a2), none, none, none, none] (by simp only [am_sub, and_self]) ?_
      exact am_G.nd rfl
    · rw [if_neg c6] at H
      refine am_G.br (tgt := 13) rfl rfl (if_neg c6) rfl ?_
      refine am_G.fr 4 (g := (20, [some (.ref a0), some (.int a1), some (.int a2), none, none, none, none], [.int (((1 : Int32)) <<< (a1 &&& 31))])) rfl ?_
      obtain rfl := Option.some.inj H
      refine am_G.fg [some (.ref a0), none, some (.int a2), none, none, none, none] (by simp only [am_sub, and_self]) ?_
      exact am_G.nd rfl
  · clear E25
    refine am_G.fr 3 (g := (24, [some (.ref a0), none, some (.int a2), some (.int js5), some (.int ((0 : Int32))), none, none], [])) rfl ?_
    obtain ⟨o23, E22, H⟩ := am_bd H
    have hL := lX10_through_L24 (sc := sc) _ _ _ _ _ _ _ E22
    clear E22
    rcases o23 with _ | y24
    · dsimp only at H
      refine am_G.sq hL ?_
      refine am_G.fr 1 (g := (107, [none, none, none, none, none, none, none], [.int ((-1 : Int32))])) rfl ?_
      obtain ⟨rfl, rfl⟩ := am_inj2 H
      exact am_G.nd ⟨rfl, rfl⟩
    · dsimp only at H
      obtain rfl := Option.some.inj H
      exact hL
def fX10_quiet_L9 : Nat → Nat → Int32 → Int32 → am_H → Option (Int32)
  | 0, _, _, _, _ => none
  | n + 1, v0, v1, v2, h =>
    (fX10_days v0 h).bind fun x4 =>
    if x4 ≤ v2 then
      some v1
    else
      Option.bind (
        if v1 < 0 then
          some v2
        else
          (am_gR h v0 9 24).bind fun state8 =>
          (am_aI h 0 state8 (((18 : Int32)) + v2)).bind fun x10 =>
          (am_gR h v0 9 24).bind fun state12 =>
          (am_aI h 0 state12 (((18 : Int32)) + v1)).bind fun x14 =>
          if x14 ≤ x10 then
            some v1
          else
            some v2) fun js6 =>
      fX10_quiet_L9 n v0 js6 (v2 + (1 : Int32)) h
def fX10_quiet (a0 : Nat) (h : am_H) : Option (Int32 × am_H) :=
  (am_isO h a0 9).bind fun _ =>
  (am_pF h a0 9 0 (.int ((0 : Int32)))).bind fun hh1 =>
  Option.bind (fX10_quiet_L9 4000 a0 ((-1 : Int32)) ((0 : Int32)) hh1) fun lw18 =>
  some (lw18, hh1)
set_option maxHeartbeats 4000000 in
set_option maxRecDepth 100000 in
theorem lX10_quiet_L9 {sc : Nat × (Nat → Int32)} : ∀ (n : Nat) (v0 : Nat) (v1 : Int32) (v2 : Int32) (h : am_H) (w1 : Int32), fX10_quiet_L9 n v0 v1 v2 h = some w1 → am_G sc (am_Cl am_T am_N sc 1) (am_at kX10_quiet) (fun t => t = ((54, [none, some (.int w1), none], []), h)) ((9, [some (.ref v0), some (.int v1), some (.int v2)], []), h) := by
  intro n
  induction n with
  | zero => intro _ _ _ _ _ H; cases H
  | succ n ih =>
    intro v0 v1 v2 h w1 H
    rw [fX10_quiet_L9] at H
    refine am_G.fr 2 (g := (11, [some (.ref v0), some (.int v1), some (.int v2)], [.ref v0, .int v2])) rfl ?_
    obtain ⟨x4, e3, H⟩ := am_bd H
    refine am_G.cl [.ref v0] [.int v2] (am_Cl.mono (by decide) (lX10_days e3)) rfl rfl rfl rfl (Nat.le_of_ble_eq_true rfl) ?_
    by_cases c5 : x4 ≤ v2
    · rw [if_pos c5] at H
      refine am_G.br (tgt := 54) rfl rfl (if_pos c5) rfl ?_
      obtain rfl := Option.some.inj H
      refine am_G.fg [none, some (.int v1), none] (by simp only [am_sub, and_self]) ?_
      exact am_G.nd rfl
    · rw [if_neg c5] at H
      refine am_G.br (tgt := 17) rfl rfl (if_neg c5) rfl ?_
      refine am_G.fr 1 (g := (18, [some (.ref v0), some (.int v1), some (.int v2)], [.int v1])) rfl ?_
      obtain ⟨js6, E17, H⟩ := am_bd H
      refine am_G.sq (t := ((47, [some (.ref v0), none, some (.int v2)], [.int js6]), h)) ?_ ?_
      · clear H
        have H := E17
        clear E17
        by_cases c7 : v1 < 0
        · rw [if_pos c7] at H
          refine am_G.br (tgt := 42) rfl rfl (if_pos c7) rfl ?_
          refine am_G.fr 2 (g := (47, [some (.ref v0), some (.int v1), some (.int v2)], [.int v2])) rfl ?_
          obtain rfl := Option.some.inj H
          refine am_G.fg [some (.ref v0), none, some (.int v2)] (by simp only [am_sub, and_self]) ?_
          exact am_G.nd rfl
        · rw [if_neg c7] at H
          refine am_G.br (tgt := 21) rfl rfl (if_neg c7) rfl ?_
          refine am_G.fr 1 (g := (22, [some (.ref v0), some (.int v1), some (.int v2)], [.ref v0])) rfl ?_
          obtain ⟨state8, e9, H⟩ := am_bd H
          refine am_G.gR rfl e9 ?_
          refine am_G.fr 3 (g := (29, [some (.ref v0), some (.int v1), some (.int v2)], [.int (((18 : Int32)) + v2), .ref state8])) rfl ?_
          obtain ⟨x10, e11, H⟩ := am_bd H
          refine am_G.aI rfl e11 ?_
          refine am_G.fr 1 (g := (31, [some (.ref v0), some (.int v1), some (.int v2)], [.ref v0, .int x10])) rfl ?_
          obtain ⟨state12, e13, H⟩ := am_bd H
          refine am_G.gR rfl e13 ?_
          refine am_G.fr 3 (g := (38, [some (.ref v0), some (.int v1), some (.int v2)], [.int (((18 : Int32)) + v1), .ref state12, .int x10])) rfl ?_
          obtain ⟨x14, e15, H⟩ := am_bd H
          refine am_G.aI rfl e15 ?_
          by_cases c16 : x14 ≤ x10
          · rw [if_pos c16] at H
            refine am_G.br (tgt := 46) rfl rfl (if_pos c16) rfl ?_
            refine am_G.fr 1 (g := (47, [some (.ref v0), some (.int v1), some (.int v2)], [.int v1])) rfl ?_
            obtain rfl := Option.some.inj H
            refine am_G.fg [some (.ref v0), none, some (.int v2)] (by simp only [am_sub, and_self]) ?_
            exact am_G.nd rfl
          · rw [if_neg c16] at H
            refine am_G.br (tgt := 42) rfl rfl (if_neg c16) rfl ?_
            refine am_G.fr 2 (g := (47, [some (.ref v0), some (.int v1), some (.int v2)], [.int v2])) rfl ?_
            obtain rfl := Option.some.inj H
            refine am_G.fg [some (.ref v0), none, some (.int v2)] (by simp only [am_sub, and_self]) ?_
            exact am_G.nd rfl
      · clear E17
        refine am_G.fr 3 (g := (9, [some (.ref v0), some (.int js6), some (.int (v2 + (1 : Int32)))], [])) rfl ?_
        exact ih _ _ _ _ _ H
set_option maxHeartbeats 4000000 in
set_option maxRecDepth 100000 in
theorem lX10_quiet {sc : Nat × (Nat → Int32)} {a0 : Nat} {h : am_H} {r : Int32} {h1 : am_H} (H : fX10_quiet a0 h = some (r, h1)) : am_Cl am_T am_N sc 2 227 [.ref a0] h (some (.int r)) h1 := by
  unfold fX10_quiet at H
  obtain ⟨_, hO, H⟩ := am_bd H
  obtain ⟨fs0, hO⟩ := am_isO_ok hO
  refine am_mk (q := qX10_quiet) rfl (fun _ => ⟨_, _, _, _, _, rfl, hO, rfl, rfl⟩) (fun z => absurd z (by decide)) (Nat.le_of_ble_eq_true rfl) rfl ?_
  show am_G sc (am_Cl am_T am_N sc 1) (am_at kX10_quiet) (fun t => t.2 = h1 ∧ am_ret 1 (am_at kX10_quiet) t.1 = some (some (.int r))) ((0, [some (.ref a0), none, none], []), h)
  refine am_G.fr 2 (g := (2, [some (.ref a0), none, none], [.int ((0 : Int32)), .ref a0])) rfl ?_
  obtain ⟨hh1, e2, H⟩ := am_bd H
  refine am_G.pF rfl e2 ?_
  refine am_G.fr 4 (g := (9, [some (.ref a0), some (.int ((-1 : Int32))), some (.int ((0 : Int32)))], [])) rfl ?_
  obtain ⟨lw18, E19, H⟩ := am_bd H
  refine am_G.sq (lX10_quiet_L9 _ _ _ _ _ _ E19) ?_
  clear E19
  refine am_G.fr 1 (g := (55, [none, some (.int lw18), none], [.int lw18])) rfl ?_
  obtain ⟨rfl, rfl⟩ := am_inj2 H
  exact am_G.nd ⟨rfl, rfl⟩
def fX10_peace_L9 : Nat → Nat → Int32 → Int32 → am_H → Option (Int32)
  | 0, _, _, _, _ => none
  | n + 1, v0, v1, v2, h =>
    (fX10_houses v0 h).bind fun x4 =>
    if x4 ≤ v2 then
      some v1
    else
      (fX10_inHouse v0 ((0 : Int32)) v2 h).bind fun x7 =>
      (fX10_bits x7 h).bind fun x9 =>
      (am_dv (x9 * (x9 - ((1 : Int32)))) ((2 : Int32))).bind fun q10 =>
      fX10_peace_L9 n v0 (v1 + q10) (v2 + (1 : Int32)) h
def fX10_peace (a0 : Nat) (h : am_H) : Option (Int32 × am_H) :=
  (am_isO h a0 9).bind fun _ =>
  (am_pF h a0 9 0 (.int ((0 : Int32)))).bind fun hh1 =>
  Option.bind (fX10_peace_L9 4000 a0 ((0 : Int32)) ((0 : Int32)) hh1) fun lw12 =>
  some (lw12, hh1)
set_option maxHeartbeats 4000000 in
set_option maxRecDepth 100000 in
theorem lX10_peace_L9 {sc : Nat × (Nat → Int32)} : ∀ (n : Nat) (v0 : Nat) (v1 : Int32) (v2 : Int32) (h : am_H) (w1 : Int32), fX10_peace_L9 n v0 v1 v2 h = some w1 → am_G sc (am_Cl am_T am_N sc 2) (am_at kX10_peace) (fun t => t = ((43, [none, some (.int w1), none, none], []), h)) ((9, [some (.ref v0), some (.int v1), some (.int v2), none], []), h) := by
  intro n
  induction n with
  | zero => intro _ _ _ _ _ H; cases H
  | succ n ih =>
    intro v0 v1 v2 h w1 H
    rw [fX10_peace_L9] at H
    refine am_G.fr 2 (g := (11, [some (.ref v0), some (.int v1), some (.int v2), none], [.ref v0, .int v2])) rfl ?_
    obtain ⟨x4, e3, H⟩ := am_bd H
    refine am_G.cl [.ref v0] [.int v2] (am_Cl.mono (by decide) (lX10_houses e3)) rfl rfl rfl rfl (Nat.le_of_ble_eq_true rfl) ?_
    by_cases c5 : x4 ≤ v2
    · rw [if_pos c5] at H
      refine am_G.br (tgt := 43) rfl rfl (if_pos c5) rfl ?_
      obtain rfl := Option.some.inj H
      refine am_G.fg [none, some (.int v1), none, none] (by simp only [am_sub, and_self]) ?_
      exact am_G.nd rfl
    · rw [if_neg c5] at H
      refine am_G.br (tgt := 17) rfl rfl (if_neg c5) rfl ?_
      refine am_G.fr 3 (g := (20, [some (.ref v0), some (.int v1), some (.int v2), none], [.int v2, .int ((0 : Int32)), .ref v0])) rfl ?_
      obtain ⟨x7, e6, H⟩ := am_bd H
      refine am_G.cl [.ref v0, .int ((0 : Int32)), .int v2] [] (am_Cl.mono (by decide) (lX10_inHouse e6)) rfl rfl rfl rfl (Nat.le_of_ble_eq_true rfl) ?_
      obtain ⟨x9, e8, H⟩ := am_bd H
      refine am_G.cl [.int x7] [] (am_Cl.mono (by decide) (lX10_bits e8)) rfl rfl rfl rfl (Nat.le_of_ble_eq_true rfl) ?_
      refine am_G.fr 8 (g := (34, [some (.ref v0), some (.int v1), some (.int v2), some (.int x9)], [.int ((2 : Int32)), .int (x9 * (x9 - ((1 : Int32)))), .int v1])) rfl ?_
      obtain ⟨q10, e11, H⟩ := am_bd H
      refine am_G.dv rfl e11 ?_
      refine am_G.fr 4 (g := (9, [some (.ref v0), some (.int (v1 + q10)), some (.int (v2 + (1 : Int32))), some (.int x9)], [])) rfl ?_
      refine am_G.fg [some (.ref v0), some (.int (v1 + q10)), some (.int (v2 + (1 : Int32))), none] (by simp only [am_sub, and_self]) ?_
      exact ih _ _ _ _ _ H
set_option maxHeartbeats 4000000 in
set_option maxRecDepth 100000 in
theorem lX10_peace {sc : Nat × (Nat → Int32)} {a0 : Nat} {h : am_H} {r : Int32} {h1 : am_H} (H : fX10_peace a0 h = some (r, h1)) : am_Cl am_T am_N sc 3 228 [.ref a0] h (some (.int r)) h1 := by
  unfold fX10_peace at H
  obtain ⟨_, hO, H⟩ := am_bd H
  obtain ⟨fs0, hO⟩ := am_isO_ok hO
  refine am_mk (q := qX10_peace) rfl (fun _ => ⟨_, _, _, _, _, rfl, hO, rfl, rfl⟩) (fun z => absurd z (by decide)) (Nat.le_of_ble_eq_true rfl) rfl ?_
  show am_G sc (am_Cl am_T am_N sc 2) (am_at kX10_peace) (fun t => t.2 = h1 ∧ am_ret 1 (am_at kX10_peace) t.1 = some (some (.int r))) ((0, [some (.ref a0), none, none, none], []), h)
  refine am_G.fr 2 (g := (2, [some (.ref a0), none, none, none], [.int ((0 : Int32)), .ref a0])) rfl ?_
  obtain ⟨hh1, e2, H⟩ := am_bd H
  refine am_G.pF rfl e2 ?_
  refine am_G.fr 4 (g := (9, [some (.ref a0), some (.int ((0 : Int32))), some (.int ((0 : Int32))), none], [])) rfl ?_
  obtain ⟨lw12, E13, H⟩ := am_bd H
  refine am_G.sq (lX10_peace_L9 _ _ _ _ _ _ E13) ?_
  clear E13
  refine am_G.fr 1 (g := (44, [none, some (.int lw12), none, none], [.int lw12])) rfl ?_
  obtain ⟨rfl, rfl⟩ := am_inj2 H
  exact am_G.nd ⟨rfl, rfl⟩
def fX10_eldest_L9 : Nat → Nat → Int32 → Int32 → Int32 → am_H → Option (Int32)
  | 0, _, _, _, _, _ => none
  | n + 1, v0, v1, v2, v3, h =>
    (fX10_days v0 h).bind fun x4 =>
    if x4 ≤ v3 then
      some v2
    else
      (fX10_isHouse v0 v1 h).bind fun x7 =>
      if x7 = 0 then
        some v2
      else
        (am_gR h v0 9 24).bind fun state9 =>
        (am_aI h 0 state9 (((6 : Int32)) + v3)).bind fun x11 =>
        Option.bind (
          if ¬ x11 = v1 then
            some v2
          else
            if v2 < 0 then
              some v3
            else
              (am_gR h v0 9 24).bind fun state16 =>
              (am_aI h 0 state16 (((12 : Int32)) + v3)).bind fun x18 =>
              (am_gR h v0 9 24).bind fun state20 =>
              (am_aI h 0 state20 (((12 : Int32)) + v2)).bind fun x22 =>
              if x18 ≤ x22 then
                some v2
              else
                some v3) fun js13 =>
        fX10_eldest_L9 n v0 v1 js13 (v3 + (1 : Int32)) h
def fX10_eldest (a0 : Nat) (a1 : Int32) (h : am_H) : Option (Int32 × am_H) :=
  (am_isO h a0 9).bind fun _ =>
  (am_pF h a0 9 0 (.int ((0 : Int32)))).bind fun hh1 =>
  Option.bind (fX10_eldest_L9 4000 a0 a1 ((-1 : Int32)) ((0 : Int32)) hh1) fun lw26 =>
  some (lw26, hh1)
set_option maxHeartbeats 4000000 in
set_option maxRecDepth 100000 in
theorem lX10_eldest_L9 {sc : Nat × (Nat → Int32)} : ∀ (n : Nat) (v0 : Nat) (v1 : Int32) (v2 : Int32) (v3 : Int32) (h : am_H) (w2 : Int32), fX10_eldest_L9 n v0 v1 v2 v3 h = some w2 → am_G sc (am_Cl am_T am_N sc 2) (am_at kX10_eldest) (fun t => t = ((75, [none, none, some (.int w2), none], []), h)) ((9, [some (.ref v0), some (.int v1), some (.int v2), some (.int v3)], []), h) := by
  intro n
  induction n with
  | zero => intro _ _ _ _ _ _ H; cases H
  | succ n ih =>
    intro v0 v1 v2 v3 h w2 H
    rw [fX10_eldest_L9] at H
    refine am_G.fr 2 (g := (11, [some (.ref v0), some (.int v1), some (.int v2), some (.int v3)], [.ref v0, .int v3])) rfl ?_
    obtain ⟨x4, e3, H⟩ := am_bd H
    refine am_G.cl [.ref v0] [.int v3] (am_Cl.mono (by decide) (lX10_days e3)) rfl rfl rfl rfl (Nat.le_of_ble_eq_true rfl) ?_
    by_cases c5 : x4 ≤ v3
    · rw [if_pos c5] at H
      refine am_G.br (tgt := 75) rfl rfl (if_pos c5) rfl ?_
      obtain rfl := Option.some.inj H
      refine am_G.fg [none, none, some (.int v2), none] (by simp only [am_sub, and_self]) ?_
      exact am_G.nd rfl
    · rw [if_neg c5] at H
      refine am_G.br (tgt := 17) rfl rfl (if_neg c5) rfl ?_
      refine am_G.fr 2 (g := (19, [some (.ref v0), some (.int v1), some (.int v2), some (.int v3)], [.int v1, .ref v0])) rfl ?_
      obtain ⟨x7, e6, H⟩ := am_bd H
      refine am_G.cl [.ref v0, .int v1] [] (am_Cl.mono (by decide) (lX10_isHouse e6)) rfl rfl rfl rfl (Nat.le_of_ble_eq_true rfl) ?_
      by_cases c8 : x7 = 0
      · rw [if_pos c8] at H
        refine am_G.br (tgt := 75) rfl rfl (if_pos c8) rfl ?_
        obtain rfl := Option.some.inj H
        refine am_G.fg [none, none, some (.int v2), none] (by simp only [am_sub, and_self]) ?_
        exact am_G.nd rfl
      · rw [if_neg c8] at H
        refine am_G.br (tgt := 25) rfl rfl (if_neg c8) rfl ?_
        refine am_G.fr 1 (g := (26, [some (.ref v0), some (.int v1), some (.int v2), some (.int v3)], [.ref v0])) rfl ?_
        obtain ⟨state9, e10, H⟩ := am_bd H
        refine am_G.gR rfl e10 ?_
        refine am_G.fr 3 (g := (33, [some (.ref v0), some (.int v1), some (.int v2), some (.int v3)], [.int (((6 : Int32)) + v3), .ref state9])) rfl ?_
        obtain ⟨x11, e12, H⟩ := am_bd H
        refine am_G.aI rfl e12 ?_
        refine am_G.fr 1 (g := (35, [some (.ref v0), some (.int v1), some (.int v2), some (.int v3)], [.int v1, .int x11])) rfl ?_
        obtain ⟨js13, E25, H⟩ := am_bd H
        refine am_G.sq (t := ((68, [some (.ref v0), some (.int v1), none, some (.int v3)], [.int js13]), h)) ?_ ?_
        · clear H
          have H := E25
          clear E25
          by_cases c14 : ¬ x11 = v1
          · rw [if_pos c14] at H
            refine am_G.br (tgt := 67) rfl rfl (if_pos c14) rfl ?_
            refine am_G.fr 1 (g := (68, [some (.ref v0), some (.int v1), some (.int v2), some (.int v3)], [.int v2])) rfl ?_
            obtain rfl := Option.some.inj H
            refine am_G.fg [some (.ref v0), some (.int v1), none, some (.int v3)] (by simp only [am_sub, and_self]) ?_
            exact am_G.nd rfl
          · rw [if_neg c14] at H
            refine am_G.br (tgt := 38) rfl rfl (if_neg c14) rfl ?_
            refine am_G.fr 1 (g := (39, [some (.ref v0), some (.int v1), some (.int v2), some (.int v3)], [.int v2])) rfl ?_
            by_cases c15 : v2 < 0
            · rw [if_pos c15] at H
              refine am_G.br (tgt := 63) rfl rfl (if_pos c15) rfl ?_
              refine am_G.fr 2 (g := (68, [some (.ref v0), some (.int v1), some (.int v2), some (.int v3)], [.int v3])) rfl ?_
              obtain rfl := Option.some.inj H
              refine am_G.fg [some (.ref v0), some (.int v1), none, some (.int v3)] (by simp only [am_sub, and_self]) ?_
              exact am_G.nd rfl
            · rw [if_neg c15] at H
              refine am_G.br (tgt := 42) rfl rfl (if_neg c15) rfl ?_
              refine am_G.fr 1 (g := (43, [some (.ref v0), some (.int v1), some (.int v2), some (.int v3)], [.ref v0])) rfl ?_
              obtain ⟨state16, e17, H⟩ := am_bd H
              refine am_G.gR rfl e17 ?_
              refine am_G.fr 3 (g := (50, [some (.ref v0), some (.int v1), some (.int v2), some (.int v3)], [.int (((12 : Int32)) + v3), .ref state16])) rfl ?_
              obtain ⟨x18, e19, H⟩ := am_bd H
              refine am_G.aI rfl e19 ?_
              refine am_G.fr 1 (g := (52, [some (.ref v0), some (.int v1), some (.int v2), some (.int v3)], [.ref v0, .int x18])) rfl ?_
              obtain ⟨state20, e21, H⟩ := am_bd H
              refine am_G.gR rfl e21 ?_
              refine am_G.fr 3 (g := (59, [some (.ref v0), some (.int v1), some (.int v2), some (.int v3)], [.int (((12 : Int32)) + v2), .ref state20, .int x18])) rfl ?_
              obtain ⟨x22, e23, H⟩ := am_bd H
              refine am_G.aI rfl e23 ?_
              by_cases c24 : x18 ≤ x22
              · rw [if_pos c24] at H
                refine am_G.br (tgt := 67) rfl rfl (if_pos c24) rfl ?_
                refine am_G.fr 1 (g := (68, [some (.ref v0), some (.int v1), some (.int v2), some (.int v3)], [.int v2])) rfl ?_
                obtain rfl := Option.some.inj H
                refine am_G.fg [some (.ref v0), some (.int v1), none, some (.int v3)] (by simp only [am_sub, and_self]) ?_
                exact am_G.nd rfl
              · rw [if_neg c24] at H
                refine am_G.br (tgt := 63) rfl rfl (if_neg c24) rfl ?_
                refine am_G.fr 2 (g := (68, [some (.ref v0), some (.int v1), some (.int v2), some (.int v3)], [.int v3])) rfl ?_
                obtain rfl := Option.some.inj H
                refine am_G.fg [some (.ref v0), some (.int v1), none, some (.int v3)] (by simp only [am_sub, and_self]) ?_
                exact am_G.nd rfl
        · clear E25
          refine am_G.fr 3 (g := (9, [some (.ref v0), some (.int v1), some (.int js13), some (.int (v3 + (1 : Int32)))], [])) rfl ?_
          exact ih _ _ _ _ _ _ H
set_option maxHeartbeats 4000000 in
set_option maxRecDepth 100000 in
theorem lX10_eldest {sc : Nat × (Nat → Int32)} {a0 : Nat} {a1 : Int32} {h : am_H} {r : Int32} {h1 : am_H} (H : fX10_eldest a0 a1 h = some (r, h1)) : am_Cl am_T am_N sc 3 229 [.ref a0, .int a1] h (some (.int r)) h1 := by
  unfold fX10_eldest at H
  obtain ⟨_, hO, H⟩ := am_bd H
  obtain ⟨fs0, hO⟩ := am_isO_ok hO
  refine am_mk (q := qX10_eldest) rfl (fun _ => ⟨_, _, _, _, _, rfl, hO, rfl, rfl⟩) (fun z => absurd z (by decide)) (Nat.le_of_ble_eq_true rfl) rfl ?_
  show am_G sc (am_Cl am_T am_N sc 2) (am_at kX10_eldest) (fun t => t.2 = h1 ∧ am_ret 1 (am_at kX10_eldest) t.1 = some (some (.int r))) ((0, [some (.ref a0), some (.int a1), none, none], []), h)
  refine am_G.fr 2 (g := (2, [some (.ref a0), some (.int a1), none, none], [.int ((0 : Int32)), .ref a0])) rfl ?_
  obtain ⟨hh1, e2, H⟩ := am_bd H
  refine am_G.pF rfl e2 ?_
  refine am_G.fr 4 (g := (9, [some (.ref a0), some (.int a1), some (.int ((-1 : Int32))), some (.int ((0 : Int32)))], [])) rfl ?_
  obtain ⟨lw26, E27, H⟩ := am_bd H
  refine am_G.sq (lX10_eldest_L9 _ _ _ _ _ _ _ E27) ?_
  clear E27
  refine am_G.fr 1 (g := (76, [none, none, some (.int lw26), none], [.int lw26])) rfl ?_
  obtain ⟨rfl, rfl⟩ := am_inj2 H
  exact am_G.nd ⟨rfl, rfl⟩
def fX10_loudest_L11 : Nat → Nat → Int32 → Int32 → Int32 → am_H → Option (Int32)
  | 0, _, _, _, _, _ => none
  | n + 1, v0, v1, v2, v3, h =>
    (fX10_houses v0 h).bind fun x4 =>
    if x4 ≤ v3 then
      some v1
    else
      (fX10_talkIn v0 ((0 : Int32)) v3 h).bind fun x7 =>
      Option.bind (
        if x7 ≤ v2 then
          some v1
        else
          some v3) fun js8 =>
      (fX10_talkIn v0 ((0 : Int32)) v3 h).bind fun x11 =>
      Option.bind (
        if x11 ≤ v2 then
          some v2
        else
          (fX10_talkIn v0 ((0 : Int32)) v3 h).bind fun x15 =>
          some x15) fun js12 =>
      fX10_loudest_L11 n v0 js8 js12 (v3 + (1 : Int32)) h
def fX10_loudest (a0 : Nat) (h : am_H) : Option (Int32 × am_H) :=
  (am_isO h a0 9).bind fun _ =>
  (am_pF h a0 9 0 (.int ((0 : Int32)))).bind fun hh1 =>
  Option.bind (fX10_loudest_L11 4000 a0 ((-1 : Int32)) ((0 : Int32)) ((0 : Int32)) hh1) fun lw18 =>
  some (lw18, hh1)
set_option maxHeartbeats 4000000 in
set_option maxRecDepth 100000 in
theorem lX10_loudest_L11 {sc : Nat × (Nat → Int32)} : ∀ (n : Nat) (v0 : Nat) (v1 : Int32) (v2 : Int32) (v3 : Int32) (h : am_H) (w1 : Int32), fX10_loudest_L11 n v0 v1 v2 v3 h = some w1 → am_G sc (am_Cl am_T am_N sc 2) (am_at kX10_loudest) (fun t => t = ((62, [none, some (.int w1), none, none], []), h)) ((11, [some (.ref v0), some (.int v1), some (.int v2), some (.int v3)], []), h) := by
  intro n
  induction n with
  | zero => intro _ _ _ _ _ _ H; cases H
  | succ n ih =>
    intro v0 v1 v2 v3 h w1 H
    rw [fX10_loudest_L11] at H
    refine am_G.fr 2 (g := (13, [some (.ref v0), some (.int v1), some (.int v2), some (.int v3)], [.ref v0, .int v3])) rfl ?_
    obtain ⟨x4, e3, H⟩ := am_bd H
    refine am_G.cl [.ref v0] [.int v3] (am_Cl.mono (by decide) (lX10_houses e3)) rfl rfl rfl rfl (Nat.le_of_ble_eq_true rfl) ?_
    by_cases c5 : x4 ≤ v3
    · rw [if_pos c5] at H
      refine am_G.br (tgt := 62) rfl rfl (if_pos c5) rfl ?_
      obtain rfl := Option.some.inj H
      refine am_G.fg [none, some (.int v1), none, none] (by simp only [am_sub, and_self]) ?_
      exact am_G.nd rfl
    · rw [if_neg c5] at H
      refine am_G.br (tgt := 19) rfl rfl (if_neg c5) rfl ?_
      refine am_G.fr 3 (g := (22, [some (.ref v0), some (.int v1), some (.int v2), some (.int v3)], [.int v3, .int ((0 : Int32)), .ref v0])) rfl ?_
      obtain ⟨x7, e6, H⟩ := am_bd H
      refine am_G.cl [.ref v0, .int ((0 : Int32)), .int v3] [] (am_Cl.mono (by decide) (lX10_talkIn e6)) rfl rfl rfl rfl (Nat.le_of_ble_eq_true rfl) ?_
      refine am_G.fr 1 (g := (26, [some (.ref v0), some (.int v1), some (.int v2), some (.int v3)], [.int v2, .int x7])) rfl ?_
      obtain ⟨js8, E17, H⟩ := am_bd H
      refine am_G.sq (t := ((34, [some (.ref v0), none, some (.int v2), some (.int v3)], [.int js8]), h)) ?_ ?_
      · clear H
        have H := E17
        clear E17
        by_cases c9 : x7 ≤ v2
        · rw [if_pos c9] at H
          refine am_G.br (tgt := 33) rfl rfl (if_pos c9) rfl ?_
          refine am_G.fr 1 (g := (34, [some (.ref v0), some (.int v1), some (.int v2), some (.int v3)], [.int v1])) rfl ?_
          obtain rfl := Option.some.inj H
          refine am_G.fg [some (.ref v0), none, some (.int v2), some (.int v3)] (by simp only [am_sub, and_self]) ?_
          exact am_G.nd rfl
        · rw [if_neg c9] at H
          refine am_G.br (tgt := 29) rfl rfl (if_neg c9) rfl ?_
          refine am_G.fr 2 (g := (34, [some (.ref v0), some (.int v1), some (.int v2), some (.int v3)], [.int v3])) rfl ?_
          obtain rfl := Option.some.inj H
          refine am_G.fg [some (.ref v0), none, some (.int v2), some (.int v3)] (by simp only [am_sub, and_self]) ?_
          exact am_G.nd rfl
      · clear E17
        refine am_G.fr 4 (g := (38, [some (.ref v0), some (.int js8), some (.int v2), some (.int v3)], [.int v3, .int ((0 : Int32)), .ref v0])) rfl ?_
        obtain ⟨x11, e10, H⟩ := am_bd H
        refine am_G.cl [.ref v0, .int ((0 : Int32)), .int v3] [] (am_Cl.mono (by decide) (lX10_talkIn e10)) rfl rfl rfl rfl (Nat.le_of_ble_eq_true rfl) ?_
        refine am_G.fr 1 (g := (42, [some (.ref v0), some (.int js8), some (.int v2), some (.int v3)], [.int v2, .int x11])) rfl ?_
        obtain ⟨js12, E16, H⟩ := am_bd H
        refine am_G.sq (t := ((55, [some (.ref v0), some (.int js8), none, some (.int v3)], [.int js12]), h)) ?_ ?_
        · clear H
          have H := E16
          clear E16
          by_cases c13 : x11 ≤ v2
          · rw [if_pos c13] at H
            refine am_G.br (tgt := 54) rfl rfl (if_pos c13) rfl ?_
            refine am_G.fr 1 (g := (55, [some (.ref v0), some (.int js8), some (.int v2), some (.int v3)], [.int v2])) rfl ?_
            obtain rfl := Option.some.inj H
            refine am_G.fg [some (.ref v0), some (.int js8), none, some (.int v3)] (by simp only [am_sub, and_self]) ?_
            exact am_G.nd rfl
          · rw [if_neg c13] at H
            refine am_G.br (tgt := 45) rfl rfl (if_neg c13) rfl ?_
            refine am_G.fr 3 (g := (48, [some (.ref v0), some (.int js8), some (.int v2), some (.int v3)], [.int v3, .int ((0 : Int32)), .ref v0])) rfl ?_
            obtain ⟨x15, e14, H⟩ := am_bd H
            refine am_G.cl [.ref v0, .int ((0 : Int32)), .int v3] [] (am_Cl.mono (by decide) (lX10_talkIn e14)) rfl rfl rfl rfl (Nat.le_of_ble_eq_true rfl) ?_
            refine am_G.fr 1 (g := (55, [some (.ref v0), some (.int js8), some (.int v2), some (.int v3)], [.int x15])) rfl ?_
            obtain rfl := Option.some.inj H
            refine am_G.fg [some (.ref v0), some (.int js8), none, some (.int v3)] (by simp only [am_sub, and_self]) ?_
            exact am_G.nd rfl
        · clear E16
          refine am_G.fr 3 (g := (11, [some (.ref v0), some (.int js8), some (.int js12), some (.int (v3 + (1 : Int32)))], [])) rfl ?_
          exact ih _ _ _ _ _ _ H
set_option maxHeartbeats 4000000 in
set_option maxRecDepth 100000 in
theorem lX10_loudest {sc : Nat × (Nat → Int32)} {a0 : Nat} {h : am_H} {r : Int32} {h1 : am_H} (H : fX10_loudest a0 h = some (r, h1)) : am_Cl am_T am_N sc 3 230 [.ref a0] h (some (.int r)) h1 := by
  unfold fX10_loudest at H
  obtain ⟨_, hO, H⟩ := am_bd H
  obtain ⟨fs0, hO⟩ := am_isO_ok hO
  refine am_mk (q := qX10_loudest) rfl (fun _ => ⟨_, _, _, _, _, rfl, hO, rfl, rfl⟩) (fun z => absurd z (by decide)) (Nat.le_of_ble_eq_true rfl) rfl ?_
  show am_G sc (am_Cl am_T am_N sc 2) (am_at kX10_loudest) (fun t => t.2 = h1 ∧ am_ret 1 (am_at kX10_loudest) t.1 = some (some (.int r))) ((0, [some (.ref a0), none, none, none], []), h)
  refine am_G.fr 2 (g := (2, [some (.ref a0), none, none, none], [.int ((0 : Int32)), .ref a0])) rfl ?_
  obtain ⟨hh1, e2, H⟩ := am_bd H
  refine am_G.pF rfl e2 ?_
  refine am_G.fr 6 (g := (11, [some (.ref a0), some (.int ((-1 : Int32))), some (.int ((0 : Int32))), some (.int ((0 : Int32)))], [])) rfl ?_
  obtain ⟨lw18, E19, H⟩ := am_bd H
  refine am_G.sq (lX10_loudest_L11 _ _ _ _ _ _ _ E19) ?_
  clear E19
  refine am_G.fr 1 (g := (63, [none, some (.int lw18), none, none], [.int lw18])) rfl ?_
  obtain ⟨rfl, rfl⟩ := am_inj2 H
  exact am_G.nd ⟨rfl, rfl⟩
def fX10_chance_L44 : Nat → Nat → Int32 → Int32 → Int32 → Int64 → Int64 → Int32 → am_H → Option (Int64)
  | 0, _, _, _, _, _, _, _, _ => none
  | n + 1, v0, v1, v2, v3, v4, v6, v8, h =>
    if v2 ≤ v8 then
      some v4
    else
      fX10_chance_L44 n v0 v1 v2 v3 (v4 * ((10 : Int64))) v6 (v8 + (1 : Int32)) h
def fX10_chance_L135 : Nat → Nat → Int32 → Int32 → Int32 → Int64 → Int64 → Int32 → Int64 → Int32 → Int32 → Int32 → Int32 → am_H → Option (am_H)
  | 0, _, _, _, _, _, _, _, _, _, _, _, _, _ => none
  | n + 1, v0, v1, v2, v3, v4, v6, v8, v9, v11, v12, v13, v14, h =>
    (fX10_days v0 h).bind fun x24 =>
    if x24 ≤ v14 then
      some h
    else
      if v13 = 0 then
        some h
      else
        (fX10_leaves v0 ((987 : Int32)) v14 h).bind fun hh28 =>
        fX10_chance_L135 n v0 v1 v2 v3 v4 v6 v8 v9 v11 v12 v13 (v14 + (1 : Int32)) hh28
def fX10_chance_L88 : Nat → Nat → Int32 → Int32 → Int32 → Int64 → Int64 → Int32 → Int64 → Int32 → Int32 → am_H → Option (Int64 × Int32 × am_H)
  | 0, _, _, _, _, _, _, _, _, _, _, _ => none
  | n + 1, v0, v1, v2, v3, v4, v6, v8, v9, v11, v12, h =>
    if v2 ≤ v12 then
      some (v9, v11, h)
    else
      Option.bind (
        if ¬ ((v8 >>> (v12 &&& 31)) &&& ((1 : Int32))) = ((1 : Int32)) then
          some ((0 : Int32))
        else
          some ((1 : Int32))) fun js19 =>
      Option.bind (
        if js19 = 0 then
          some ((((10 : Int32)) - v3).toInt64)
        else
          some v3.toInt64) fun js21 =>
      Option.bind (fX10_chance_L135 4000 v0 v1 v2 v3 v4 v6 v8 (v9 * js21) v11 v12 js19 ((0 : Int32)) h) fun hh29 =>
      (fX10_passes v0 ((987 : Int32)) hh29).bind fun hh32 =>
      (am_gI hh32 v0 9 29).bind fun off33 =>
      fX10_chance_L88 n v0 v1 v2 v3 v4 v6 v8 (v9 * js21) (v11 ||| off33) (v12 + (1 : Int32)) hh32
def fX10_chance_L67 : Nat → Nat → Int32 → Int32 → Int32 → Int64 → Int64 → Int32 → am_H → Option (Int64 × am_H)
  | 0, _, _, _, _, _, _, _, _ => none
  | n + 1, v0, v1, v2, v3, v4, v6, v8, h =>
    if (((1 : Int32)) <<< (v2 &&& 31)) ≤ v8 then
      some (v6, h)
    else
      (fX10_triesNow v0 h).bind fun hh17 =>
      am_b3 (fX10_chance_L88 4000 v0 v1 v2 v3 v4 v6 v8 ((1 : Int64)) ((0 : Int32)) ((0 : Int32)) hh17) fun lw37 lw38 hh39 =>
      Option.bind (
        if ¬ ((lw38 >>> (v1 &&& 31)) &&& ((1 : Int32))) = ((1 : Int32)) then
          some ((0 : Int64))
        else
          some lw37) fun js41 =>
      fX10_chance_L67 n v0 v1 v2 v3 v4 (v6 + js41) (v8 + (1 : Int32)) hh39
def fX10_chance (a0 : Nat) (a1 : Int32) (a2 : Int32) (a3 : Int32) (h : am_H) : Option (Int32 × am_H) :=
  (am_isO h a0 9).bind fun _ =>
  (am_pF h a0 9 0 (.int ((0 : Int32)))).bind fun hh1 =>
  (fX10_isDay a0 a1 hh1).bind fun x4 =>
  if x4 = 0 then
    some ((-1 : Int32), hh1)
  else
    (fX10_within a2 ((1 : Int32)) ((6 : Int32)) hh1).bind fun x7 =>
    if x7 = 0 then
      some ((-1 : Int32), hh1)
    else
      (fX10_within a3 ((0 : Int32)) ((10 : Int32)) hh1).bind fun x10 =>
      if ¬ x10 = 0 then
        Option.bind (fX10_chance_L44 4000 a0 a1 a2 a3 ((1 : Int64)) ((0 : Int64)) ((0 : Int32)) hh1) fun lw13 =>
        am_b2 (fX10_chance_L67 4000 a0 a1 a2 a3 lw13 ((0 : Int64)) ((0 : Int32)) hh1) fun lw44 hh45 =>
        (am_dvL (lw44 * ((1000000 : Int64))) lw13).bind fun q47 =>
        some (q47.toInt32, hh45)
      else
        some ((-1 : Int32), hh1)
set_option maxHeartbeats 4000000 in
set_option maxRecDepth 100000 in
theorem lX10_chance_L44 {sc : Nat × (Nat → Int32)} : ∀ (n : Nat) (v0 : Nat) (v1 : Int32) (v2 : Int32) (v3 : Int32) (v4 : Int64) (v6 : Int64) (v8 : Int32) (h : am_H) (w4 : Int64), fX10_chance_L44 n v0 v1 v2 v3 v4 v6 v8 h = some w4 → am_G sc (am_Cl am_T am_N sc 7) (am_at kX10_chance) (fun t => t = ((64, [some (.ref v0), some (.int v1), some (.int v2), some (.int v3), some (.long w4), none, some (.long v6), none, none, none, none, none, none, none, none], []), h)) ((44, [some (.ref v0), some (.int v1), some (.int v2), some (.int v3), some (.long v4), none, some (.long v6), none, some (.int v8), none, none, none, none, none, none], []), h) := by
  intro n
  induction n with
  | zero => intro _ _ _ _ _ _ _ _ _ H; cases H
  | succ n ih =>
    intro v0 v1 v2 v3 v4 v6 v8 h w4 H
    rw [fX10_chance_L44] at H
    refine am_G.fr 2 (g := (47, [some (.ref v0), some (.int v1), some (.int v2), some (.int v3), some (.long v4), none, some (.long v6), none, some (.int v8), none, none, none, none, none, none], [.int v2, .int v8])) rfl ?_
    by_cases c12 : v2 ≤ v8
    · rw [if_pos c12] at H
      refine am_G.br (tgt := 64) rfl rfl (if_pos c12) rfl ?_
      obtain rfl := Option.some.inj H
      refine am_G.fg [some (.ref v0), some (.int v1), some (.int v2), some (.int v3), some (.long v4), none, some (.long v6), none, none, none, none, none, none, none, none] (by simp only [am_sub, and_self]) ?_
      exact am_G.nd rfl
    · rw [if_neg c12] at H
      refine am_G.br (tgt := 50) rfl rfl (if_neg c12) rfl ?_
      refine am_G.fr 6 (g := (44, [some (.ref v0), some (.int v1), some (.int v2), some (.int v3), some (.long (v4 * ((10 : Int64)))), none, some (.long v6), none, some (.int (v8 + (1 : Int32))), none, none, none, none, none, none], [])) rfl ?_
      exact ih _ _ _ _ _ _ _ _ _ H
set_option maxHeartbeats 4000000 in
set_option maxRecDepth 100000 in
theorem lX10_chance_L135 {sc : Nat × (Nat → Int32)} : ∀ (n : Nat) (v0 : Nat) (v1 : Int32) (v2 : Int32) (v3 : Int32) (v4 : Int64) (v6 : Int64) (v8 : Int32) (v9 : Int64) (v11 : Int32) (v12 : Int32) (v13 : Int32) (v14 : Int32) (h : am_H) (h1 : am_H), fX10_chance_L135 n v0 v1 v2 v3 v4 v6 v8 v9 v11 v12 v13 v14 h = some h1 → am_G sc (am_Cl am_T am_N sc 7) (am_at kX10_chance) (fun t => t = ((164, [some (.ref v0), some (.int v1), some (.int v2), some (.int v3), some (.long v4), none, some (.long v6), none, some (.int v8), some (.long v9), none, some (.int v11), some (.int v12), none, none], []), h1)) ((135, [some (.ref v0), some (.int v1), some (.int v2), some (.int v3), some (.long v4), none, some (.long v6), none, some (.int v8), some (.long v9), none, some (.int v11), some (.int v12), some (.int v13), some (.int v14)], []), h) := by
  intro n
  induction n with
  | zero => intro _ _ _ _ _ _ _ _ _ _ _ _ _ _ H; cases H
  | succ n ih =>
    intro v0 v1 v2 v3 v4 v6 v8 v9 v11 v12 v13 v14 h h1 H
    rw [fX10_chance_L135] at H
    refine am_G.fr 2 (g := (138, [some (.ref v0), some (.int v1), some (.int v2), some (.int v3), some (.long v4), none, some (.long v6), none, some (.int v8), some (.long v9), none, some (.int v11), some (.int v12), some (.int v13), some (.int v14)], [.ref v0, .int v14])) rfl ?_
    obtain ⟨x24, e23, H⟩ := am_bd H
    refine am_G.cl [.ref v0] [.int v14] (am_Cl.mono (by decide) (lX10_days e23)) rfl rfl rfl rfl (Nat.le_of_ble_eq_true rfl) ?_
    by_cases c25 : x24 ≤ v14
    · rw [if_pos c25] at H
      refine am_G.br (tgt := 164) rfl rfl (if_pos c25) rfl ?_
      obtain rfl := Option.some.inj H
      refine am_G.fg [some (.ref v0), some (.int v1), some (.int v2), some (.int v3), some (.long v4), none, some (.long v6), none, some (.int v8), some (.long v9), none, some (.int v11), some (.int v12), none, none] (by simp only [am_sub, and_self]) ?_
      exact am_G.nd rfl
    · rw [if_neg c25] at H
      refine am_G.br (tgt := 144) rfl rfl (if_neg c25) rfl ?_
      refine am_G.fr 1 (g := (146, [some (.ref v0), some (.int v1), some (.int v2), some (.int v3), some (.long v4), none, some (.long v6), none, some (.int v8), some (.long v9), none, some (.int v11), some (.int v12), some (.int v13), some (.int v14)], [.int v13])) rfl ?_
      by_cases c26 : v13 = 0
      · rw [if_pos c26] at H
        refine am_G.br (tgt := 164) rfl rfl (if_pos c26) rfl ?_
        obtain rfl := Option.some.inj H
        refine am_G.fg [some (.ref v0), some (.int v1), some (.int v2), some (.int v3), some (.long v4), none, some (.long v6), none, some (.int v8), some (.long v9), none, some (.int v11), some (.int v12), none, none] (by simp only [am_sub, and_self]) ?_
        exact am_G.nd rfl
      · rw [if_neg c26] at H
        refine am_G.br (tgt := 149) rfl rfl (if_neg c26) rfl ?_
        refine am_G.fr 3 (g := (155, [some (.ref v0), some (.int v1), some (.int v2), some (.int v3), some (.long v4), none, some (.long v6), none, some (.int v8), some (.long v9), none, some (.int v11), some (.int v12), some (.int v13), some (.int v14)], [.int v14, .int ((987 : Int32)), .ref v0])) rfl ?_
        obtain ⟨hh28, e27, H⟩ := am_bd H
        refine am_G.cl [.ref v0, .int ((987 : Int32)), .int v14] [] (am_Cl.mono (by decide) (lX10_leaves e27)) rfl rfl rfl rfl (Nat.le_of_ble_eq_true rfl) ?_
        refine am_G.fr 2 (g := (135, [some (.ref v0), some (.int v1), some (.int v2), some (.int v3), some (.long v4), none, some (.long v6), none, some (.int v8), some (.long v9), none, some (.int v11), some (.int v12), some (.int v13), some (.int (v14 + (1 : Int32)))], [])) rfl ?_
        exact ih _ _ _ _ _ _ _ _ _ _ _ _ _ _ H
set_option maxHeartbeats 4000000 in
set_option maxRecDepth 100000 in
theorem lX10_chance_L88 {sc : Nat × (Nat → Int32)} : ∀ (n : Nat) (v0 : Nat) (v1 : Int32) (v2 : Int32) (v3 : Int32) (v4 : Int64) (v6 : Int64) (v8 : Int32) (v9 : Int64) (v11 : Int32) (v12 : Int32) (h : am_H) (w9 : Int64) (w11 : Int32) (h1 : am_H), fX10_chance_L88 n v0 v1 v2 v3 v4 v6 v8 v9 v11 v12 h = some (w9, w11, h1) → am_G sc (am_Cl am_T am_N sc 7) (am_at kX10_chance) (fun t => t = ((186, [some (.ref v0), some (.int v1), some (.int v2), some (.int v3), some (.long v4), none, some (.long v6), none, some (.int v8), some (.long w9), none, some (.int w11), none, none, none], []), h1)) ((88, [some (.ref v0), some (.int v1), some (.int v2), some (.int v3), some (.long v4), none, some (.long v6), none, some (.int v8), some (.long v9), none, some (.int v11), some (.int v12), none, none], []), h) := by
  intro n
  induction n with
  | zero => intro _ _ _ _ _ _ _ _ _ _ _ _ _ _ H; cases H
  | succ n ih =>
    intro v0 v1 v2 v3 v4 v6 v8 v9 v11 v12 h w9 w11 h1 H
    rw [fX10_chance_L88] at H
    refine am_G.fr 2 (g := (91, [some (.ref v0), some (.int v1), some (.int v2), some (.int v3), some (.long v4), none, some (.long v6), none, some (.int v8), some (.long v9), none, some (.int v11), some (.int v12), none, none], [.int v2, .int v12])) rfl ?_
    by_cases c18 : v2 ≤ v12
    · rw [if_pos c18] at H
      refine am_G.br (tgt := 186) rfl rfl (if_pos c18) rfl ?_
      obtain ⟨rfl, rfl, rfl⟩ := am_inj3 H
      refine am_G.fg [some (.ref v0), some (.int v1), some (.int v2), some (.int v3), some (.long v4), none, some (.long v6), none, some (.int v8), some (.long v9), none, some (.int v11), none, none, none] (by simp only [am_sub, and_self]) ?_
      exact am_G.nd rfl
    · rw [if_neg c18] at H
      refine am_G.br (tgt := 94) rfl rfl (if_neg c18) rfl ?_
      refine am_G.fr 6 (g := (102, [some (.ref v0), some (.int v1), some (.int v2), some (.int v3), some (.long v4), none, some (.long v6), none, some (.int v8), some (.long v9), none, some (.int v11), some (.int v12), none, none], [.int ((1 : Int32)), .int ((v8 >>> (v12 &&& 31)) &&& ((1 : Int32)))])) rfl ?_
      obtain ⟨js19, E36, H⟩ := am_bd H
      refine am_G.sq (t := ((110, [some (.ref v0), some (.int v1), some (.int v2), some (.int v3), some (.long v4), none, some (.long v6), none, some (.int v8), some (.long v9), none, some (.int v11), some (.int v12), none, none], [.int js19]), h)) ?_ ?_
      · clear H
        have H := E36
        clear E36
        by_cases c20 : ¬ ((v8 >>> (v12 &&& 31)) &&& ((1 : Int32))) = ((1 : Int32))
        · rw [if_pos c20] at H
          refine am_G.br (tgt := 109) rfl rfl (if_pos c20) rfl ?_
          refine am_G.fr 1 (g := (110, [some (.ref v0), some (.int v1), some (.int v2), some (.int v3), some (.long v4), none, some (.long v6), none, some (.int v8), some (.long v9), none, some (.int v11), some (.int v12), none, none], [.int ((0 : Int32))])) rfl ?_
          obtain rfl := Option.some.inj H
          exact am_G.nd rfl
        · rw [if_neg c20] at H
          refine am_G.br (tgt := 105) rfl rfl (if_neg c20) rfl ?_
          refine am_G.fr 2 (g := (110, [some (.ref v0), some (.int v1), some (.int v2), some (.int v3), some (.long v4), none, some (.long v6), none, some (.int v8), some (.long v9), none, some (.int v11), some (.int v12), none, none], [.int ((1 : Int32))])) rfl ?_
          obtain rfl := Option.some.inj H
          exact am_G.nd rfl
      · clear E36
        refine am_G.fr 3 (g := (116, [some (.ref v0), some (.int v1), some (.int v2), some (.int v3), some (.long v4), none, some (.long v6), none, some (.int v8), some (.long v9), none, some (.int v11), some (.int v12), some (.int js19), none], [.int js19, .long v9])) rfl ?_
        obtain ⟨js21, E35, H⟩ := am_bd H
        refine am_G.sq (t := ((129, [some (.ref v0), some (.int v1), some (.int v2), some (.int v3), some (.long v4), none, some (.long v6), none, some (.int v8), none, none, some (.int v11), some (.int v12), some (.int js19), none], [.long js21, .long v9]), h)) ?_ ?_
        · clear H
          have H := E35
          clear E35
          by_cases c22 : js19 = 0
          · rw [if_pos c22] at H
            refine am_G.br (tgt := 124) rfl rfl (if_pos c22) rfl ?_
            refine am_G.fr 4 (g := (129, [some (.ref v0), some (.int v1), some (.int v2), some (.int v3), some (.long v4), none, some (.long v6), none, some (.int v8), some (.long v9), none, some (.int v11), some (.int v12), some (.int js19), none], [.long ((((10 : Int32)) - v3).toInt64), .long v9])) rfl ?_
            obtain rfl := Option.some.inj H
            refine am_G.fg [some (.ref v0), some (.int v1), some (.int v2), some (.int v3), some (.long v4), none, some (.long v6), none, some (.int v8), none, none, some (.int v11), some (.int v12), some (.int js19), none] (by simp only [am_sub, and_self]) ?_
            exact am_G.nd rfl
          · rw [if_neg c22] at H
            refine am_G.br (tgt := 119) rfl rfl (if_neg c22) rfl ?_
            refine am_G.fr 3 (g := (129, [some (.ref v0), some (.int v1), some (.int v2), some (.int v3), some (.long v4), none, some (.long v6), none, some (.int v8), some (.long v9), none, some (.int v11), some (.int v12), some (.int js19), none], [.long v3.toInt64, .long v9])) rfl ?_
            obtain rfl := Option.some.inj H
            refine am_G.fg [some (.ref v0), some (.int v1), some (.int v2), some (.int v3), some (.long v4), none, some (.long v6), none, some (.int v8), none, none, some (.int v11), some (.int v12), some (.int js19), none] (by simp only [am_sub, and_self]) ?_
            exact am_G.nd rfl
        · clear E35
          refine am_G.fr 4 (g := (135, [some (.ref v0), some (.int v1), some (.int v2), some (.int v3), some (.long v4), none, some (.long v6), none, some (.int v8), some (.long (v9 * js21)), none, some (.int v11), some (.int v12), some (.int js19), some (.int ((0 : Int32)))], [])) rfl ?_
          obtain ⟨hh29, E30, H⟩ := am_bd H
          refine am_G.sq (lX10_chance_L135 _ _ _ _ _ _ _ _ _ _ _ _ _ _ _ E30) ?_
          clear E30
          refine am_G.fr 2 (g := (168, [some (.ref v0), some (.int v1), some (.int v2), some (.int v3), some (.long v4), none, some (.long v6), none, some (.int v8), some (.long (v9 * js21)), none, some (.int v11), some (.int v12), none, none], [.int ((987 : Int32)), .ref v0])) rfl ?_
          obtain ⟨hh32, e31, H⟩ := am_bd H
          refine am_G.cl [.ref v0, .int ((987 : Int32))] [] (am_Cl.mono (by decide) (lX10_passes e31)) rfl rfl rfl rfl (Nat.le_of_ble_eq_true rfl) ?_
          refine am_G.fr 2 (g := (174, [some (.ref v0), some (.int v1), some (.int v2), some (.int v3), some (.long v4), none, some (.long v6), none, some (.int v8), some (.long (v9 * js21)), none, some (.int v11), some (.int v12), none, none], [.ref v0, .int v11])) rfl ?_
          obtain ⟨off33, e34, H⟩ := am_bd H
          refine am_G.gI rfl e34 ?_
          refine am_G.fr 4 (g := (88, [some (.ref v0), some (.int v1), some (.int v2), some (.int v3), some (.long v4), none, some (.long v6), none, some (.int v8), some (.long (v9 * js21)), none, some (.int (v11 ||| off33)), some (.int (v12 + (1 : Int32))), none, none], [])) rfl ?_
          exact ih _ _ _ _ _ _ _ _ _ _ _ _ _ _ H
set_option maxHeartbeats 4000000 in
set_option maxRecDepth 100000 in
theorem lX10_chance_L67 {sc : Nat × (Nat → Int32)} : ∀ (n : Nat) (v0 : Nat) (v1 : Int32) (v2 : Int32) (v3 : Int32) (v4 : Int64) (v6 : Int64) (v8 : Int32) (h : am_H) (w6 : Int64) (h1 : am_H), fX10_chance_L67 n v0 v1 v2 v3 v4 v6 v8 h = some (w6, h1) → am_G sc (am_Cl am_T am_N sc 7) (am_at kX10_chance) (fun t => t = ((213, [none, none, none, none, some (.long v4), none, some (.long w6), none, none, none, none, none, none, none, none], []), h1)) ((67, [some (.ref v0), some (.int v1), some (.int v2), some (.int v3), some (.long v4), none, some (.long v6), none, some (.int v8), none, none, none, none, none, none], []), h) := by
  intro n
  induction n with
  | zero => intro _ _ _ _ _ _ _ _ _ _ H; cases H
  | succ n ih =>
    intro v0 v1 v2 v3 v4 v6 v8 h w6 h1 H
    rw [fX10_chance_L67] at H
    refine am_G.fr 4 (g := (72, [some (.ref v0), some (.int v1), some (.int v2), some (.int v3), some (.long v4), none, some (.long v6), none, some (.int v8), none, none, none, none, none, none], [.int (((1 : Int32)) <<< (v2 &&& 31)), .int v8])) rfl ?_
    by_cases c15 : (((1 : Int32)) <<< (v2 &&& 31)) ≤ v8
    · rw [if_pos c15] at H
      refine am_G.br (tgt := 213) rfl rfl (if_pos c15) rfl ?_
      obtain ⟨rfl, rfl⟩ := am_inj2 H
      refine am_G.fg [none, none, none, none, some (.long v4), none, some (.long v6), none, none, none, none, none, none, none, none] (by simp only [am_sub, and_self]) ?_
      exact am_G.nd rfl
    · rw [if_neg c15] at H
      refine am_G.br (tgt := 75) rfl rfl (if_neg c15) rfl ?_
      refine am_G.fr 1 (g := (76, [some (.ref v0), some (.int v1), some (.int v2), some (.int v3), some (.long v4), none, some (.long v6), none, some (.int v8), none, none, none, none, none, none], [.ref v0])) rfl ?_
      obtain ⟨hh17, e16, H⟩ := am_bd H
      refine am_G.cl [.ref v0] [] (am_Cl.mono (by decide) (lX10_triesNow e16)) rfl rfl rfl rfl (Nat.le_of_ble_eq_true rfl) ?_
      refine am_G.fr 6 (g := (88, [some (.ref v0), some (.int v1), some (.int v2), some (.int v3), some (.long v4), none, some (.long v6), none, some (.int v8), some (.long ((1 : Int64))), none, some (.int ((0 : Int32))), some (.int ((0 : Int32))), none, none], [])) rfl ?_
      obtain ⟨lw37, lw38, hh39, E40, H⟩ := am_bd3 H
      refine am_G.sq (lX10_chance_L88 _ _ _ _ _ _ _ _ _ _ _ _ _ _ _ E40) ?_
      clear E40
      refine am_G.fr 7 (g := (195, [some (.ref v0), some (.int v1), some (.int v2), some (.int v3), some (.long v4), none, some (.long v6), none, some (.int v8), some (.long lw37), none, some (.int lw38), none, none, none], [.int ((1 : Int32)), .int ((lw38 >>> (v1 &&& 31)) &&& ((1 : Int32))), .long v6])) rfl ?_
      obtain ⟨js41, E43, H⟩ := am_bd H
      refine am_G.sq (t := ((204, [some (.ref v0), some (.int v1), some (.int v2), some (.int v3), some (.long v4), none, none, none, some (.int v8), none, none, none, none, none, none], [.long js41, .long v6]), hh39)) ?_ ?_
      · clear H
        have H := E43
        clear E43
        by_cases c42 : ¬ ((lw38 >>> (v1 &&& 31)) &&& ((1 : Int32))) = ((1 : Int32))
        · rw [if_pos c42] at H
          refine am_G.br (tgt := 203) rfl rfl (if_pos c42) rfl ?_
          refine am_G.fr 1 (g := (204, [some (.ref v0), some (.int v1), some (.int v2), some (.int v3), some (.long v4), none, some (.long v6), none, some (.int v8), some (.long lw37), none, some (.int lw38), none, none, none], [.long ((0 : Int64)), .long v6])) rfl ?_
          obtain rfl := Option.some.inj H
          refine am_G.fg [some (.ref v0), some (.int v1), some (.int v2), some (.int v3), some (.long v4), none, none, none, some (.int v8), none, none, none, none, none, none] (by simp only [am_sub, and_self]) ?_
          exact am_G.nd rfl
        · rw [if_neg c42] at H
          refine am_G.br (tgt := 198) rfl rfl (if_neg c42) rfl ?_
          refine am_G.fr 2 (g := (204, [some (.ref v0), some (.int v1), some (.int v2), some (.int v3), some (.long v4), none, some (.long v6), none, some (.int v8), some (.long lw37), none, some (.int lw38), none, none, none], [.long lw37, .long v6])) rfl ?_
          obtain rfl := Option.some.inj H
          refine am_G.fg [some (.ref v0), some (.int v1), some (.int v2), some (.int v3), some (.long v4), none, none, none, some (.int v8), none, none, none, none, none, none] (by simp only [am_sub, and_self]) ?_
          exact am_G.nd rfl
      · clear E43
        refine am_G.fr 4 (g := (67, [some (.ref v0), some (.int v1), some (.int v2), some (.int v3), some (.long v4), none, some (.long (v6 + js41)), none, some (.int (v8 + (1 : Int32))), none, none, none, none, none, none], [])) rfl ?_
        exact ih _ _ _ _ _ _ _ _ _ _ H
set_option maxHeartbeats 4000000 in
set_option maxRecDepth 100000 in
theorem lX10_chance {sc : Nat × (Nat → Int32)} {a0 : Nat} {a1 : Int32} {a2 : Int32} {a3 : Int32} {h : am_H} {r : Int32} {h1 : am_H} (H : fX10_chance a0 a1 a2 a3 h = some (r, h1)) : am_Cl am_T am_N sc 8 231 [.ref a0, .int a1, .int a2, .int a3] h (some (.int r)) h1 := by
  unfold fX10_chance at H
  obtain ⟨_, hO, H⟩ := am_bd H
  obtain ⟨fs0, hO⟩ := am_isO_ok hO
  refine am_mk (q := qX10_chance) rfl (fun _ => ⟨_, _, _, _, _, rfl, hO, rfl, rfl⟩) (fun z => absurd z (by decide)) (Nat.le_of_ble_eq_true rfl) rfl ?_
  show am_G sc (am_Cl am_T am_N sc 7) (am_at kX10_chance) (fun t => t.2 = h1 ∧ am_ret 1 (am_at kX10_chance) t.1 = some (some (.int r))) ((0, [some (.ref a0), some (.int a1), some (.int a2), some (.int a3), none, none, none, none, none, none, none, none, none, none, none], []), h)
  refine am_G.fr 2 (g := (2, [some (.ref a0), some (.int a1), some (.int a2), some (.int a3), none, none, none, none, none, none, none, none, none, none, none], [.int ((0 : Int32)), .ref a0])) rfl ?_
  obtain ⟨hh1, e2, H⟩ := am_bd H
  refine am_G.pF rfl e2 ?_
  refine am_G.fr 2 (g := (7, [some (.ref a0), some (.int a1), some (.int a2), some (.int a3), none, none, none, none, none, none, none, none, none, none, none], [.int a1, .ref a0])) rfl ?_
  obtain ⟨x4, e3, H⟩ := am_bd H
  refine am_G.cl [.ref a0, .int a1] [] (am_Cl.mono (by decide) (lX10_isDay e3)) rfl rfl rfl rfl (Nat.le_of_ble_eq_true rfl) ?_
  by_cases c5 : x4 = 0
  · rw [if_pos c5] at H
    refine am_G.br (tgt := 33) rfl rfl (if_pos c5) rfl ?_
    refine am_G.fr 1 (g := (34, [some (.ref a0), some (.int a1), some (.int a2), some (.int a3), none, none, none, none, none, none, none, none, none, none, none], [.int ((-1 : Int32))])) rfl ?_
    obtain ⟨rfl, rfl⟩ := am_inj2 H
    exact am_G.nd ⟨rfl, rfl⟩
  · rw [if_neg c5] at H
    refine am_G.br (tgt := 13) rfl rfl (if_neg c5) rfl ?_
    refine am_G.fr 3 (g := (17, [some (.ref a0), some (.int a1), some (.int a2), some (.int a3), none, none, none, none, none, none, none, none, none, none, none], [.int ((6 : Int32)), .int ((1 : Int32)), .int a2])) rfl ?_
    obtain ⟨x7, e6, H⟩ := am_bd H
    refine am_G.cl [.int a2, .int ((1 : Int32)), .int ((6 : Int32))] [] (am_Cl.mono (by decide) (lX10_within e6)) rfl rfl rfl rfl (Nat.le_of_ble_eq_true rfl) ?_
    by_cases c8 : x7 = 0
    · rw [if_pos c8] at H
      refine am_G.br (tgt := 33) rfl rfl (if_pos c8) rfl ?_
      refine am_G.fr 1 (g := (34, [some (.ref a0), some (.int a1), some (.int a2), some (.int a3), none, none, none, none, none, none, none, none, none, none, none], [.int ((-1 : Int32))])) rfl ?_
      obtain ⟨rfl, rfl⟩ := am_inj2 H
      exact am_G.nd ⟨rfl, rfl⟩
    · rw [if_neg c8] at H
      refine am_G.br (tgt := 23) rfl rfl (if_neg c8) rfl ?_
      refine am_G.fr 3 (g := (27, [some (.ref a0), some (.int a1), some (.int a2), some (.int a3), none, none, none, none, none, none, none, none, none, none, none], [.int ((10 : Int32)), .int ((0 : Int32)), .int a3])) rfl ?_
      obtain ⟨x10, e9, H⟩ := am_bd H
      refine am_G.cl [.int a3, .int ((0 : Int32)), .int ((10 : Int32))] [] (am_Cl.mono (by decide) (lX10_within e9)) rfl rfl rfl rfl (Nat.le_of_ble_eq_true rfl) ?_
      by_cases c11 : ¬ x10 = 0
      · rw [if_pos c11] at H
        refine am_G.br (tgt := 35) rfl rfl (if_pos c11) rfl ?_
        refine am_G.fr 6 (g := (44, [some (.ref a0), some (.int a1), some (.int a2), some (.int a3), some (.long ((1 : Int64))), none, some (.long ((0 : Int64))), none, some (.int ((0 : Int32))), none, none, none, none, none, none], [])) rfl ?_
        obtain ⟨lw13, E14, H⟩ := am_bd H
        refine am_G.sq (lX10_chance_L44 _ _ _ _ _ _ _ _ _ _ E14) ?_
        clear E14
        refine am_G.fr 2 (g := (67, [some (.ref a0), some (.int a1), some (.int a2), some (.int a3), some (.long lw13), none, some (.long ((0 : Int64))), none, some (.int ((0 : Int32))), none, none, none, none, none, none], [])) rfl ?_
        obtain ⟨lw44, hh45, E46, H⟩ := am_bd2 H
        refine am_G.sq (lX10_chance_L67 _ _ _ _ _ _ _ _ _ _ _ E46) ?_
        clear E46
        refine am_G.fr 4 (g := (221, [none, none, none, none, some (.long lw13), none, some (.long lw44), none, none, none, none, none, none, none, none], [.long lw13, .long (lw44 * ((1000000 : Int64)))])) rfl ?_
        obtain ⟨q47, e48, H⟩ := am_bd H
        refine am_G.dvL rfl e48 ?_
        refine am_G.fr 1 (g := (223, [none, none, none, none, some (.long lw13), none, some (.long lw44), none, none, none, none, none, none, none, none], [.int q47.toInt32])) rfl ?_
        obtain ⟨rfl, rfl⟩ := am_inj2 H
        exact am_G.nd ⟨rfl, rfl⟩
      · rw [if_neg c11] at H
        refine am_G.br (tgt := 33) rfl rfl (if_neg c11) rfl ?_
        refine am_G.fr 1 (g := (34, [some (.ref a0), some (.int a1), some (.int a2), some (.int a3), none, none, none, none, none, none, none, none, none, none, none], [.int ((-1 : Int32))])) rfl ?_
        obtain ⟨rfl, rfl⟩ := am_inj2 H
        exact am_G.nd ⟨rfl, rfl⟩
def fX10_getsBy (a0 : Int32) (a1 : Int32) (a2 : Int32) (a3 : Int32) (a4 : Int32) (h : am_H) : Option (Int32) :=
  Option.bind (
    if ¬ a0 = ((1 : Int32)) then
      if ¬ a1 = ((1 : Int32)) then
        some ((0 : Int32))
      else
        some a4
    else
      if ¬ a1 = ((1 : Int32)) then
        some a3
      else
        some (-a2)) fun js1 =>
  some js1
set_option maxHeartbeats 4000000 in
set_option maxRecDepth 100000 in
theorem lX10_getsBy {sc : Nat × (Nat → Int32)} {a0 : Int32} {a1 : Int32} {a2 : Int32} {a3 : Int32} {a4 : Int32} {h : am_H} {r : Int32} (H : fX10_getsBy a0 a1 a2 a3 a4 h = some r) : am_Cl am_T am_N sc 1 232 [.int a0, .int a1, .int a2, .int a3, .int a4] h (some (.int r)) h := by
  unfold fX10_getsBy at H
  refine am_mk (q := qX10_getsBy) rfl (fun z => absurd z (by decide)) (fun z => absurd z (by decide)) (Nat.le_of_ble_eq_true rfl) rfl ?_
  show am_G sc (am_Cl am_T am_N sc 0) (am_at kX10_getsBy) (fun t => t.2 = h ∧ am_ret 1 (am_at kX10_getsBy) t.1 = some (some (.int r))) ((0, [some (.int a0), some (.int a1), some (.int a2), some (.int a3), some (.int a4)], []), h)
  refine am_G.fr 2 (g := (2, [some (.int a0), some (.int a1), some (.int a2), some (.int a3), some (.int a4)], [.int ((1 : Int32)), .int a0])) rfl ?_
  obtain ⟨js1, E5, H⟩ := am_bd H
  refine am_G.sq (t := ((30, [none, none, none, none, none], [.int js1]), h)) ?_ ?_
  · clear H
    have H := E5
    clear E5
    by_cases c2 : ¬ a0 = ((1 : Int32))
    · rw [if_pos c2] at H
      refine am_G.br (tgt := 19) rfl rfl (if_pos c2) rfl ?_
      refine am_G.fr 2 (g := (21, [some (.int a0), some (.int a1), some (.int a2), some (.int a3), some (.int a4)], [.int ((1 : Int32)), .int a1])) rfl ?_
      by_cases c3 : ¬ a1 = ((1 : Int32))
      · rw [if_pos c3] at H
        refine am_G.br (tgt := 29) rfl rfl (if_pos c3) rfl ?_
        refine am_G.fr 1 (g := (30, [some (.int a0), some (.int a1), some (.int a2), some (.int a3), some (.int a4)], [.int ((0 : Int32))])) rfl ?_
        obtain rfl := Option.some.inj H
        refine am_G.fg [none, none, none, none, none] (by simp only [am_sub, and_self]) ?_
        exact am_G.nd rfl
      · rw [if_neg c3] at H
        refine am_G.br (tgt := 24) rfl rfl (if_neg c3) rfl ?_
        refine am_G.fr 2 (g := (30, [some (.int a0), some (.int a1), some (.int a2), some (.int a3), some (.int a4)], [.int a4])) rfl ?_
        obtain rfl := Option.some.inj H
        refine am_G.fg [none, none, none, none, none] (by simp only [am_sub, and_self]) ?_
        exact am_G.nd rfl
    · rw [if_neg c2] at H
      refine am_G.br (tgt := 5) rfl rfl (if_neg c2) rfl ?_
      refine am_G.fr 2 (g := (7, [some (.int a0), some (.int a1), some (.int a2), some (.int a3), some (.int a4)], [.int ((1 : Int32)), .int a1])) rfl ?_
      by_cases c4 : ¬ a1 = ((1 : Int32))
      · rw [if_pos c4] at H
        refine am_G.br (tgt := 15) rfl rfl (if_pos c4) rfl ?_
        refine am_G.fr 2 (g := (30, [some (.int a0), some (.int a1), some (.int a2), some (.int a3), some (.int a4)], [.int a3])) rfl ?_
        obtain rfl := Option.some.inj H
        refine am_G.fg [none, none, none, none, none] (by simp only [am_sub, and_self]) ?_
        exact am_G.nd rfl
      · rw [if_neg c4] at H
        refine am_G.br (tgt := 10) rfl rfl (if_neg c4) rfl ?_
        refine am_G.fr 3 (g := (30, [some (.int a0), some (.int a1), some (.int a2), some (.int a3), some (.int a4)], [.int (-a2)])) rfl ?_
        obtain rfl := Option.some.inj H
        refine am_G.fg [none, none, none, none, none] (by simp only [am_sub, and_self]) ?_
        exact am_G.nd rfl
  · clear E5
    obtain rfl := Option.some.inj H
    exact am_G.nd ⟨rfl, rfl⟩
def fX10_rests_L52 : Nat → Nat → Int32 → Int32 → Int32 → Int32 → Int32 → Int32 → Int32 → Int32 → am_H → Option (Int32 × Int32)
  | 0, _, _, _, _, _, _, _, _, _, _ => none
  | n + 1, v0, v1, v2, v3, v4, v5, v6, v7, v8, h =>
    if ((4 : Int32)) ≤ v8 then
      some (v6, v7)
    else
      if v5 = 0 then
        some (v6, v7)
      else
        (am_dv v8 ((2 : Int32))).bind fun q14 =>
        (am_rm' v8 ((2 : Int32))).bind fun q16 =>
        (fX10_getsBy (((1 : Int32)) - q14) q16 v1 v2 v3 h).bind fun x19 =>
        (fX10_getsBy q14 q16 v1 v2 v3 h).bind fun x21 =>
        Option.bind (
          if x21 < x19 then
            some ((0 : Int32))
          else
            (fX10_getsBy (((1 : Int32)) - q16) q14 v1 v2 v3 h).bind fun x25 =>
            (fX10_getsBy q16 q14 v1 v2 v3 h).bind fun x27 =>
            if x27 < x25 then
              some ((0 : Int32))
            else
              some ((1 : Int32))) fun js22 =>
        Option.bind (
          if js22 = 0 then
            some v7
          else
            if ¬ v6 = v4 then
              some v7
            else
              some v8) fun js29 =>
        Option.bind (
          if js22 = 0 then
            some ((0 : Int32))
          else
            some ((1 : Int32))) fun js32 =>
        fX10_rests_L52 n v0 v1 v2 v3 v4 v5 (v6 + js32) js29 (v8 + (1 : Int32)) h
def fX10_rests (a0 : Nat) (a1 : Int32) (a2 : Int32) (a3 : Int32) (a4 : Int32) (h : am_H) : Option (Int32 × am_H) :=
  (am_isO h a0 9).bind fun _ =>
  (fX10_within a1 ((0 : Int32)) ((9 : Int32)) h).bind fun x2 =>
  Option.bind (
    if x2 = 0 then
      some ((0 : Int32))
    else
      (fX10_within a2 ((0 : Int32)) ((9 : Int32)) h).bind fun x6 =>
      if x6 = 0 then
        some ((0 : Int32))
      else
        (fX10_within a3 ((0 : Int32)) ((9 : Int32)) h).bind fun x9 =>
        if x9 = 0 then
          some ((0 : Int32))
        else
          if a4 < ((-1 : Int32)) then
            some ((0 : Int32))
          else
            some ((1 : Int32))) fun js3 =>
  am_b2 (fX10_rests_L52 4000 a0 a1 a2 a3 a4 js3 ((0 : Int32)) ((-1 : Int32)) ((0 : Int32)) h) fun lw37 lw38 =>
  Option.bind (
    if js3 = 0 then
      some ((1 : Int32))
    else
      if a4 < 0 then
        some ((0 : Int32))
      else
        if lw38 < 0 then
          some ((1 : Int32))
        else
          some ((0 : Int32))) fun js40 =>
  (am_pF h a0 9 0 (.int js40)).bind fun hh44 =>
  (am_gI hh44 a0 9 0).bind fun thrown46 =>
  Option.bind (
    if thrown46 ≤ 0 then
      if 0 ≤ a4 then
        some lw38
      else
        some lw37
    else
      some ((0 : Int32))) fun js48 =>
  some (js48, hh44)
set_option maxHeartbeats 4000000 in
set_option maxRecDepth 100000 in
theorem lX10_rests_L52 {sc : Nat × (Nat → Int32)} : ∀ (n : Nat) (v0 : Nat) (v1 : Int32) (v2 : Int32) (v3 : Int32) (v4 : Int32) (v5 : Int32) (v6 : Int32) (v7 : Int32) (v8 : Int32) (h : am_H) (w6 : Int32) (w7 : Int32), fX10_rests_L52 n v0 v1 v2 v3 v4 v5 v6 v7 v8 h = some (w6, w7) → am_G sc (am_Cl am_T am_N sc 1) (am_at kX10_rests) (fun t => t = ((174, [some (.ref v0), none, none, none, some (.int v4), some (.int v5), some (.int w6), some (.int w7), none, none, none, none], []), h)) ((52, [some (.ref v0), some (.int v1), some (.int v2), some (.int v3), some (.int v4), some (.int v5), some (.int v6), some (.int v7), some (.int v8), none, none, none], []), h) := by
  intro n
  induction n with
  | zero => intro _ _ _ _ _ _ _ _ _ _ _ _ H; cases H
  | succ n ih =>
    intro v0 v1 v2 v3 v4 v5 v6 v7 v8 h w6 w7 H
    rw [fX10_rests_L52] at H
    refine am_G.fr 2 (g := (55, [some (.ref v0), some (.int v1), some (.int v2), some (.int v3), some (.int v4), some (.int v5), some (.int v6), some (.int v7), some (.int v8), none, none, none], [.int ((4 : Int32)), .int v8])) rfl ?_
    by_cases c12 : ((4 : Int32)) ≤ v8
    · rw [if_pos c12] at H
      refine am_G.br (tgt := 174) rfl rfl (if_pos c12) rfl ?_
      obtain ⟨rfl, rfl⟩ := am_inj2 H
      refine am_G.fg [some (.ref v0), none, none, none, some (.int v4), some (.int v5), some (.int v6), some (.int v7), none, none, none, none] (by simp only [am_sub, and_self]) ?_
      exact am_G.nd rfl
    · rw [if_neg c12] at H
      refine am_G.br (tgt := 58) rfl rfl (if_neg c12) rfl ?_
      refine am_G.fr 1 (g := (60, [some (.ref v0), some (.int v1), some (.int v2), some (.int v3), some (.int v4), some (.int v5), some (.int v6), some (.int v7), some (.int v8), none, none, none], [.int v5])) rfl ?_
      by_cases c13 : v5 = 0
      · rw [if_pos c13] at H
        refine am_G.br (tgt := 174) rfl rfl (if_pos c13) rfl ?_
        obtain ⟨rfl, rfl⟩ := am_inj2 H
        refine am_G.fg [some (.ref v0), none, none, none, some (.int v4), some (.int v5), some (.int v6), some (.int v7), none, none, none, none] (by simp only [am_sub, and_self]) ?_
        exact am_G.nd rfl
      · rw [if_neg c13] at H
        refine am_G.br (tgt := 63) rfl rfl (if_neg c13) rfl ?_
        refine am_G.fr 2 (g := (66, [some (.ref v0), some (.int v1), some (.int v2), some (.int v3), some (.int v4), some (.int v5), some (.int v6), some (.int v7), some (.int v8), none, none, none], [.int ((2 : Int32)), .int v8])) rfl ?_
        obtain ⟨q14, e15, H⟩ := am_bd H
        refine am_G.dv rfl e15 ?_
        refine am_G.fr 3 (g := (72, [some (.ref v0), some (.int v1), some (.int v2), some (.int v3), some (.int v4), some (.int v5), some (.int v6), some (.int v7), some (.int v8), some (.int q14), none, none], [.int ((2 : Int32)), .int v8])) rfl ?_
        obtain ⟨q16, e17, H⟩ := am_bd H
        refine am_G.rm rfl e17 ?_
        refine am_G.fr 8 (g := (84, [some (.ref v0), some (.int v1), some (.int v2), some (.int v3), some (.int v4), some (.int v5), some (.int v6), some (.int v7), some (.int v8), some (.int q14), some (.int q16), none], [.int v3, .int v2, .int v1, .int q16, .int (((1 : Int32)) - q14)])) rfl ?_
        obtain ⟨x19, e18, H⟩ := am_bd H
        refine am_G.cl [.int (((1 : Int32)) - q14), .int q16, .int v1, .int v2, .int v3] [] (am_Cl.mono (by decide) (lX10_getsBy e18)) rfl rfl rfl rfl (Nat.le_of_ble_eq_true rfl) ?_
        refine am_G.fr 5 (g := (94, [some (.ref v0), some (.int v1), some (.int v2), some (.int v3), some (.int v4), some (.int v5), some (.int v6), some (.int v7), some (.int v8), some (.int q14), some (.int q16), none], [.int v3, .int v2, .int v1, .int q16, .int q14, .int x19])) rfl ?_
        obtain ⟨x21, e20, H⟩ := am_bd H
        refine am_G.cl [.int q14, .int q16, .int v1, .int v2, .int v3] [.int x19] (am_Cl.mono (by decide) (lX10_getsBy e20)) rfl rfl rfl rfl (Nat.le_of_ble_eq_true rfl) ?_
        obtain ⟨js22, E36, H⟩ := am_bd H
        refine am_G.sq (t := ((130, [some (.ref v0), some (.int v1), some (.int v2), some (.int v3), some (.int v4), some (.int v5), some (.int v6), some (.int v7), some (.int v8), none, none, none], [.int js22]), h)) ?_ ?_
        · clear H
          have H := E36
          clear E36
          by_cases c23 : x21 < x19
          · rw [if_pos c23] at H
            refine am_G.br (tgt := 129) rfl rfl (if_pos c23) rfl ?_
            refine am_G.fr 1 (g := (130, [some (.ref v0), some (.int v1), some (.int v2), some (.int v3), some (.int v4), some (.int v5), some (.int v6), some (.int v7), some (.int v8), some (.int q14), some (.int q16), none], [.int ((0 : Int32))])) rfl ?_
            obtain rfl := Option.some.inj H
            refine am_G.fg [some (.ref v0), some (.int v1), some (.int v2), some (.int v3), some (.int v4), some (.int v5), some (.int v6), some (.int v7), some (.int v8), none, none, none] (by simp only [am_sub, and_self]) ?_
            exact am_G.nd rfl
          · rw [if_neg c23] at H
            refine am_G.br (tgt := 100) rfl rfl (if_neg c23) rfl ?_
            refine am_G.fr 7 (g := (109, [some (.ref v0), some (.int v1), some (.int v2), some (.int v3), some (.int v4), some (.int v5), some (.int v6), some (.int v7), some (.int v8), some (.int q14), some (.int q16), none], [.int v3, .int v2, .int v1, .int q14, .int (((1 : Int32)) - q16)])) rfl ?_
            obtain ⟨x25, e24, H⟩ := am_bd H
            refine am_G.cl [.int (((1 : Int32)) - q16), .int q14, .int v1, .int v2, .int v3] [] (am_Cl.mono (by decide) (lX10_getsBy e24)) rfl rfl rfl rfl (Nat.le_of_ble_eq_true rfl) ?_
            refine am_G.fr 5 (g := (119, [some (.ref v0), some (.int v1), some (.int v2), some (.int v3), some (.int v4), some (.int v5), some (.int v6), some (.int v7), some (.int v8), some (.int q14), some (.int q16), none], [.int v3, .int v2, .int v1, .int q14, .int q16, .int x25])) rfl ?_
            obtain ⟨x27, e26, H⟩ := am_bd H
            refine am_G.cl [.int q16, .int q14, .int v1, .int v2, .int v3] [.int x25] (am_Cl.mono (by decide) (lX10_getsBy e26)) rfl rfl rfl rfl (Nat.le_of_ble_eq_true rfl) ?_
            by_cases c28 : x27 < x25
            · rw [if_pos c28] at H
              refine am_G.br (tgt := 129) rfl rfl (if_pos c28) rfl ?_
              refine am_G.fr 1 (g := (130, [some (.ref v0), some (.int v1), some (.int v2), some (.int v3), some (.int v4), some (.int v5), some (.int v6), some (.int v7), some (.int v8), some (.int q14), some (.int q16), none], [.int ((0 : Int32))])) rfl ?_
              obtain rfl := Option.some.inj H
              refine am_G.fg [some (.ref v0), some (.int v1), some (.int v2), some (.int v3), some (.int v4), some (.int v5), some (.int v6), some (.int v7), some (.int v8), none, none, none] (by simp only [am_sub, and_self]) ?_
              exact am_G.nd rfl
            · rw [if_neg c28] at H
              refine am_G.br (tgt := 125) rfl rfl (if_neg c28) rfl ?_
              refine am_G.fr 2 (g := (130, [some (.ref v0), some (.int v1), some (.int v2), some (.int v3), some (.int v4), some (.int v5), some (.int v6), some (.int v7), some (.int v8), some (.int q14), some (.int q16), none], [.int ((1 : Int32))])) rfl ?_
              obtain rfl := Option.some.inj H
              refine am_G.fg [some (.ref v0), some (.int v1), some (.int v2), some (.int v3), some (.int v4), some (.int v5), some (.int v6), some (.int v7), some (.int v8), none, none, none] (by simp only [am_sub, and_self]) ?_
              exact am_G.nd rfl
        · clear E36
          refine am_G.fr 2 (g := (134, [some (.ref v0), some (.int v1), some (.int v2), some (.int v3), some (.int v4), some (.int v5), some (.int v6), some (.int v7), some (.int v8), none, none, some (.int js22)], [.int js22])) rfl ?_
          obtain ⟨js29, E35, H⟩ := am_bd H
          refine am_G.sq (t := ((151, [some (.ref v0), some (.int v1), some (.int v2), some (.int v3), some (.int v4), some (.int v5), some (.int v6), none, some (.int v8), none, none, some (.int js22)], [.int js29]), h)) ?_ ?_
          · clear H
            have H := E35
            clear E35
            by_cases c30 : js22 = 0
            · rw [if_pos c30] at H
              refine am_G.br (tgt := 149) rfl rfl (if_pos c30) rfl ?_
              refine am_G.fr 1 (g := (151, [some (.ref v0), some (.int v1), some (.int v2), some (.int v3), some (.int v4), some (.int v5), some (.int v6), some (.int v7), some (.int v8), none, none, some (.int js22)], [.int v7])) rfl ?_
              obtain rfl := Option.some.inj H
              refine am_G.fg [some (.ref v0), some (.int v1), some (.int v2), some (.int v3), some (.int v4), some (.int v5), some (.int v6), none, some (.int v8), none, none, some (.int js22)] (by simp only [am_sub, and_self]) ?_
              exact am_G.nd rfl
            · rw [if_neg c30] at H
              refine am_G.br (tgt := 137) rfl rfl (if_neg c30) rfl ?_
              refine am_G.fr 2 (g := (141, [some (.ref v0), some (.int v1), some (.int v2), some (.int v3), some (.int v4), some (.int v5), some (.int v6), some (.int v7), some (.int v8), none, none, some (.int js22)], [.int v4, .int v6])) rfl ?_
              by_cases c31 : ¬ v6 = v4
              · rw [if_pos c31] at H
                refine am_G.br (tgt := 149) rfl rfl (if_pos c31) rfl ?_
                refine am_G.fr 1 (g := (151, [some (.ref v0), some (.int v1), some (.int v2), some (.int v3), some (.int v4), some (.int v5), some (.int v6), some (.int v7), some (.int v8), none, none, some (.int js22)], [.int v7])) rfl ?_
                obtain rfl := Option.some.inj H
                refine am_G.fg [some (.ref v0), some (.int v1), some (.int v2), some (.int v3), some (.int v4), some (.int v5), some (.int v6), none, some (.int v8), none, none, some (.int js22)] (by simp only [am_sub, and_self]) ?_
                exact am_G.nd rfl
              · rw [if_neg c31] at H
                refine am_G.br (tgt := 144) rfl rfl (if_neg c31) rfl ?_
                refine am_G.fr 2 (g := (151, [some (.ref v0), some (.int v1), some (.int v2), some (.int v3), some (.int v4), some (.int v5), some (.int v6), some (.int v7), some (.int v8), none, none, some (.int js22)], [.int v8])) rfl ?_
                obtain rfl := Option.some.inj H
                refine am_G.fg [some (.ref v0), some (.int v1), some (.int v2), some (.int v3), some (.int v4), some (.int v5), some (.int v6), none, some (.int v8), none, none, some (.int js22)] (by simp only [am_sub, and_self]) ?_
                exact am_G.nd rfl
          · clear E35
            refine am_G.fr 3 (g := (157, [some (.ref v0), some (.int v1), some (.int v2), some (.int v3), some (.int v4), some (.int v5), some (.int v6), some (.int js29), some (.int v8), none, none, some (.int js22)], [.int js22, .int v6])) rfl ?_
            obtain ⟨js32, E34, H⟩ := am_bd H
            refine am_G.sq (t := ((165, [some (.ref v0), some (.int v1), some (.int v2), some (.int v3), some (.int v4), some (.int v5), none, some (.int js29), some (.int v8), none, none, none], [.int js32, .int v6]), h)) ?_ ?_
            · clear H
              have H := E34
              clear E34
              by_cases c33 : js22 = 0
              · rw [if_pos c33] at H
                refine am_G.br (tgt := 164) rfl rfl (if_pos c33) rfl ?_
                refine am_G.fr 1 (g := (165, [some (.ref v0), some (.int v1), some (.int v2), some (.int v3), some (.int v4), some (.int v5), some (.int v6), some (.int js29), some (.int v8), none, none, some (.int js22)], [.int ((0 : Int32)), .int v6])) rfl ?_
                obtain rfl := Option.some.inj H
                refine am_G.fg [some (.ref v0), some (.int v1), some (.int v2), some (.int v3), some (.int v4), some (.int v5), none, some (.int js29), some (.int v8), none, none, none] (by simp only [am_sub, and_self]) ?_
                exact am_G.nd rfl
              · rw [if_neg c33] at H
                refine am_G.br (tgt := 160) rfl rfl (if_neg c33) rfl ?_
                refine am_G.fr 2 (g := (165, [some (.ref v0), some (.int v1), some (.int v2), some (.int v3), some (.int v4), some (.int v5), some (.int v6), some (.int js29), some (.int v8), none, none, some (.int js22)], [.int ((1 : Int32)), .int v6])) rfl ?_
                obtain rfl := Option.some.inj H
                refine am_G.fg [some (.ref v0), some (.int v1), some (.int v2), some (.int v3), some (.int v4), some (.int v5), none, some (.int js29), some (.int v8), none, none, none] (by simp only [am_sub, and_self]) ?_
                exact am_G.nd rfl
            · clear E34
              refine am_G.fr 4 (g := (52, [some (.ref v0), some (.int v1), some (.int v2), some (.int v3), some (.int v4), some (.int v5), some (.int (v6 + js32)), some (.int js29), some (.int (v8 + (1 : Int32))), none, none, none], [])) rfl ?_
              exact ih _ _ _ _ _ _ _ _ _ _ _ _ H
set_option maxHeartbeats 4000000 in
set_option maxRecDepth 100000 in
theorem lX10_rests {sc : Nat × (Nat → Int32)} {a0 : Nat} {a1 : Int32} {a2 : Int32} {a3 : Int32} {a4 : Int32} {h : am_H} {r : Int32} {h1 : am_H} (H : fX10_rests a0 a1 a2 a3 a4 h = some (r, h1)) : am_Cl am_T am_N sc 2 233 [.ref a0, .int a1, .int a2, .int a3, .int a4] h (some (.int r)) h1 := by
  unfold fX10_rests at H
  obtain ⟨_, hO, H⟩ := am_bd H
  obtain ⟨fs0, hO⟩ := am_isO_ok hO
  refine am_mk (q := qX10_rests) rfl (fun _ => ⟨_, _, _, _, _, rfl, hO, rfl, rfl⟩) (fun z => absurd z (by decide)) (Nat.le_of_ble_eq_true rfl) rfl ?_
  show am_G sc (am_Cl am_T am_N sc 1) (am_at kX10_rests) (fun t => t.2 = h1 ∧ am_ret 1 (am_at kX10_rests) t.1 = some (some (.int r))) ((0, [some (.ref a0), some (.int a1), some (.int a2), some (.int a3), some (.int a4), none, none, none, none, none, none, none], []), h)
  refine am_G.fr 3 (g := (4, [some (.ref a0), some (.int a1), some (.int a2), some (.int a3), some (.int a4), none, none, none, none, none, none, none], [.int ((9 : Int32)), .int ((0 : Int32)), .int a1])) rfl ?_
  obtain ⟨x2, e1, H⟩ := am_bd H
  refine am_G.cl [.int a1, .int ((0 : Int32)), .int ((9 : Int32))] [] (am_Cl.mono (by decide) (lX10_within e1)) rfl rfl rfl rfl (Nat.le_of_ble_eq_true rfl) ?_
  obtain ⟨js3, E53, H⟩ := am_bd H
  refine am_G.sq (t := ((41, [some (.ref a0), some (.int a1), some (.int a2), some (.int a3), some (.int a4), none, none, none, none, none, none, none], [.int js3]), h)) ?_ ?_
  · clear H
    have H := E53
    clear E53
    by_cases c4 : x2 = 0
    · rw [if_pos c4] at H
      refine am_G.br (tgt := 40) rfl rfl (if_pos c4) rfl ?_
      refine am_G.fr 1 (g := (41, [some (.ref a0), some (.int a1), some (.int a2), some (.int a3), some (.int a4), none, none, none, none, none, none, none], [.int ((0 : Int32))])) rfl ?_
      obtain rfl := Option.some.inj H
      exact am_G.nd rfl
    · rw [if_neg c4] at H
      refine am_G.br (tgt := 10) rfl rfl (if_neg c4) rfl ?_
      refine am_G.fr 3 (g := (14, [some (.ref a0), some (.int a1), some (.int a2), some (.int a3), some (.int a4), none, none, none, none, none, none, none], [.int ((9 : Int32)), .int ((0 : Int32)), .int a2])) rfl ?_
      obtain ⟨x6, e5, H⟩ := am_bd H
      refine am_G.cl [.int a2, .int ((0 : Int32)), .int ((9 : Int32))] [] (am_Cl.mono (by decide) (lX10_within e5)) rfl rfl rfl rfl (Nat.le_of_ble_eq_true rfl) ?_
      by_cases c7 : x6 = 0
      · rw [if_pos c7] at H
        refine am_G.br (tgt := 40) rfl rfl (if_pos c7) rfl ?_
        refine am_G.fr 1 (g := (41, [some (.ref a0), some (.int a1), some (.int a2), some (.int a3), some (.int a4), none, none, none, none, none, none, none], [.int ((0 : Int32))])) rfl ?_
        obtain rfl := Option.some.inj H
        exact am_G.nd rfl
      · rw [if_neg c7] at H
        refine am_G.br (tgt := 20) rfl rfl (if_neg c7) rfl ?_
        refine am_G.fr 3 (g := (24, [some (.ref a0), some (.int a1), some (.int a2), some (.int a3), some (.int a4), none, none, none, none, none, none, none], [.int ((9 : Int32)), .int ((0 : Int32)), .int a3])) rfl ?_
        obtain ⟨x9, e8, H⟩ := am_bd H
        refine am_G.cl [.int a3, .int ((0 : Int32)), .int ((9 : Int32))] [] (am_Cl.mono (by decide) (lX10_within e8)) rfl rfl rfl rfl (Nat.le_of_ble_eq_true rfl) ?_
        by_cases c10 : x9 = 0
        · rw [if_pos c10] at H
          refine am_G.br (tgt := 40) rfl rfl (if_pos c10) rfl ?_
          refine am_G.fr 1 (g := (41, [some (.ref a0), some (.int a1), some (.int a2), some (.int a3), some (.int a4), none, none, none, none, none, none, none], [.int ((0 : Int32))])) rfl ?_
          obtain rfl := Option.some.inj H
          exact am_G.nd rfl
        · rw [if_neg c10] at H
          refine am_G.br (tgt := 30) rfl rfl (if_neg c10) rfl ?_
          refine am_G.fr 2 (g := (33, [some (.ref a0), some (.int a1), some (.int a2), some (.int a3), some (.int a4), none, none, none, none, none, none, none], [.int ((-1 : Int32)), .int a4])) rfl ?_
          by_cases c11 : a4 < ((-1 : Int32))
          · rw [if_pos c11] at H
            refine am_G.br (tgt := 40) rfl rfl (if_pos c11) rfl ?_
            refine am_G.fr 1 (g := (41, [some (.ref a0), some (.int a1), some (.int a2), some (.int a3), some (.int a4), none, none, none, none, none, none, none], [.int ((0 : Int32))])) rfl ?_
            obtain rfl := Option.some.inj H
            exact am_G.nd rfl
          · rw [if_neg c11] at H
            refine am_G.br (tgt := 36) rfl rfl (if_neg c11) rfl ?_
            refine am_G.fr 2 (g := (41, [some (.ref a0), some (.int a1), some (.int a2), some (.int a3), some (.int a4), none, none, none, none, none, none, none], [.int ((1 : Int32))])) rfl ?_
            obtain rfl := Option.some.inj H
            exact am_G.nd rfl
  · clear E53
    refine am_G.fr 7 (g := (52, [some (.ref a0), some (.int a1), some (.int a2), some (.int a3), some (.int a4), some (.int js3), some (.int ((0 : Int32))), some (.int ((-1 : Int32))), some (.int ((0 : Int32))), none, none, none], [])) rfl ?_
    obtain ⟨lw37, lw38, E39, H⟩ := am_bd2 H
    refine am_G.sq (lX10_rests_L52 _ _ _ _ _ _ _ _ _ _ _ _ _ E39) ?_
    clear E39
    refine am_G.fr 2 (g := (177, [some (.ref a0), none, none, none, some (.int a4), some (.int js3), some (.int lw37), some (.int lw38), none, none, none, none], [.int js3, .ref a0])) rfl ?_
    obtain ⟨js40, E52, H⟩ := am_bd H
    refine am_G.sq (t := ((195, [some (.ref a0), none, none, none, some (.int a4), none, some (.int lw37), some (.int lw38), none, none, none, none], [.int js40, .ref a0]), h)) ?_ ?_
    · clear H
      have H := E52
      clear E52
      by_cases c41 : js3 = 0
      · rw [if_pos c41] at H
        refine am_G.br (tgt := 194) rfl rfl (if_pos c41) rfl ?_
        refine am_G.fr 1 (g := (195, [some (.ref a0), none, none, none, some (.int a4), some (.int js3), some (.int lw37), some (.int lw38), none, none, none, none], [.int ((1 : Int32)), .ref a0])) rfl ?_
        obtain rfl := Option.some.inj H
        refine am_G.fg [some (.ref a0), none, none, none, some (.int a4), none, some (.int lw37), some (.int lw38), none, none, none, none] (by simp only [am_sub, and_self]) ?_
        exact am_G.nd rfl
      · rw [if_neg c41] at H
        refine am_G.br (tgt := 180) rfl rfl (if_neg c41) rfl ?_
        refine am_G.fr 1 (g := (182, [some (.ref a0), none, none, none, some (.int a4), some (.int js3), some (.int lw37), some (.int lw38), none, none, none, none], [.int a4, .ref a0])) rfl ?_
        by_cases c42 : a4 < 0
        · rw [if_pos c42] at H
          refine am_G.br (tgt := 190) rfl rfl (if_pos c42) rfl ?_
          refine am_G.fr 2 (g := (195, [some (.ref a0), none, none, none, some (.int a4), some (.int js3), some (.int lw37), some (.int lw38), none, none, none, none], [.int ((0 : Int32)), .ref a0])) rfl ?_
          obtain rfl := Option.some.inj H
          refine am_G.fg [some (.ref a0), none, none, none, some (.int a4), none, some (.int lw37), some (.int lw38), none, none, none, none] (by simp only [am_sub, and_self]) ?_
          exact am_G.nd rfl
        · rw [if_neg c42] at H
          refine am_G.br (tgt := 185) rfl rfl (if_neg c42) rfl ?_
          refine am_G.fr 1 (g := (187, [some (.ref a0), none, none, none, some (.int a4), some (.int js3), some (.int lw37), some (.int lw38), none, none, none, none], [.int lw38, .ref a0])) rfl ?_
          by_cases c43 : lw38 < 0
          · rw [if_pos c43] at H
            refine am_G.br (tgt := 194) rfl rfl (if_pos c43) rfl ?_
            refine am_G.fr 1 (g := (195, [some (.ref a0), none, none, none, some (.int a4), some (.int js3), some (.int lw37), some (.int lw38), none, none, none, none], [.int ((1 : Int32)), .ref a0])) rfl ?_
            obtain rfl := Option.some.inj H
            refine am_G.fg [some (.ref a0), none, none, none, some (.int a4), none, some (.int lw37), some (.int lw38), none, none, none, none] (by simp only [am_sub, and_self]) ?_
            exact am_G.nd rfl
          · rw [if_neg c43] at H
            refine am_G.br (tgt := 190) rfl rfl (if_neg c43) rfl ?_
            refine am_G.fr 2 (g := (195, [some (.ref a0), none, none, none, some (.int a4), some (.int js3), some (.int lw37), some (.int lw38), none, none, none, none], [.int ((0 : Int32)), .ref a0])) rfl ?_
            obtain rfl := Option.some.inj H
            refine am_G.fg [some (.ref a0), none, none, none, some (.int a4), none, some (.int lw37), some (.int lw38), none, none, none, none] (by simp only [am_sub, and_self]) ?_
            exact am_G.nd rfl
    · clear E52
      obtain ⟨hh44, e45, H⟩ := am_bd H
      refine am_G.pF rfl e45 ?_
      refine am_G.fr 1 (g := (199, [some (.ref a0), none, none, none, some (.int a4), none, some (.int lw37), some (.int lw38), none, none, none, none], [.ref a0])) rfl ?_
      obtain ⟨thrown46, e47, H⟩ := am_bd H
      refine am_G.gI rfl e47 ?_
      obtain ⟨js48, E51, H⟩ := am_bd H
      refine am_G.sq (t := ((221, [none, none, none, none, none, none, none, none, none, none, none, none], [.int js48]), hh44)) ?_ ?_
      · clear H
        have H := E51
        clear E51
        by_cases c49 : thrown46 ≤ 0
        · rw [if_pos c49] at H
          refine am_G.br (tgt := 209) rfl rfl (if_pos c49) rfl ?_
          refine am_G.fr 1 (g := (211, [some (.ref a0), none, none, none, some (.int a4), none, some (.int lw37), some (.int lw38), none, none, none, none], [.int a4])) rfl ?_
          by_cases c50 : 0 ≤ a4
          · rw [if_pos c50] at H
            refine am_G.br (tgt := 219) rfl rfl (if_pos c50) rfl ?_
            refine am_G.fr 1 (g := (221, [some (.ref a0), none, none, none, some (.int a4), none, some (.int lw37), some (.int lw38), none, none, none, none], [.int lw38])) rfl ?_
            obtain rfl := Option.some.inj H
            refine am_G.fg [none, none, none, none, none, none, none, none, none, none, none, none] (by simp only [am_sub, and_self]) ?_
            exact am_G.nd rfl
          · rw [if_neg c50] at H
            refine am_G.br (tgt := 214) rfl rfl (if_neg c50) rfl ?_
            refine am_G.fr 2 (g := (221, [some (.ref a0), none, none, none, some (.int a4), none, some (.int lw37), some (.int lw38), none, none, none, none], [.int lw37])) rfl ?_
            obtain rfl := Option.some.inj H
            refine am_G.fg [none, none, none, none, none, none, none, none, none, none, none, none] (by simp only [am_sub, and_self]) ?_
            exact am_G.nd rfl
        · rw [if_neg c49] at H
          refine am_G.br (tgt := 205) rfl rfl (if_neg c49) rfl ?_
          refine am_G.fr 2 (g := (221, [some (.ref a0), none, none, none, some (.int a4), none, some (.int lw37), some (.int lw38), none, none, none, none], [.int ((0 : Int32))])) rfl ?_
          obtain rfl := Option.some.inj H
          refine am_G.fg [none, none, none, none, none, none, none, none, none, none, none, none] (by simp only [am_sub, and_self]) ?_
          exact am_G.nd rfl
      · clear E51
        obtain ⟨rfl, rfl⟩ := am_inj2 H
        exact am_G.nd ⟨rfl, rfl⟩
def fX10_draw (a0 : Nat) (a1 : Int32) (h : am_H) : Option (Int32 × am_H) :=
  (am_isO h a0 9).bind fun _ =>
  (am_gL h a0 9 31).bind fun g1 =>
  (am_rmL ((g1 * ((1103515245 : Int64))) + ((12345 : Int64))) ((2147483648 : Int64))).bind fun q3 =>
  (am_pF h a0 9 31 (.long q3)).bind fun hh5 =>
  (am_gL hh5 a0 9 31).bind fun g7 =>
  (am_dvL g7 ((65536 : Int64))).bind fun q9 =>
  (am_rmL q9 a1.toInt64).bind fun q11 =>
  some (q11.toInt32, hh5)
set_option maxHeartbeats 4000000 in
set_option maxRecDepth 100000 in
theorem lX10_draw {sc : Nat × (Nat → Int32)} {a0 : Nat} {a1 : Int32} {h : am_H} {r : Int32} {h1 : am_H} (H : fX10_draw a0 a1 h = some (r, h1)) : am_Cl am_T am_N sc 1 234 [.ref a0, .int a1] h (some (.int r)) h1 := by
  unfold fX10_draw at H
  obtain ⟨_, hO, H⟩ := am_bd H
  obtain ⟨fs0, hO⟩ := am_isO_ok hO
  refine am_mk (q := qX10_draw) rfl (fun _ => ⟨_, _, _, _, _, rfl, hO, rfl, rfl⟩) (fun z => absurd z (by decide)) (Nat.le_of_ble_eq_true rfl) rfl ?_
  show am_G sc (am_Cl am_T am_N sc 0) (am_at kX10_draw) (fun t => t.2 = h1 ∧ am_ret 1 (am_at kX10_draw) t.1 = some (some (.int r))) ((0, [some (.ref a0), some (.int a1)], []), h)
  refine am_G.fr 2 (g := (2, [some (.ref a0), some (.int a1)], [.ref a0, .ref a0])) rfl ?_
  obtain ⟨g1, e2, H⟩ := am_bd H
  refine am_G.gL rfl e2 ?_
  refine am_G.fr 5 (g := (16, [some (.ref a0), some (.int a1)], [.long ((2147483648 : Int64)), .long ((g1 * ((1103515245 : Int64))) + ((12345 : Int64))), .ref a0])) rfl ?_
  obtain ⟨q3, e4, H⟩ := am_bd H
  refine am_G.rmL rfl e4 ?_
  obtain ⟨hh5, e6, H⟩ := am_bd H
  refine am_G.pF rfl e6 ?_
  refine am_G.fr 1 (g := (21, [some (.ref a0), some (.int a1)], [.ref a0])) rfl ?_
  obtain ⟨g7, e8, H⟩ := am_bd H
  refine am_G.gL rfl e8 ?_
  refine am_G.fr 1 (g := (27, [some (.ref a0), some (.int a1)], [.long ((65536 : Int64)), .long g7])) rfl ?_
  obtain ⟨q9, e10, H⟩ := am_bd H
  refine am_G.dvL rfl e10 ?_
  refine am_G.fr 2 (g := (30, [some (.ref a0), some (.int a1)], [.long a1.toInt64, .long q9])) rfl ?_
  obtain ⟨q11, e12, H⟩ := am_bd H
  refine am_G.rmL rfl e12 ?_
  refine am_G.fr 1 (g := (32, [some (.ref a0), some (.int a1)], [.int q11.toInt32])) rfl ?_
  obtain ⟨rfl, rfl⟩ := am_inj2 H
  exact am_G.nd ⟨rfl, rfl⟩
def fX10_drawsDeed (a0 : Nat) (h : am_H) : Option (am_H) :=
  (am_isO h a0 9).bind fun _ =>
  am_b2 (fX10_draw a0 ((6 : Int32)) h) fun x2 hh3 =>
  Option.bind (
    if ¬ x2 = 0 then
      if ¬ x2 = ((1 : Int32)) then
        some hh3
      else
        (fX10_days a0 hh3).bind fun x8 =>
        am_b2 (fX10_draw a0 x8 hh3) fun x10 hh11 =>
        (fX10_houses a0 hh11).bind fun x13 =>
        am_b2 (fX10_draw a0 x13 hh11) fun x15 hh16 =>
        (fX10_mayMove a0 ((1034 : Int32)) x10 x15 hh16).bind fun x18 =>
        if x18 = 0 then
          some hh16
        else
          (am_gR hh16 a0 9 24).bind fun state20 =>
          (am_sI hh16 0 state20 (((1040 : Int32)) + x10) x15).bind fun hh22 =>
          some hh22
    else
      (fX10_days a0 hh3).bind fun x25 =>
      am_b2 (fX10_draw a0 x25 hh3) fun x27 hh28 =>
      (am_gR hh28 a0 9 24).bind fun state29 =>
      (am_aI hh28 0 state29 (((1040 : Int32)) + x27)).bind fun x31 =>
      Option.bind (
        if x31 < 0 then
          some hh28
        else
          (fX10_leaves a0 ((1034 : Int32)) x27 hh28).bind fun hh36 =>
          some hh36) fun hh33 =>
      some hh33) fun hh4 =>
  some hh4
set_option maxHeartbeats 4000000 in
set_option maxRecDepth 100000 in
theorem lX10_drawsDeed {sc : Nat × (Nat → Int32)} {a0 : Nat} {h : am_H} {h1 : am_H} (H : fX10_drawsDeed a0 h = some h1) : am_Cl am_T am_N sc 6 235 [.ref a0] h none h1 := by
  unfold fX10_drawsDeed at H
  obtain ⟨_, hO, H⟩ := am_bd H
  obtain ⟨fs0, hO⟩ := am_isO_ok hO
  refine am_mk (q := qX10_drawsDeed) rfl (fun _ => ⟨_, _, _, _, _, rfl, hO, rfl, rfl⟩) (fun z => absurd z (by decide)) (Nat.le_of_ble_eq_true rfl) rfl ?_
  show am_G sc (am_Cl am_T am_N sc 5) (am_at kX10_drawsDeed) (fun t => t.2 = h1 ∧ am_ret 0 (am_at kX10_drawsDeed) t.1 = some none) ((0, [some (.ref a0), none, none, none], []), h)
  refine am_G.fr 2 (g := (3, [some (.ref a0), none, none, none], [.int ((6 : Int32)), .ref a0])) rfl ?_
  obtain ⟨x2, hh3, e1, H⟩ := am_bd2 H
  refine am_G.cl [.ref a0, .int ((6 : Int32))] [] (am_Cl.mono (by decide) (lX10_draw e1)) rfl rfl rfl rfl (Nat.le_of_ble_eq_true rfl) ?_
  refine am_G.fr 2 (g := (8, [some (.ref a0), some (.int x2), none, none], [.int x2])) rfl ?_
  obtain ⟨hh4, E38, H⟩ := am_bd H
  refine am_G.sq (t := ((90, [none, none, none, none], []), hh4)) ?_ ?_
  · clear H
    have H := E38
    clear E38
    by_cases c5 : ¬ x2 = 0
    · rw [if_pos c5] at H
      refine am_G.br (tgt := 44) rfl rfl (if_pos c5) rfl ?_
      refine am_G.fr 2 (g := (46, [some (.ref a0), some (.int x2), none, none], [.int ((1 : Int32)), .int x2])) rfl ?_
      by_cases c6 : ¬ x2 = ((1 : Int32))
      · rw [if_pos c6] at H
        refine am_G.br (tgt := 90) rfl rfl (if_pos c6) rfl ?_
        obtain rfl := Option.some.inj H
        refine am_G.fg [none, none, none, none] (by simp only [am_sub, and_self]) ?_
        exact am_G.nd rfl
      · rw [if_neg c6] at H
        refine am_G.br (tgt := 49) rfl rfl (if_neg c6) rfl ?_
        refine am_G.fr 2 (g := (51, [some (.ref a0), some (.int x2), none, none], [.ref a0, .ref a0])) rfl ?_
        obtain ⟨x8, e7, H⟩ := am_bd H
        refine am_G.cl [.ref a0] [.ref a0] (am_Cl.mono (by decide) (lX10_days e7)) rfl rfl rfl rfl (Nat.le_of_ble_eq_true rfl) ?_
        obtain ⟨x10, hh11, e9, H⟩ := am_bd2 H
        refine am_G.cl [.ref a0, .int x8] [] (am_Cl.mono (by decide) (lX10_draw e9)) rfl rfl rfl rfl (Nat.le_of_ble_eq_true rfl) ?_
        refine am_G.fr 3 (g := (60, [some (.ref a0), some (.int x2), some (.int x10), none], [.ref a0, .ref a0])) rfl ?_
        obtain ⟨x13, e12, H⟩ := am_bd H
        refine am_G.cl [.ref a0] [.ref a0] (am_Cl.mono (by decide) (lX10_houses e12)) rfl rfl rfl rfl (Nat.le_of_ble_eq_true rfl) ?_
        obtain ⟨x15, hh16, e14, H⟩ := am_bd2 H
        refine am_G.cl [.ref a0, .int x13] [] (am_Cl.mono (by decide) (lX10_draw e14)) rfl rfl rfl rfl (Nat.le_of_ble_eq_true rfl) ?_
        refine am_G.fr 5 (g := (73, [some (.ref a0), some (.int x2), some (.int x10), some (.int x15)], [.int x15, .int x10, .int ((1034 : Int32)), .ref a0])) rfl ?_
        obtain ⟨x18, e17, H⟩ := am_bd H
        refine am_G.cl [.ref a0, .int ((1034 : Int32)), .int x10, .int x15] [] (am_Cl.mono (by decide) (lX10_mayMove e17)) rfl rfl rfl rfl (Nat.le_of_ble_eq_true rfl) ?_
        by_cases c19 : x18 = 0
        · rw [if_pos c19] at H
          refine am_G.br (tgt := 90) rfl rfl (if_pos c19) rfl ?_
          obtain rfl := Option.some.inj H
          refine am_G.fg [none, none, none, none] (by simp only [am_sub, and_self]) ?_
          exact am_G.nd rfl
        · rw [if_neg c19] at H
          refine am_G.br (tgt := 79) rfl rfl (if_neg c19) rfl ?_
          refine am_G.fr 1 (g := (80, [some (.ref a0), some (.int x2), some (.int x10), some (.int x15)], [.ref a0])) rfl ?_
          obtain ⟨state20, e21, H⟩ := am_bd H
          refine am_G.gR rfl e21 ?_
          refine am_G.fr 4 (g := (89, [some (.ref a0), some (.int x2), some (.int x10), some (.int x15)], [.int x15, .int (((1040 : Int32)) + x10), .ref state20])) rfl ?_
          obtain ⟨hh22, e23, H⟩ := am_bd H
          refine am_G.sI rfl e23 ?_
          obtain rfl := Option.some.inj H
          refine am_G.fg [none, none, none, none] (by simp only [am_sub, and_self]) ?_
          exact am_G.nd rfl
    · rw [if_neg c5] at H
      refine am_G.br (tgt := 11) rfl rfl (if_neg c5) rfl ?_
      refine am_G.fr 2 (g := (13, [some (.ref a0), some (.int x2), none, none], [.ref a0, .ref a0])) rfl ?_
      obtain ⟨x25, e24, H⟩ := am_bd H
      refine am_G.cl [.ref a0] [.ref a0] (am_Cl.mono (by decide) (lX10_days e24)) rfl rfl rfl rfl (Nat.le_of_ble_eq_true rfl) ?_
      obtain ⟨x27, hh28, e26, H⟩ := am_bd2 H
      refine am_G.cl [.ref a0, .int x25] [] (am_Cl.mono (by decide) (lX10_draw e26)) rfl rfl rfl rfl (Nat.le_of_ble_eq_true rfl) ?_
      refine am_G.fr 2 (g := (21, [some (.ref a0), some (.int x2), some (.int x27), none], [.ref a0])) rfl ?_
      obtain ⟨state29, e30, H⟩ := am_bd H
      refine am_G.gR rfl e30 ?_
      refine am_G.fr 3 (g := (29, [some (.ref a0), some (.int x2), some (.int x27), none], [.int (((1040 : Int32)) + x27), .ref state29])) rfl ?_
      obtain ⟨x31, e32, H⟩ := am_bd H
      refine am_G.aI rfl e32 ?_
      obtain ⟨hh33, E37, H⟩ := am_bd H
      refine am_G.sq (t := ((41, [none, none, none, none], []), hh33)) ?_ ?_
      · clear H
        have H := E37
        clear E37
        by_cases c34 : x31 < 0
        · rw [if_pos c34] at H
          refine am_G.br (tgt := 41) rfl rfl (if_pos c34) rfl ?_
          obtain rfl := Option.some.inj H
          refine am_G.fg [none, none, none, none] (by simp only [am_sub, and_self]) ?_
          exact am_G.nd rfl
        · rw [if_neg c34] at H
          refine am_G.br (tgt := 33) rfl rfl (if_neg c34) rfl ?_
          refine am_G.fr 3 (g := (38, [some (.ref a0), some (.int x2), some (.int x27), none], [.int x27, .int ((1034 : Int32)), .ref a0])) rfl ?_
          obtain ⟨hh36, e35, H⟩ := am_bd H
          refine am_G.cl [.ref a0, .int ((1034 : Int32)), .int x27] [] (am_Cl.mono (by decide) (lX10_leaves e35)) rfl rfl rfl rfl (Nat.le_of_ble_eq_true rfl) ?_
          obtain rfl := Option.some.inj H
          refine am_G.fg [none, none, none, none] (by simp only [am_sub, and_self]) ?_
          exact am_G.nd rfl
      · clear E37
        refine am_G.fr 1 (g := (90, [none, none, none, none], [])) rfl ?_
        obtain rfl := Option.some.inj H
        exact am_G.nd rfl
  · clear E38
    obtain rfl := Option.some.inj H
    exact am_G.nd ⟨rfl, rfl⟩
def fX10_ages_L59 : Nat → Nat → Int32 → Int32 → Int32 → Int32 → am_H → Option (Int32 × am_H)
  | 0, _, _, _, _, _, _ => none
  | n + 1, v0, v2, v3, v4, v5, h =>
    if v2 ≤ v5 then
      some (v4, h)
    else
      (fX10_days v0 h).bind fun x18 =>
      Option.bind (
        if x18 ≤ 0 then
          some h
        else
          (fX10_drawsDeed v0 h).bind fun hh22 =>
          some hh22) fun hh19 =>
      (fX10_passes v0 ((1034 : Int32)) hh19).bind fun hh24 =>
      (am_gI hh24 v0 9 28).bind fun came25 =>
      (fX10_bits came25 hh24).bind fun x28 =>
      fX10_ages_L59 n v0 v2 v3 (v4 + x28) (v5 + (1 : Int32)) hh24
def fX10_ages_L107 : Nat → Nat → Int32 → Int32 → Int32 → Int32 → am_H → Option (Int32)
  | 0, _, _, _, _, _, _ => none
  | n + 1, v0, v3, v4, v5, v6, h =>
    (fX10_days v0 h).bind fun x34 =>
    if x34 ≤ v6 then
      some v5
    else
      (am_gR h v0 9 24).bind fun state36 =>
      (am_aI h 0 state36 (((1052 : Int32)) + v6)).bind fun x38 =>
      fX10_ages_L107 n v0 v3 v4 (v5 + x38) (v6 + (1 : Int32)) h
def fX10_ages (a0 : Nat) (a1 : Int32) (a2 : Int32) (a3 : Int32) (h : am_H) : Option (Int32 × am_H) :=
  (am_isO h a0 9).bind fun _ =>
  (am_pF h a0 9 0 (.int ((0 : Int32)))).bind fun hh1 =>
  (fX10_within a1 ((0 : Int32)) ((9999 : Int32)) hh1).bind fun x4 =>
  if x4 = 0 then
    some ((-1 : Int32), hh1)
  else
    (fX10_within a2 ((1 : Int32)) ((99 : Int32)) hh1).bind fun x7 =>
    if x7 = 0 then
      some ((-1 : Int32), hh1)
    else
      (fX10_within a3 ((0 : Int32)) ((2 : Int32)) hh1).bind fun x10 =>
      if ¬ x10 = 0 then
        (fX10_copies a0 ((0 : Int32)) ((1034 : Int32)) ((30 : Int32)) hh1).bind fun hh13 =>
        (am_pF hh13 a0 9 31 (.long a1.toInt64)).bind fun hh14 =>
        am_b2 (fX10_ages_L59 4000 a0 a2 a3 ((0 : Int32)) ((0 : Int32)) hh14) fun lw30 hh31 =>
        Option.bind (fX10_ages_L107 4000 a0 a3 lw30 ((0 : Int32)) ((0 : Int32)) hh31) fun lw40 =>
        Option.bind (
          if ¬ a3 = 0 then
            if ¬ a3 = ((1 : Int32)) then
              some lw40
            else
              (am_gR hh31 a0 9 24).bind fun state45 =>
              (am_aI hh31 0 state45 ((1035 : Int32))).bind fun x47 =>
              (am_gR hh31 a0 9 24).bind fun state49 =>
              (am_aI hh31 0 state49 ((1 : Int32))).bind fun x51 =>
              some (x47 - x51)
          else
            some lw30) fun js42 =>
        some (js42, hh31)
      else
        some ((-1 : Int32), hh1)
set_option maxHeartbeats 4000000 in
set_option maxRecDepth 100000 in
theorem lX10_ages_L59 {sc : Nat × (Nat → Int32)} : ∀ (n : Nat) (v0 : Nat) (v2 : Int32) (v3 : Int32) (v4 : Int32) (v5 : Int32) (h : am_H) (w4 : Int32) (h1 : am_H), fX10_ages_L59 n v0 v2 v3 v4 v5 h = some (w4, h1) → am_G sc (am_Cl am_T am_N sc 7) (am_at kX10_ages) (fun t => t = ((101, [some (.ref v0), none, none, some (.int v3), some (.int w4), none, none], []), h1)) ((59, [some (.ref v0), none, some (.int v2), some (.int v3), some (.int v4), some (.int v5), none], []), h) := by
  intro n
  induction n with
  | zero => intro _ _ _ _ _ _ _ _ H; cases H
  | succ n ih =>
    intro v0 v2 v3 v4 v5 h w4 h1 H
    rw [fX10_ages_L59] at H
    refine am_G.fr 2 (g := (62, [some (.ref v0), none, some (.int v2), some (.int v3), some (.int v4), some (.int v5), none], [.int v2, .int v5])) rfl ?_
    by_cases c16 : v2 ≤ v5
    · rw [if_pos c16] at H
      refine am_G.br (tgt := 101) rfl rfl (if_pos c16) rfl ?_
      obtain ⟨rfl, rfl⟩ := am_inj2 H
      refine am_G.fg [some (.ref v0), none, none, some (.int v3), some (.int v4), none, none] (by simp only [am_sub, and_self]) ?_
      exact am_G.nd rfl
    · rw [if_neg c16] at H
      refine am_G.br (tgt := 65) rfl rfl (if_neg c16) rfl ?_
      refine am_G.fr 1 (g := (66, [some (.ref v0), none, some (.int v2), some (.int v3), some (.int v4), some (.int v5), none], [.ref v0])) rfl ?_
      obtain ⟨x18, e17, H⟩ := am_bd H
      refine am_G.cl [.ref v0] [] (am_Cl.mono (by decide) (lX10_days e17)) rfl rfl rfl rfl (Nat.le_of_ble_eq_true rfl) ?_
      obtain ⟨hh19, E29, H⟩ := am_bd H
      refine am_G.sq (t := ((76, [some (.ref v0), none, some (.int v2), some (.int v3), some (.int v4), some (.int v5), none], []), hh19)) ?_ ?_
      · clear H
        have H := E29
        clear E29
        by_cases c20 : x18 ≤ 0
        · rw [if_pos c20] at H
          refine am_G.br (tgt := 76) rfl rfl (if_pos c20) rfl ?_
          obtain rfl := Option.some.inj H
          exact am_G.nd rfl
        · rw [if_neg c20] at H
          refine am_G.br (tgt := 72) rfl rfl (if_neg c20) rfl ?_
          refine am_G.fr 1 (g := (73, [some (.ref v0), none, some (.int v2), some (.int v3), some (.int v4), some (.int v5), none], [.ref v0])) rfl ?_
          obtain ⟨hh22, e21, H⟩ := am_bd H
          refine am_G.cl [.ref v0] [] (am_Cl.mono (by decide) (lX10_drawsDeed e21)) rfl rfl rfl rfl (Nat.le_of_ble_eq_true rfl) ?_
          obtain rfl := Option.some.inj H
          exact am_G.nd rfl
      · clear E29
        refine am_G.fr 2 (g := (80, [some (.ref v0), none, some (.int v2), some (.int v3), some (.int v4), some (.int v5), none], [.int ((1034 : Int32)), .ref v0])) rfl ?_
        obtain ⟨hh24, e23, H⟩ := am_bd H
        refine am_G.cl [.ref v0, .int ((1034 : Int32))] [] (am_Cl.mono (by decide) (lX10_passes e23)) rfl rfl rfl rfl (Nat.le_of_ble_eq_true rfl) ?_
        refine am_G.fr 2 (g := (86, [some (.ref v0), none, some (.int v2), some (.int v3), some (.int v4), some (.int v5), none], [.ref v0, .int v4])) rfl ?_
        obtain ⟨came25, e26, H⟩ := am_bd H
        refine am_G.gI rfl e26 ?_
        obtain ⟨x28, e27, H⟩ := am_bd H
        refine am_G.cl [.int came25] [.int v4] (am_Cl.mono (by decide) (lX10_bits e27)) rfl rfl rfl rfl (Nat.le_of_ble_eq_true rfl) ?_
        refine am_G.fr 4 (g := (59, [some (.ref v0), none, some (.int v2), some (.int v3), some (.int (v4 + x28)), some (.int (v5 + (1 : Int32))), none], [])) rfl ?_
        exact ih _ _ _ _ _ _ _ _ H
set_option maxHeartbeats 4000000 in
set_option maxRecDepth 100000 in
theorem lX10_ages_L107 {sc : Nat × (Nat → Int32)} : ∀ (n : Nat) (v0 : Nat) (v3 : Int32) (v4 : Int32) (v5 : Int32) (v6 : Int32) (h : am_H) (w5 : Int32), fX10_ages_L107 n v0 v3 v4 v5 v6 h = some w5 → am_G sc (am_Cl am_T am_N sc 7) (am_at kX10_ages) (fun t => t = ((138, [some (.ref v0), none, none, some (.int v3), some (.int v4), some (.int w5), none], []), h)) ((107, [some (.ref v0), none, none, some (.int v3), some (.int v4), some (.int v5), some (.int v6)], []), h) := by
  intro n
  induction n with
  | zero => intro _ _ _ _ _ _ _ H; cases H
  | succ n ih =>
    intro v0 v3 v4 v5 v6 h w5 H
    rw [fX10_ages_L107] at H
    refine am_G.fr 2 (g := (110, [some (.ref v0), none, none, some (.int v3), some (.int v4), some (.int v5), some (.int v6)], [.ref v0, .int v6])) rfl ?_
    obtain ⟨x34, e33, H⟩ := am_bd H
    refine am_G.cl [.ref v0] [.int v6] (am_Cl.mono (by decide) (lX10_days e33)) rfl rfl rfl rfl (Nat.le_of_ble_eq_true rfl) ?_
    by_cases c35 : x34 ≤ v6
    · rw [if_pos c35] at H
      refine am_G.br (tgt := 138) rfl rfl (if_pos c35) rfl ?_
      obtain rfl := Option.some.inj H
      refine am_G.fg [some (.ref v0), none, none, some (.int v3), some (.int v4), some (.int v5), none] (by simp only [am_sub, and_self]) ?_
      exact am_G.nd rfl
    · rw [if_neg c35] at H
      refine am_G.br (tgt := 116) rfl rfl (if_neg c35) rfl ?_
      refine am_G.fr 2 (g := (119, [some (.ref v0), none, none, some (.int v3), some (.int v4), some (.int v5), some (.int v6)], [.ref v0, .int v5])) rfl ?_
      obtain ⟨state36, e37, H⟩ := am_bd H
      refine am_G.gR rfl e37 ?_
      refine am_G.fr 3 (g := (128, [some (.ref v0), none, none, some (.int v3), some (.int v4), some (.int v5), some (.int v6)], [.int (((1052 : Int32)) + v6), .ref state36, .int v5])) rfl ?_
      obtain ⟨x38, e39, H⟩ := am_bd H
      refine am_G.aI rfl e39 ?_
      refine am_G.fr 4 (g := (107, [some (.ref v0), none, none, some (.int v3), some (.int v4), some (.int (v5 + x38)), some (.int (v6 + (1 : Int32)))], [])) rfl ?_
      exact ih _ _ _ _ _ _ _ H
set_option maxHeartbeats 4000000 in
set_option maxRecDepth 100000 in
theorem lX10_ages {sc : Nat × (Nat → Int32)} {a0 : Nat} {a1 : Int32} {a2 : Int32} {a3 : Int32} {h : am_H} {r : Int32} {h1 : am_H} (H : fX10_ages a0 a1 a2 a3 h = some (r, h1)) : am_Cl am_T am_N sc 8 236 [.ref a0, .int a1, .int a2, .int a3] h (some (.int r)) h1 := by
  unfold fX10_ages at H
  obtain ⟨_, hO, H⟩ := am_bd H
  obtain ⟨fs0, hO⟩ := am_isO_ok hO
  refine am_mk (q := qX10_ages) rfl (fun _ => ⟨_, _, _, _, _, rfl, hO, rfl, rfl⟩) (fun z => absurd z (by decide)) (Nat.le_of_ble_eq_true rfl) rfl ?_
  show am_G sc (am_Cl am_T am_N sc 7) (am_at kX10_ages) (fun t => t.2 = h1 ∧ am_ret 1 (am_at kX10_ages) t.1 = some (some (.int r))) ((0, [some (.ref a0), some (.int a1), some (.int a2), some (.int a3), none, none, none], []), h)
  refine am_G.fr 2 (g := (2, [some (.ref a0), some (.int a1), some (.int a2), some (.int a3), none, none, none], [.int ((0 : Int32)), .ref a0])) rfl ?_
  obtain ⟨hh1, e2, H⟩ := am_bd H
  refine am_G.pF rfl e2 ?_
  refine am_G.fr 3 (g := (10, [some (.ref a0), some (.int a1), some (.int a2), some (.int a3), none, none, none], [.int ((9999 : Int32)), .int ((0 : Int32)), .int a1])) rfl ?_
  obtain ⟨x4, e3, H⟩ := am_bd H
  refine am_G.cl [.int a1, .int ((0 : Int32)), .int ((9999 : Int32))] [] (am_Cl.mono (by decide) (lX10_within e3)) rfl rfl rfl rfl (Nat.le_of_ble_eq_true rfl) ?_
  by_cases c5 : x4 = 0
  · rw [if_pos c5] at H
    refine am_G.br (tgt := 35) rfl rfl (if_pos c5) rfl ?_
    refine am_G.fr 1 (g := (36, [some (.ref a0), some (.int a1), some (.int a2), some (.int a3), none, none, none], [.int ((-1 : Int32))])) rfl ?_
    obtain ⟨rfl, rfl⟩ := am_inj2 H
    exact am_G.nd ⟨rfl, rfl⟩
  · rw [if_neg c5] at H
    refine am_G.br (tgt := 16) rfl rfl (if_neg c5) rfl ?_
    refine am_G.fr 3 (g := (20, [some (.ref a0), some (.int a1), some (.int a2), some (.int a3), none, none, none], [.int ((99 : Int32)), .int ((1 : Int32)), .int a2])) rfl ?_
    obtain ⟨x7, e6, H⟩ := am_bd H
    refine am_G.cl [.int a2, .int ((1 : Int32)), .int ((99 : Int32))] [] (am_Cl.mono (by decide) (lX10_within e6)) rfl rfl rfl rfl (Nat.le_of_ble_eq_true rfl) ?_
    by_cases c8 : x7 = 0
    · rw [if_pos c8] at H
      refine am_G.br (tgt := 35) rfl rfl (if_pos c8) rfl ?_
      refine am_G.fr 1 (g := (36, [some (.ref a0), some (.int a1), some (.int a2), some (.int a3), none, none, none], [.int ((-1 : Int32))])) rfl ?_
      obtain ⟨rfl, rfl⟩ := am_inj2 H
      exact am_G.nd ⟨rfl, rfl⟩
    · rw [if_neg c8] at H
      refine am_G.br (tgt := 26) rfl rfl (if_neg c8) rfl ?_
      refine am_G.fr 3 (g := (29, [some (.ref a0), some (.int a1), some (.int a2), some (.int a3), none, none, none], [.int ((2 : Int32)), .int ((0 : Int32)), .int a3])) rfl ?_
      obtain ⟨x10, e9, H⟩ := am_bd H
      refine am_G.cl [.int a3, .int ((0 : Int32)), .int ((2 : Int32))] [] (am_Cl.mono (by decide) (lX10_within e9)) rfl rfl rfl rfl (Nat.le_of_ble_eq_true rfl) ?_
      by_cases c11 : ¬ x10 = 0
      · rw [if_pos c11] at H
        refine am_G.br (tgt := 37) rfl rfl (if_pos c11) rfl ?_
        refine am_G.fr 4 (g := (44, [some (.ref a0), some (.int a1), some (.int a2), some (.int a3), none, none, none], [.int ((30 : Int32)), .int ((1034 : Int32)), .int ((0 : Int32)), .ref a0])) rfl ?_
        obtain ⟨hh13, e12, H⟩ := am_bd H
        refine am_G.cl [.ref a0, .int ((0 : Int32)), .int ((1034 : Int32)), .int ((30 : Int32))] [] (am_Cl.mono (by decide) (lX10_copies e12)) rfl rfl rfl rfl (Nat.le_of_ble_eq_true rfl) ?_
        refine am_G.fr 3 (g := (50, [some (.ref a0), some (.int a1), some (.int a2), some (.int a3), none, none, none], [.long a1.toInt64, .ref a0])) rfl ?_
        obtain ⟨hh14, e15, H⟩ := am_bd H
        refine am_G.pF rfl e15 ?_
        refine am_G.fr 4 (g := (59, [some (.ref a0), some (.int a1), some (.int a2), some (.int a3), some (.int ((0 : Int32))), some (.int ((0 : Int32))), none], [])) rfl ?_
        obtain ⟨lw30, hh31, E32, H⟩ := am_bd2 H
        refine am_G.fg [some (.ref a0), none, some (.int a2), some (.int a3), some (.int ((0 : Int32))), some (.int ((0 : Int32))), none] (by simp only [am_sub, and_self]) ?_
        refine am_G.sq (lX10_ages_L59 _ _ _ _ _ _ _ _ _ E32) ?_
        clear E32
        refine am_G.fr 4 (g := (107, [some (.ref a0), none, none, some (.int a3), some (.int lw30), some (.int ((0 : Int32))), some (.int ((0 : Int32)))], [])) rfl ?_
        obtain ⟨lw40, E41, H⟩ := am_bd H
        refine am_G.sq (lX10_ages_L107 _ _ _ _ _ _ _ _ E41) ?_
        clear E41
        refine am_G.fr 1 (g := (139, [some (.ref a0), none, none, some (.int a3), some (.int lw30), some (.int lw40), none], [.int a3])) rfl ?_
        obtain ⟨js42, E53, H⟩ := am_bd H
        refine am_G.sq (t := ((172, [none, none, none, none, none, none, none], [.int js42]), hh31)) ?_ ?_
        · clear H
          have H := E53
          clear E53
          by_cases c43 : ¬ a3 = 0
          · rw [if_pos c43] at H
            refine am_G.br (tgt := 147) rfl rfl (if_pos c43) rfl ?_
            refine am_G.fr 2 (g := (149, [some (.ref a0), none, none, some (.int a3), some (.int lw30), some (.int lw40), none], [.int ((1 : Int32)), .int a3])) rfl ?_
            by_cases c44 : ¬ a3 = ((1 : Int32))
            · rw [if_pos c44] at H
              refine am_G.br (tgt := 170) rfl rfl (if_pos c44) rfl ?_
              refine am_G.fr 1 (g := (172, [some (.ref a0), none, none, some (.int a3), some (.int lw30), some (.int lw40), none], [.int lw40])) rfl ?_
              obtain rfl := Option.some.inj H
              refine am_G.fg [none, none, none, none, none, none, none] (by simp only [am_sub, and_self]) ?_
              exact am_G.nd rfl
            · rw [if_neg c44] at H
              refine am_G.br (tgt := 152) rfl rfl (if_neg c44) rfl ?_
              refine am_G.fr 1 (g := (153, [some (.ref a0), none, none, some (.int a3), some (.int lw30), some (.int lw40), none], [.ref a0])) rfl ?_
              obtain ⟨state45, e46, H⟩ := am_bd H
              refine am_G.gR rfl e46 ?_
              refine am_G.fr 1 (g := (159, [some (.ref a0), none, none, some (.int a3), some (.int lw30), some (.int lw40), none], [.int ((1035 : Int32)), .ref state45])) rfl ?_
              obtain ⟨x47, e48, H⟩ := am_bd H
              refine am_G.aI rfl e48 ?_
              refine am_G.fr 1 (g := (161, [some (.ref a0), none, none, some (.int a3), some (.int lw30), some (.int lw40), none], [.ref a0, .int x47])) rfl ?_
              obtain ⟨state49, e50, H⟩ := am_bd H
              refine am_G.gR rfl e50 ?_
              refine am_G.fr 1 (g := (165, [some (.ref a0), none, none, some (.int a3), some (.int lw30), some (.int lw40), none], [.int ((1 : Int32)), .ref state49, .int x47])) rfl ?_
              obtain ⟨x51, e52, H⟩ := am_bd H
              refine am_G.aI rfl e52 ?_
              refine am_G.fr 2 (g := (172, [some (.ref a0), none, none, some (.int a3), some (.int lw30), some (.int lw40), none], [.int (x47 - x51)])) rfl ?_
              obtain rfl := Option.some.inj H
              refine am_G.fg [none, none, none, none, none, none, none] (by simp only [am_sub, and_self]) ?_
              exact am_G.nd rfl
          · rw [if_neg c43] at H
            refine am_G.br (tgt := 142) rfl rfl (if_neg c43) rfl ?_
            refine am_G.fr 2 (g := (172, [some (.ref a0), none, none, some (.int a3), some (.int lw30), some (.int lw40), none], [.int lw30])) rfl ?_
            obtain rfl := Option.some.inj H
            refine am_G.fg [none, none, none, none, none, none, none] (by simp only [am_sub, and_self]) ?_
            exact am_G.nd rfl
        · clear E53
          obtain ⟨rfl, rfl⟩ := am_inj2 H
          exact am_G.nd ⟨rfl, rfl⟩
      · rw [if_neg c11] at H
        refine am_G.br (tgt := 35) rfl rfl (if_neg c11) rfl ?_
        refine am_G.fr 1 (g := (36, [some (.ref a0), some (.int a1), some (.int a2), some (.int a3), none, none, none], [.int ((-1 : Int32))])) rfl ?_
        obtain ⟨rfl, rfl⟩ := am_inj2 H
        exact am_G.nd ⟨rfl, rfl⟩
def fX10_mark (a0 : Nat) (a1 : Int32) (a2 : Int32) (h : am_H) : Option (Int32 × am_H) :=
  (am_isO h a0 9).bind fun _ =>
  (am_pF h a0 9 0 (.int ((0 : Int32)))).bind fun hh1 =>
  (fX10_within a1 ((0 : Int32)) ((3 : Int32)) hh1).bind fun x4 =>
  if x4 = 0 then
    some ((0 : Int32), hh1)
  else
    if a2 = 0 then
      (am_gR hh1 a0 9 26).bind fun isMarked7 =>
      (am_sI hh1 3 isMarked7 a1 ((1 : Int32))).bind fun hh9 =>
      Option.bind (
        if a2 = 0 then
          some ((0 : Int32))
        else
          some (((47 : Int32)) * (((1 : Int32)) + a1))) fun js11 =>
      Option.bind (
        if a2 = 0 then
          some (((47 : Int32)) * (((1 : Int32)) + a1))
        else
          some ((0 : Int32))) fun js13 =>
      (fX10_copies a0 js11 js13 ((47 : Int32)) hh9).bind fun hh16 =>
      Option.bind (
        if a2 = 0 then
          (am_gI hh16 a0 9 25).bind fun undos19 =>
          some undos19
        else
          some ((0 : Int32))) fun js17 =>
      (am_pF hh16 a0 9 25 (.int js17)).bind fun hh21 =>
      some ((1 : Int32), hh21)
    else
      (am_gR hh1 a0 9 26).bind fun isMarked26 =>
      (am_aI hh1 3 isMarked26 a1).bind fun x28 =>
      if ¬ x28 = 0 then
        (am_gR hh1 a0 9 26).bind fun isMarked31 =>
        (am_sI hh1 3 isMarked31 a1 ((1 : Int32))).bind fun hh33 =>
        Option.bind (
          if a2 = 0 then
            some ((0 : Int32))
          else
            some (((47 : Int32)) * (((1 : Int32)) + a1))) fun js35 =>
        Option.bind (
          if a2 = 0 then
            some (((47 : Int32)) * (((1 : Int32)) + a1))
          else
            some ((0 : Int32))) fun js37 =>
        (fX10_copies a0 js35 js37 ((47 : Int32)) hh33).bind fun hh40 =>
        Option.bind (
          if a2 = 0 then
            (am_gI hh40 a0 9 25).bind fun undos43 =>
            some undos43
          else
            some ((0 : Int32))) fun js41 =>
        (am_pF hh40 a0 9 25 (.int js41)).bind fun hh45 =>
        some ((1 : Int32), hh45)
      else
        some ((0 : Int32), hh1)
set_option maxHeartbeats 4000000 in
set_option maxRecDepth 100000 in
theorem lX10_mark {sc : Nat × (Nat → Int32)} {a0 : Nat} {a1 : Int32} {a2 : Int32} {h : am_H} {r : Int32} {h1 : am_H} (H : fX10_mark a0 a1 a2 h = some (r, h1)) : am_Cl am_T am_N sc 2 237 [.ref a0, .int a1, .int a2] h (some (.int r)) h1 := by
  unfold fX10_mark at H
  obtain ⟨_, hO, H⟩ := am_bd H
  obtain ⟨fs0, hO⟩ := am_isO_ok hO
  refine am_mk (q := qX10_mark) rfl (fun _ => ⟨_, _, _, _, _, rfl, hO, rfl, rfl⟩) (fun z => absurd z (by decide)) (Nat.le_of_ble_eq_true rfl) rfl ?_
  show am_G sc (am_Cl am_T am_N sc 1) (am_at kX10_mark) (fun t => t.2 = h1 ∧ am_ret 2 (am_at kX10_mark) t.1 = some (some (.int r))) ((0, [some (.ref a0), some (.int a1), some (.int a2)], []), h)
  refine am_G.fr 2 (g := (2, [some (.ref a0), some (.int a1), some (.int a2)], [.int ((0 : Int32)), .ref a0])) rfl ?_
  obtain ⟨hh1, e2, H⟩ := am_bd H
  refine am_G.pF rfl e2 ?_
  refine am_G.fr 3 (g := (8, [some (.ref a0), some (.int a1), some (.int a2)], [.int ((3 : Int32)), .int ((0 : Int32)), .int a1])) rfl ?_
  obtain ⟨x4, e3, H⟩ := am_bd H
  refine am_G.cl [.int a1, .int ((0 : Int32)), .int ((3 : Int32))] [] (am_Cl.mono (by decide) (lX10_within e3)) rfl rfl rfl rfl (Nat.le_of_ble_eq_true rfl) ?_
  by_cases c5 : x4 = 0
  · rw [if_pos c5] at H
    refine am_G.br (tgt := 27) rfl rfl (if_pos c5) rfl ?_
    refine am_G.fr 1 (g := (28, [some (.ref a0), some (.int a1), some (.int a2)], [.int ((0 : Int32))])) rfl ?_
    obtain ⟨rfl, rfl⟩ := am_inj2 H
    exact am_G.nd ⟨rfl, am_ret2 rfl (if_pos (by decide))⟩
  · rw [if_neg c5] at H
    refine am_G.br (tgt := 14) rfl rfl (if_neg c5) rfl ?_
    refine am_G.fr 1 (g := (15, [some (.ref a0), some (.int a1), some (.int a2)], [.int a2])) rfl ?_
    by_cases c6 : a2 = 0
    · rw [if_pos c6] at H
      refine am_G.br (tgt := 29) rfl rfl (if_pos c6) rfl ?_
      refine am_G.fr 1 (g := (30, [some (.ref a0), some (.int a1), some (.int a2)], [.ref a0])) rfl ?_
      obtain ⟨isMarked7, e8, H⟩ := am_bd H
      refine am_G.gR rfl e8 ?_
      refine am_G.fr 2 (g := (35, [some (.ref a0), some (.int a1), some (.int a2)], [.int ((1 : Int32)), .int a1, .ref isMarked7])) rfl ?_
      obtain ⟨hh9, e10, H⟩ := am_bd H
      refine am_G.sB rfl e10 ?_
      refine am_G.fr 2 (g := (38, [some (.ref a0), some (.int a1), some (.int a2)], [.int a2, .ref a0])) rfl ?_
      obtain ⟨js11, E25, H⟩ := am_bd H
      refine am_G.sq (t := ((51, [some (.ref a0), some (.int a1), some (.int a2)], [.int js11, .ref a0]), hh9)) ?_ ?_
      · clear H
        have H := E25
        clear E25
        by_cases c12 : a2 = 0
        · rw [if_pos c12] at H
          refine am_G.br (tgt := 50) rfl rfl (if_pos c12) rfl ?_
          refine am_G.fr 1 (g := (51, [some (.ref a0), some (.int a1), some (.int a2)], [.int ((0 : Int32)), .ref a0])) rfl ?_
          obtain rfl := Option.some.inj H
          exact am_G.nd rfl
        · rw [if_neg c12] at H
          refine am_G.br (tgt := 41) rfl rfl (if_neg c12) rfl ?_
          refine am_G.fr 6 (g := (51, [some (.ref a0), some (.int a1), some (.int a2)], [.int (((47 : Int32)) * (((1 : Int32)) + a1)), .ref a0])) rfl ?_
          obtain rfl := Option.some.inj H
          exact am_G.nd rfl
      · clear E25
        refine am_G.fr 1 (g := (52, [some (.ref a0), some (.int a1), some (.int a2)], [.int a2, .int js11, .ref a0])) rfl ?_
        obtain ⟨js13, E24, H⟩ := am_bd H
        refine am_G.sq (t := ((65, [some (.ref a0), none, some (.int a2)], [.int js13, .int js11, .ref a0]), hh9)) ?_ ?_
        · clear H
          have H := E24
          clear E24
          by_cases c14 : a2 = 0
          · rw [if_pos c14] at H
            refine am_G.br (tgt := 59) rfl rfl (if_pos c14) rfl ?_
            refine am_G.fr 5 (g := (65, [some (.ref a0), some (.int a1), some (.int a2)], [.int (((47 : Int32)) * (((1 : Int32)) + a1)), .int js11, .ref a0])) rfl ?_
            obtain rfl := Option.some.inj H
            refine am_G.fg [some (.ref a0), none, some (.int a2)] (by simp only [am_sub, and_self]) ?_
            exact am_G.nd rfl
          · rw [if_neg c14] at H
            refine am_G.br (tgt := 55) rfl rfl (if_neg c14) rfl ?_
            refine am_G.fr 2 (g := (65, [some (.ref a0), some (.int a1), some (.int a2)], [.int ((0 : Int32)), .int js11, .ref a0])) rfl ?_
            obtain rfl := Option.some.inj H
            refine am_G.fg [some (.ref a0), none, some (.int a2)] (by simp only [am_sub, and_self]) ?_
            exact am_G.nd rfl
        · clear E24
          refine am_G.fr 1 (g := (67, [some (.ref a0), none, some (.int a2)], [.int ((47 : Int32)), .int js13, .int js11, .ref a0])) rfl ?_
          obtain ⟨hh16, e15, H⟩ := am_bd H
          refine am_G.cl [.ref a0, .int js11, .int js13, .int ((47 : Int32))] [] (am_Cl.mono (by decide) (lX10_copies e15)) rfl rfl rfl rfl (Nat.le_of_ble_eq_true rfl) ?_
          refine am_G.fr 2 (g := (72, [some (.ref a0), none, some (.int a2)], [.int a2, .ref a0])) rfl ?_
          obtain ⟨js17, E23, H⟩ := am_bd H
          refine am_G.sq (t := ((83, [none, none, none], [.int js17, .ref a0]), hh16)) ?_ ?_
          · clear H
            have H := E23
            clear E23
            by_cases c18 : a2 = 0
            · rw [if_pos c18] at H
              refine am_G.br (tgt := 79) rfl rfl (if_pos c18) rfl ?_
              refine am_G.fr 1 (g := (80, [some (.ref a0), none, some (.int a2)], [.ref a0, .ref a0])) rfl ?_
              obtain ⟨undos19, e20, H⟩ := am_bd H
              refine am_G.gI rfl e20 ?_
              obtain rfl := Option.some.inj H
              refine am_G.fg [none, none, none] (by simp only [am_sub, and_self]) ?_
              exact am_G.nd rfl
            · rw [if_neg c18] at H
              refine am_G.br (tgt := 75) rfl rfl (if_neg c18) rfl ?_
              refine am_G.fr 2 (g := (83, [some (.ref a0), none, some (.int a2)], [.int ((0 : Int32)), .ref a0])) rfl ?_
              obtain rfl := Option.some.inj H
              refine am_G.fg [none, none, none] (by simp only [am_sub, and_self]) ?_
              exact am_G.nd rfl
          · clear E23
            obtain ⟨hh21, e22, H⟩ := am_bd H
            refine am_G.pF rfl e22 ?_
            refine am_G.fr 1 (g := (87, [none, none, none], [.int ((1 : Int32))])) rfl ?_
            obtain ⟨rfl, rfl⟩ := am_inj2 H
            exact am_G.nd ⟨rfl, am_ret2 rfl (if_pos (by decide))⟩
    · rw [if_neg c6] at H
      refine am_G.br (tgt := 18) rfl rfl (if_neg c6) rfl ?_
      refine am_G.fr 1 (g := (19, [some (.ref a0), some (.int a1), some (.int a2)], [.ref a0])) rfl ?_
      obtain ⟨isMarked26, e27, H⟩ := am_bd H
      refine am_G.gR rfl e27 ?_
      refine am_G.fr 1 (g := (23, [some (.ref a0), some (.int a1), some (.int a2)], [.int a1, .ref isMarked26])) rfl ?_
      obtain ⟨x28, e29, H⟩ := am_bd H
      refine am_G.aB rfl e29 ?_
      by_cases c30 : ¬ x28 = 0
      · rw [if_pos c30] at H
        refine am_G.br (tgt := 29) rfl rfl (if_pos c30) rfl ?_
        refine am_G.fr 1 (g := (30, [some (.ref a0), some (.int a1), some (.int a2)], [.ref a0])) rfl ?_
        obtain ⟨isMarked31, e32, H⟩ := am_bd H
        refine am_G.gR rfl e32 ?_
        refine am_G.fr 2 (g := (35, [some (.ref a0), some (.int a1), some (.int a2)], [.int ((1 : Int32)), .int a1, .ref isMarked31])) rfl ?_
        obtain ⟨hh33, e34, H⟩ := am_bd H
        refine am_G.sB rfl e34 ?_
        refine am_G.fr 2 (g := (38, [some (.ref a0), some (.int a1), some (.int a2)], [.int a2, .ref a0])) rfl ?_
        obtain ⟨js35, E49, H⟩ := am_bd H
        refine am_G.sq (t := ((51, [some (.ref a0), some (.int a1), some (.int a2)], [.int js35, .ref a0]), hh33)) ?_ ?_
        · clear H
          have H := E49
          clear E49
          by_cases c36 : a2 = 0
          · rw [if_pos c36] at H
            refine am_G.br (tgt := 50) rfl rfl (if_pos c36) rfl ?_
            refine am_G.fr 1 (g := (51, [some (.ref a0), some (.int a1), some (.int a2)], [.int ((0 : Int32)), .ref a0])) rfl ?_
            obtain rfl := Option.some.inj H
            exact am_G.nd rfl
          · rw [if_neg c36] at H
            refine am_G.br (tgt := 41) rfl rfl (if_neg c36) rfl ?_
            refine am_G.fr 6 (g := (51, [some (.ref a0), some (.int a1), some (.int a2)], [.int (((47 : Int32)) * (((1 : Int32)) + a1)), .ref a0])) rfl ?_
            obtain rfl := Option.some.inj H
            exact am_G.nd rfl
        · clear E49
          refine am_G.fr 1 (g := (52, [some (.ref a0), some (.int a1), some (.int a2)], [.int a2, .int js35, .ref a0])) rfl ?_
          obtain ⟨js37, E48, H⟩ := am_bd H
          refine am_G.sq (t := ((65, [some (.ref a0), none, some (.int a2)], [.int js37, .int js35, .ref a0]), hh33)) ?_ ?_
          · clear H
            have H := E48
            clear E48
            by_cases c38 : a2 = 0
            · rw [if_pos c38] at H
              refine am_G.br (tgt := 59) rfl rfl (if_pos c38) rfl ?_
              refine am_G.fr 5 (g := (65, [some (.ref a0), some (.int a1), some (.int a2)], [.int (((47 : Int32)) * (((1 : Int32)) + a1)), .int js35, .ref a0])) rfl ?_
              obtain rfl := Option.some.inj H
              refine am_G.fg [some (.ref a0), none, some (.int a2)] (by simp only [am_sub, and_self]) ?_
              exact am_G.nd rfl
            · rw [if_neg c38] at H
              refine am_G.br (tgt := 55) rfl rfl (if_neg c38) rfl ?_
              refine am_G.fr 2 (g := (65, [some (.ref a0), some (.int a1), some (.int a2)], [.int ((0 : Int32)), .int js35, .ref a0])) rfl ?_
              obtain rfl := Option.some.inj H
              refine am_G.fg [some (.ref a0), none, some (.int a2)] (by simp only [am_sub, and_self]) ?_
              exact am_G.nd rfl
          · clear E48
            refine am_G.fr 1 (g := (67, [some (.ref a0), none, some (.int a2)], [.int ((47 : Int32)), .int js37, .int js35, .ref a0])) rfl ?_
            obtain ⟨hh40, e39, H⟩ := am_bd H
            refine am_G.cl [.ref a0, .int js35, .int js37, .int ((47 : Int32))] [] (am_Cl.mono (by decide) (lX10_copies e39)) rfl rfl rfl rfl (Nat.le_of_ble_eq_true rfl) ?_
            refine am_G.fr 2 (g := (72, [some (.ref a0), none, some (.int a2)], [.int a2, .ref a0])) rfl ?_
            obtain ⟨js41, E47, H⟩ := am_bd H
            refine am_G.sq (t := ((83, [none, none, none], [.int js41, .ref a0]), hh40)) ?_ ?_
            · clear H
              have H := E47
              clear E47
              by_cases c42 : a2 = 0
              · rw [if_pos c42] at H
                refine am_G.br (tgt := 79) rfl rfl (if_pos c42) rfl ?_
                refine am_G.fr 1 (g := (80, [some (.ref a0), none, some (.int a2)], [.ref a0, .ref a0])) rfl ?_
                obtain ⟨undos43, e44, H⟩ := am_bd H
                refine am_G.gI rfl e44 ?_
                obtain rfl := Option.some.inj H
                refine am_G.fg [none, none, none] (by simp only [am_sub, and_self]) ?_
                exact am_G.nd rfl
              · rw [if_neg c42] at H
                refine am_G.br (tgt := 75) rfl rfl (if_neg c42) rfl ?_
                refine am_G.fr 2 (g := (83, [some (.ref a0), none, some (.int a2)], [.int ((0 : Int32)), .ref a0])) rfl ?_
                obtain rfl := Option.some.inj H
                refine am_G.fg [none, none, none] (by simp only [am_sub, and_self]) ?_
                exact am_G.nd rfl
            · clear E47
              obtain ⟨hh45, e46, H⟩ := am_bd H
              refine am_G.pF rfl e46 ?_
              refine am_G.fr 1 (g := (87, [none, none, none], [.int ((1 : Int32))])) rfl ?_
              obtain ⟨rfl, rfl⟩ := am_inj2 H
              exact am_G.nd ⟨rfl, am_ret2 rfl (if_pos (by decide))⟩
      · rw [if_neg c30] at H
        refine am_G.br (tgt := 27) rfl rfl (if_neg c30) rfl ?_
        refine am_G.fr 1 (g := (28, [some (.ref a0), some (.int a1), some (.int a2)], [.int ((0 : Int32))])) rfl ?_
        obtain ⟨rfl, rfl⟩ := am_inj2 H
        exact am_G.nd ⟨rfl, am_ret2 rfl (if_pos (by decide))⟩
def fX10_fadedNow_L4 : Nat → Nat → Int32 → Int32 → am_H → Option (Int32)
  | 0, _, _, _, _ => none
  | n + 1, v0, v1, v2, h =>
    (fX10_days v0 h).bind fun x2 =>
    if x2 ≤ v2 then
      some v1
    else
      (am_gR h v0 9 24).bind fun state4 =>
      (am_aI h 0 state4 (((18 : Int32)) + v2)).bind fun x6 =>
      Option.bind (
        if ¬ x6 = 0 then
          some ((0 : Int32))
        else
          some (((1 : Int32)) <<< (v2 &&& 31))) fun js8 =>
      fX10_fadedNow_L4 n v0 (v1 ||| js8) (v2 + (1 : Int32)) h
def fX10_fadedNow (a0 : Nat) (h : am_H) : Option (Int32) :=
  (am_isO h a0 9).bind fun _ =>
  Option.bind (fX10_fadedNow_L4 4000 a0 ((0 : Int32)) ((0 : Int32)) h) fun lw11 =>
  some lw11
set_option maxHeartbeats 4000000 in
set_option maxRecDepth 100000 in
theorem lX10_fadedNow_L4 {sc : Nat × (Nat → Int32)} : ∀ (n : Nat) (v0 : Nat) (v1 : Int32) (v2 : Int32) (h : am_H) (w1 : Int32), fX10_fadedNow_L4 n v0 v1 v2 h = some w1 → am_G sc (am_Cl am_T am_N sc 1) (am_at kX10_fadedNow) (fun t => t = ((40, [none, some (.int w1), none], []), h)) ((4, [some (.ref v0), some (.int v1), some (.int v2)], []), h) := by
  intro n
  induction n with
  | zero => intro _ _ _ _ _ H; cases H
  | succ n ih =>
    intro v0 v1 v2 h w1 H
    rw [fX10_fadedNow_L4] at H
    refine am_G.fr 2 (g := (6, [some (.ref v0), some (.int v1), some (.int v2)], [.ref v0, .int v2])) rfl ?_
    obtain ⟨x2, e1, H⟩ := am_bd H
    refine am_G.cl [.ref v0] [.int v2] (am_Cl.mono (by decide) (lX10_days e1)) rfl rfl rfl rfl (Nat.le_of_ble_eq_true rfl) ?_
    by_cases c3 : x2 ≤ v2
    · rw [if_pos c3] at H
      refine am_G.br (tgt := 40) rfl rfl (if_pos c3) rfl ?_
      obtain rfl := Option.some.inj H
      refine am_G.fg [none, some (.int v1), none] (by simp only [am_sub, and_self]) ?_
      exact am_G.nd rfl
    · rw [if_neg c3] at H
      refine am_G.br (tgt := 12) rfl rfl (if_neg c3) rfl ?_
      refine am_G.fr 2 (g := (14, [some (.ref v0), some (.int v1), some (.int v2)], [.ref v0, .int v1])) rfl ?_
      obtain ⟨state4, e5, H⟩ := am_bd H
      refine am_G.gR rfl e5 ?_
      refine am_G.fr 3 (g := (21, [some (.ref v0), some (.int v1), some (.int v2)], [.int (((18 : Int32)) + v2), .ref state4, .int v1])) rfl ?_
      obtain ⟨x6, e7, H⟩ := am_bd H
      refine am_G.aI rfl e7 ?_
      obtain ⟨js8, E10, H⟩ := am_bd H
      refine am_G.sq (t := ((32, [some (.ref v0), none, some (.int v2)], [.int js8, .int v1]), h)) ?_ ?_
      · clear H
        have H := E10
        clear E10
        by_cases c9 : ¬ x6 = 0
        · rw [if_pos c9] at H
          refine am_G.br (tgt := 31) rfl rfl (if_pos c9) rfl ?_
          refine am_G.fr 1 (g := (32, [some (.ref v0), some (.int v1), some (.int v2)], [.int ((0 : Int32)), .int v1])) rfl ?_
          obtain rfl := Option.some.inj H
          refine am_G.fg [some (.ref v0), none, some (.int v2)] (by simp only [am_sub, and_self]) ?_
          exact am_G.nd rfl
        · rw [if_neg c9] at H
          refine am_G.br (tgt := 25) rfl rfl (if_neg c9) rfl ?_
          refine am_G.fr 4 (g := (32, [some (.ref v0), some (.int v1), some (.int v2)], [.int (((1 : Int32)) <<< (v2 &&& 31)), .int v1])) rfl ?_
          obtain rfl := Option.some.inj H
          refine am_G.fg [some (.ref v0), none, some (.int v2)] (by simp only [am_sub, and_self]) ?_
          exact am_G.nd rfl
      · clear E10
        refine am_G.fr 4 (g := (4, [some (.ref v0), some (.int (v1 ||| js8)), some (.int (v2 + (1 : Int32)))], [])) rfl ?_
        exact ih _ _ _ _ _ H
set_option maxHeartbeats 4000000 in
set_option maxRecDepth 100000 in
theorem lX10_fadedNow {sc : Nat × (Nat → Int32)} {a0 : Nat} {h : am_H} {r : Int32} (H : fX10_fadedNow a0 h = some r) : am_Cl am_T am_N sc 2 238 [.ref a0] h (some (.int r)) h := by
  unfold fX10_fadedNow at H
  obtain ⟨_, hO, H⟩ := am_bd H
  obtain ⟨fs0, hO⟩ := am_isO_ok hO
  refine am_mk (q := qX10_fadedNow) rfl (fun _ => ⟨_, _, _, _, _, rfl, hO, rfl, rfl⟩) (fun z => absurd z (by decide)) (Nat.le_of_ble_eq_true rfl) rfl ?_
  show am_G sc (am_Cl am_T am_N sc 1) (am_at kX10_fadedNow) (fun t => t.2 = h ∧ am_ret 1 (am_at kX10_fadedNow) t.1 = some (some (.int r))) ((0, [some (.ref a0), none, none], []), h)
  refine am_G.fr 4 (g := (4, [some (.ref a0), some (.int ((0 : Int32))), some (.int ((0 : Int32)))], [])) rfl ?_
  obtain ⟨lw11, E12, H⟩ := am_bd H
  refine am_G.sq (lX10_fadedNow_L4 _ _ _ _ _ _ E12) ?_
  clear E12
  refine am_G.fr 1 (g := (41, [none, some (.int lw11), none], [.int lw11])) rfl ?_
  obtain rfl := Option.some.inj H
  exact am_G.nd ⟨rfl, rfl⟩
def fX10_bedsOfAll_L4 : Nat → Nat → Int32 → Int32 → am_H → Option (Int32)
  | 0, _, _, _, _ => none
  | n + 1, v0, v1, v2, h =>
    (fX10_houses v0 h).bind fun x2 =>
    if x2 ≤ v2 then
      some v1
    else
      (am_gR h v0 9 24).bind fun state4 =>
      (am_aI h 0 state4 (((2 : Int32)) + v2)).bind fun x6 =>
      fX10_bedsOfAll_L4 n v0 (v1 + x6) (v2 + (1 : Int32)) h
def fX10_bedsOfAll (a0 : Nat) (h : am_H) : Option (Int32) :=
  (am_isO h a0 9).bind fun _ =>
  Option.bind (fX10_bedsOfAll_L4 4000 a0 ((0 : Int32)) ((0 : Int32)) h) fun lw8 =>
  some lw8
set_option maxHeartbeats 4000000 in
set_option maxRecDepth 100000 in
theorem lX10_bedsOfAll_L4 {sc : Nat × (Nat → Int32)} : ∀ (n : Nat) (v0 : Nat) (v1 : Int32) (v2 : Int32) (h : am_H) (w1 : Int32), fX10_bedsOfAll_L4 n v0 v1 v2 h = some w1 → am_G sc (am_Cl am_T am_N sc 1) (am_at kX10_bedsOfAll) (fun t => t = ((29, [none, some (.int w1), none], []), h)) ((4, [some (.ref v0), some (.int v1), some (.int v2)], []), h) := by
  intro n
  induction n with
  | zero => intro _ _ _ _ _ H; cases H
  | succ n ih =>
    intro v0 v1 v2 h w1 H
    rw [fX10_bedsOfAll_L4] at H
    refine am_G.fr 2 (g := (6, [some (.ref v0), some (.int v1), some (.int v2)], [.ref v0, .int v2])) rfl ?_
    obtain ⟨x2, e1, H⟩ := am_bd H
    refine am_G.cl [.ref v0] [.int v2] (am_Cl.mono (by decide) (lX10_houses e1)) rfl rfl rfl rfl (Nat.le_of_ble_eq_true rfl) ?_
    by_cases c3 : x2 ≤ v2
    · rw [if_pos c3] at H
      refine am_G.br (tgt := 29) rfl rfl (if_pos c3) rfl ?_
      obtain rfl := Option.some.inj H
      refine am_G.fg [none, some (.int v1), none] (by simp only [am_sub, and_self]) ?_
      exact am_G.nd rfl
    · rw [if_neg c3] at H
      refine am_G.br (tgt := 12) rfl rfl (if_neg c3) rfl ?_
      refine am_G.fr 2 (g := (14, [some (.ref v0), some (.int v1), some (.int v2)], [.ref v0, .int v1])) rfl ?_
      obtain ⟨state4, e5, H⟩ := am_bd H
      refine am_G.gR rfl e5 ?_
      refine am_G.fr 3 (g := (20, [some (.ref v0), some (.int v1), some (.int v2)], [.int (((2 : Int32)) + v2), .ref state4, .int v1])) rfl ?_
      obtain ⟨x6, e7, H⟩ := am_bd H
      refine am_G.aI rfl e7 ?_
      refine am_G.fr 4 (g := (4, [some (.ref v0), some (.int (v1 + x6)), some (.int (v2 + (1 : Int32)))], [])) rfl ?_
      exact ih _ _ _ _ _ H
set_option maxHeartbeats 4000000 in
set_option maxRecDepth 100000 in
theorem lX10_bedsOfAll {sc : Nat × (Nat → Int32)} {a0 : Nat} {h : am_H} {r : Int32} (H : fX10_bedsOfAll a0 h = some r) : am_Cl am_T am_N sc 2 239 [.ref a0] h (some (.int r)) h := by
  unfold fX10_bedsOfAll at H
  obtain ⟨_, hO, H⟩ := am_bd H
  obtain ⟨fs0, hO⟩ := am_isO_ok hO
  refine am_mk (q := qX10_bedsOfAll) rfl (fun _ => ⟨_, _, _, _, _, rfl, hO, rfl, rfl⟩) (fun z => absurd z (by decide)) (Nat.le_of_ble_eq_true rfl) rfl ?_
  show am_G sc (am_Cl am_T am_N sc 1) (am_at kX10_bedsOfAll) (fun t => t.2 = h ∧ am_ret 1 (am_at kX10_bedsOfAll) t.1 = some (some (.int r))) ((0, [some (.ref a0), none, none], []), h)
  refine am_G.fr 4 (g := (4, [some (.ref a0), some (.int ((0 : Int32))), some (.int ((0 : Int32)))], [])) rfl ?_
  obtain ⟨lw8, E9, H⟩ := am_bd H
  refine am_G.sq (lX10_bedsOfAll_L4 _ _ _ _ _ _ E9) ?_
  clear E9
  refine am_G.fr 1 (g := (30, [none, some (.int lw8), none], [.int lw8])) rfl ?_
  obtain rfl := Option.some.inj H
  exact am_G.nd ⟨rfl, rfl⟩
def fX10_count (a0 : Nat) (a1 : Int32) (h : am_H) : Option (Int32 × am_H) :=
  (am_isO h a0 9).bind fun _ =>
  (am_pF h a0 9 0 (.int ((0 : Int32)))).bind fun hh1 =>
  if a1.toInt < 0 ∨ 12 < a1.toInt then
    some ((-1 : Int32), hh1)
  else (some (a1.toInt - 0).toNat).bind fun k4 =>
  if k4 = 0 then
    (am_gR hh1 a0 9 10).bind fun vales6 =>
    (am_aI hh1 0 vales6 a1).bind fun x8 =>
    some (x8, hh1)
  else if k4 = 1 then
    (am_gR hh1 a0 9 10).bind fun vales11 =>
    (am_aI hh1 0 vales11 a1).bind fun x13 =>
    some (x13, hh1)
  else if k4 = 2 then
    (am_gR hh1 a0 9 10).bind fun vales16 =>
    (am_aI hh1 0 vales16 a1).bind fun x18 =>
    some (x18, hh1)
  else if k4 = 3 then
    (am_gR hh1 a0 9 24).bind fun state21 =>
    (am_aI hh1 0 state21 ((0 : Int32))).bind fun x23 =>
    (am_dv x23 ((12 : Int32))).bind fun q25 =>
    some (q25, hh1)
  else if k4 = 4 then
    (am_gR hh1 a0 9 24).bind fun state28 =>
    (am_aI hh1 0 state28 ((0 : Int32))).bind fun x30 =>
    (am_rm' x30 ((12 : Int32))).bind fun q32 =>
    some (q32, hh1)
  else if k4 = 5 then
    (fX10_somewhere a0 ((0 : Int32)) hh1).bind fun x36 =>
    some (x36, hh1)
  else if k4 = 6 then
    (fX10_bedsOfAll a0 hh1).bind fun x39 =>
    some (x39, hh1)
  else if k4 = 7 then
    (am_gR hh1 a0 9 24).bind fun state41 =>
    (am_aI hh1 0 state41 ((1 : Int32))).bind fun x43 =>
    some (x43, hh1)
  else if k4 = 8 then
    (fX10_fadedNow a0 hh1).bind fun x47 =>
    some (x47, hh1)
  else if k4 = 9 then
    (am_gR hh1 a0 9 21).bind fun lines49 =>
    (am_aI hh1 0 lines49 ((0 : Int32))).bind fun x51 =>
    some (x51, hh1)
  else if k4 = 10 then
    (am_gR hh1 a0 9 24).bind fun state54 =>
    (am_aI hh1 0 state54 ((30 : Int32))).bind fun x56 =>
    some (x56, hh1)
  else if k4 = 11 then
    (am_gI hh1 a0 9 25).bind fun undos59 =>
    some (undos59, hh1)
  else if k4 = 12 then
    (am_gI hh1 a0 9 2).bind fun taped62 =>
    some (taped62, hh1)
  else none
set_option maxHeartbeats 4000000 in
set_option maxRecDepth 100000 in
theorem lX10_count {sc : Nat × (Nat → Int32)} {a0 : Nat} {a1 : Int32} {h : am_H} {r : Int32} {h1 : am_H} (H : fX10_count a0 a1 h = some (r, h1)) : am_Cl am_T am_N sc 3 240 [.ref a0, .int a1] h (some (.int r)) h1 := by
  unfold fX10_count at H
  obtain ⟨_, hO, H⟩ := am_bd H
  obtain ⟨fs0, hO⟩ := am_isO_ok hO
  refine am_mk (q := qX10_count) rfl (fun _ => ⟨_, _, _, _, _, rfl, hO, rfl, rfl⟩) (fun z => absurd z (by decide)) (Nat.le_of_ble_eq_true rfl) rfl ?_
  show am_G sc (am_Cl am_T am_N sc 2) (am_at kX10_count) (fun t => t.2 = h1 ∧ am_ret 1 (am_at kX10_count) t.1 = some (some (.int r))) ((0, [some (.ref a0), some (.int a1)], []), h)
  refine am_G.fr 2 (g := (2, [some (.ref a0), some (.int a1)], [.int ((0 : Int32)), .ref a0])) rfl ?_
  obtain ⟨hh1, e2, H⟩ := am_bd H
  refine am_G.pF rfl e2 ?_
  refine am_G.fr 1 (g := (6, [some (.ref a0), some (.int a1)], [.int a1])) rfl ?_
  by_cases c3 : a1.toInt < 0 ∨ 12 < a1.toInt
  · rw [if_pos c3] at H
    refine am_G.swD (tgt := 147) rfl c3 rfl ?_
    refine am_G.fr 1 (g := (148, [some (.ref a0), some (.int a1)], [.int ((-1 : Int32))])) rfl ?_
    obtain ⟨rfl, rfl⟩ := am_inj2 H
    exact am_G.nd ⟨rfl, rfl⟩
  · rw [if_neg c3] at H
    obtain ⟨k4, e5, H⟩ := am_bd H
    by_cases c10 : k4 = 0
    · rw [if_pos c10] at H
      refine am_G.sw (tgt := 72) (k0 := 0) rfl c3 ((Option.some.inj e5).trans c10) rfl rfl ?_
      refine am_G.fr 1 (g := (73, [some (.ref a0), some (.int a1)], [.ref a0])) rfl ?_
      obtain ⟨vales6, e7, H⟩ := am_bd H
      refine am_G.gR rfl e7 ?_
      refine am_G.fr 1 (g := (77, [some (.ref a0), some (.int a1)], [.int a1, .ref vales6])) rfl ?_
      obtain ⟨x8, e9, H⟩ := am_bd H
      refine am_G.aI rfl e9 ?_
      obtain ⟨rfl, rfl⟩ := am_inj2 H
      exact am_G.nd ⟨rfl, rfl⟩
    · rw [if_neg c10] at H
      by_cases c15 : k4 = 1
      · rw [if_pos c15] at H
        refine am_G.sw (tgt := 72) (k0 := 1) rfl c3 ((Option.some.inj e5).trans c15) rfl rfl ?_
        refine am_G.fr 1 (g := (73, [some (.ref a0), some (.int a1)], [.ref a0])) rfl ?_
        obtain ⟨vales11, e12, H⟩ := am_bd H
        refine am_G.gR rfl e12 ?_
        refine am_G.fr 1 (g := (77, [some (.ref a0), some (.int a1)], [.int a1, .ref vales11])) rfl ?_
        obtain ⟨x13, e14, H⟩ := am_bd H
        refine am_G.aI rfl e14 ?_
        obtain ⟨rfl, rfl⟩ := am_inj2 H
        exact am_G.nd ⟨rfl, rfl⟩
      · rw [if_neg c15] at H
        by_cases c20 : k4 = 2
        · rw [if_pos c20] at H
          refine am_G.sw (tgt := 72) (k0 := 2) rfl c3 ((Option.some.inj e5).trans c20) rfl rfl ?_
          refine am_G.fr 1 (g := (73, [some (.ref a0), some (.int a1)], [.ref a0])) rfl ?_
          obtain ⟨vales16, e17, H⟩ := am_bd H
          refine am_G.gR rfl e17 ?_
          refine am_G.fr 1 (g := (77, [some (.ref a0), some (.int a1)], [.int a1, .ref vales16])) rfl ?_
          obtain ⟨x18, e19, H⟩ := am_bd H
          refine am_G.aI rfl e19 ?_
          obtain ⟨rfl, rfl⟩ := am_inj2 H
          exact am_G.nd ⟨rfl, rfl⟩
        · rw [if_neg c20] at H
          by_cases c27 : k4 = 3
          · rw [if_pos c27] at H
            refine am_G.sw (tgt := 79) (k0 := 3) rfl c3 ((Option.some.inj e5).trans c27) rfl rfl ?_
            refine am_G.fr 1 (g := (80, [some (.ref a0), some (.int a1)], [.ref a0])) rfl ?_
            obtain ⟨state21, e22, H⟩ := am_bd H
            refine am_G.gR rfl e22 ?_
            refine am_G.fr 1 (g := (84, [some (.ref a0), some (.int a1)], [.int ((0 : Int32)), .ref state21])) rfl ?_
            obtain ⟨x23, e24, H⟩ := am_bd H
            refine am_G.aI rfl e24 ?_
            refine am_G.fr 1 (g := (87, [some (.ref a0), some (.int a1)], [.int ((12 : Int32)), .int x23])) rfl ?_
            obtain ⟨q25, e26, H⟩ := am_bd H
            refine am_G.dv rfl e26 ?_
            obtain ⟨rfl, rfl⟩ := am_inj2 H
            exact am_G.nd ⟨rfl, rfl⟩
          · rw [if_neg c27] at H
            by_cases c34 : k4 = 4
            · rw [if_pos c34] at H
              refine am_G.sw (tgt := 89) (k0 := 4) rfl c3 ((Option.some.inj e5).trans c34) rfl rfl ?_
              refine am_G.fr 1 (g := (90, [some (.ref a0), some (.int a1)], [.ref a0])) rfl ?_
              obtain ⟨state28, e29, H⟩ := am_bd H
              refine am_G.gR rfl e29 ?_
              refine am_G.fr 1 (g := (94, [some (.ref a0), some (.int a1)], [.int ((0 : Int32)), .ref state28])) rfl ?_
              obtain ⟨x30, e31, H⟩ := am_bd H
              refine am_G.aI rfl e31 ?_
              refine am_G.fr 1 (g := (97, [some (.ref a0), some (.int a1)], [.int ((12 : Int32)), .int x30])) rfl ?_
              obtain ⟨q32, e33, H⟩ := am_bd H
              refine am_G.rm rfl e33 ?_
              obtain ⟨rfl, rfl⟩ := am_inj2 H
              exact am_G.nd ⟨rfl, rfl⟩
            · rw [if_neg c34] at H
              by_cases c37 : k4 = 5
              · rw [if_pos c37] at H
                refine am_G.sw (tgt := 99) (k0 := 5) rfl c3 ((Option.some.inj e5).trans c37) rfl rfl ?_
                refine am_G.fr 2 (g := (101, [some (.ref a0), some (.int a1)], [.int ((0 : Int32)), .ref a0])) rfl ?_
                obtain ⟨x36, e35, H⟩ := am_bd H
                refine am_G.cl [.ref a0, .int ((0 : Int32))] [] (am_Cl.mono (by decide) (lX10_somewhere e35)) rfl rfl rfl rfl (Nat.le_of_ble_eq_true rfl) ?_
                obtain ⟨rfl, rfl⟩ := am_inj2 H
                exact am_G.nd ⟨rfl, rfl⟩
              · rw [if_neg c37] at H
                by_cases c40 : k4 = 6
                · rw [if_pos c40] at H
                  refine am_G.sw (tgt := 105) (k0 := 6) rfl c3 ((Option.some.inj e5).trans c40) rfl rfl ?_
                  refine am_G.fr 1 (g := (106, [some (.ref a0), some (.int a1)], [.ref a0])) rfl ?_
                  obtain ⟨x39, e38, H⟩ := am_bd H
                  refine am_G.cl [.ref a0] [] (am_Cl.mono (by decide) (lX10_bedsOfAll e38)) rfl rfl rfl rfl (Nat.le_of_ble_eq_true rfl) ?_
                  obtain ⟨rfl, rfl⟩ := am_inj2 H
                  exact am_G.nd ⟨rfl, rfl⟩
                · rw [if_neg c40] at H
                  by_cases c45 : k4 = 7
                  · rw [if_pos c45] at H
                    refine am_G.sw (tgt := 110) (k0 := 7) rfl c3 ((Option.some.inj e5).trans c45) rfl rfl ?_
                    refine am_G.fr 1 (g := (111, [some (.ref a0), some (.int a1)], [.ref a0])) rfl ?_
                    obtain ⟨state41, e42, H⟩ := am_bd H
                    refine am_G.gR rfl e42 ?_
                    refine am_G.fr 1 (g := (115, [some (.ref a0), some (.int a1)], [.int ((1 : Int32)), .ref state41])) rfl ?_
                    obtain ⟨x43, e44, H⟩ := am_bd H
                    refine am_G.aI rfl e44 ?_
                    obtain ⟨rfl, rfl⟩ := am_inj2 H
                    exact am_G.nd ⟨rfl, rfl⟩
                  · rw [if_neg c45] at H
                    by_cases c48 : k4 = 8
                    · rw [if_pos c48] at H
                      refine am_G.sw (tgt := 117) (k0 := 8) rfl c3 ((Option.some.inj e5).trans c48) rfl rfl ?_
                      refine am_G.fr 1 (g := (118, [some (.ref a0), some (.int a1)], [.ref a0])) rfl ?_
                      obtain ⟨x47, e46, H⟩ := am_bd H
                      refine am_G.cl [.ref a0] [] (am_Cl.mono (by decide) (lX10_fadedNow e46)) rfl rfl rfl rfl (Nat.le_of_ble_eq_true rfl) ?_
                      obtain ⟨rfl, rfl⟩ := am_inj2 H
                      exact am_G.nd ⟨rfl, rfl⟩
                    · rw [if_neg c48] at H
                      by_cases c53 : k4 = 9
                      · rw [if_pos c53] at H
                        refine am_G.sw (tgt := 122) (k0 := 9) rfl c3 ((Option.some.inj e5).trans c53) rfl rfl ?_
                        refine am_G.fr 1 (g := (123, [some (.ref a0), some (.int a1)], [.ref a0])) rfl ?_
                        obtain ⟨lines49, e50, H⟩ := am_bd H
                        refine am_G.gR rfl e50 ?_
                        refine am_G.fr 1 (g := (127, [some (.ref a0), some (.int a1)], [.int ((0 : Int32)), .ref lines49])) rfl ?_
                        obtain ⟨x51, e52, H⟩ := am_bd H
                        refine am_G.aI rfl e52 ?_
                        obtain ⟨rfl, rfl⟩ := am_inj2 H
                        exact am_G.nd ⟨rfl, rfl⟩
                      · rw [if_neg c53] at H
                        by_cases c58 : k4 = 10
                        · rw [if_pos c58] at H
                          refine am_G.sw (tgt := 129) (k0 := 10) rfl c3 ((Option.some.inj e5).trans c58) rfl rfl ?_
                          refine am_G.fr 1 (g := (130, [some (.ref a0), some (.int a1)], [.ref a0])) rfl ?_
                          obtain ⟨state54, e55, H⟩ := am_bd H
                          refine am_G.gR rfl e55 ?_
                          refine am_G.fr 1 (g := (135, [some (.ref a0), some (.int a1)], [.int ((30 : Int32)), .ref state54])) rfl ?_
                          obtain ⟨x56, e57, H⟩ := am_bd H
                          refine am_G.aI rfl e57 ?_
                          obtain ⟨rfl, rfl⟩ := am_inj2 H
                          exact am_G.nd ⟨rfl, rfl⟩
                        · rw [if_neg c58] at H
                          by_cases c61 : k4 = 11
                          · rw [if_pos c61] at H
                            refine am_G.sw (tgt := 137) (k0 := 11) rfl c3 ((Option.some.inj e5).trans c61) rfl rfl ?_
                            refine am_G.fr 1 (g := (138, [some (.ref a0), some (.int a1)], [.ref a0])) rfl ?_
                            obtain ⟨undos59, e60, H⟩ := am_bd H
                            refine am_G.gI rfl e60 ?_
                            obtain ⟨rfl, rfl⟩ := am_inj2 H
                            exact am_G.nd ⟨rfl, rfl⟩
                          · rw [if_neg c61] at H
                            by_cases c64 : k4 = 12
                            · rw [if_pos c64] at H
                              refine am_G.sw (tgt := 142) (k0 := 12) rfl c3 ((Option.some.inj e5).trans c64) rfl rfl ?_
                              refine am_G.fr 1 (g := (143, [some (.ref a0), some (.int a1)], [.ref a0])) rfl ?_
                              obtain ⟨taped62, e63, H⟩ := am_bd H
                              refine am_G.gI rfl e63 ?_
                              obtain ⟨rfl, rfl⟩ := am_inj2 H
                              exact am_G.nd ⟨rfl, rfl⟩
                            · rw [if_neg c64] at H
                              cases H
