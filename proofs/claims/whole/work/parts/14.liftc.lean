/-! lifted methods -/
def fJ7_fill_53178_L5 : Nat → Nat → Int32 → Int32 → Int32 → am_H → Option (am_H)
  | 0, _, _, _, _, _ => none
  | n + 1, v0, v1, v2, v3, h =>
    if v3 ≤ v2 then
      some h
    else
      (am_sI h 0 v0 v2 v1).bind fun hh4 =>
      fJ7_fill_53178_L5 n v0 v1 (v2 + (1 : Int32)) v3 hh4
def fJ7_fill_53178 (a0 : Nat) (a1 : Int32) (h : am_H) : Option (am_H) :=
  (am_len h a0).bind fun n1 =>
  Option.bind (fJ7_fill_53178_L5 4000 a0 a1 ((0 : Int32)) n1 h) fun hh6 =>
  some hh6
set_option maxHeartbeats 4000000 in
set_option maxRecDepth 100000 in
theorem lJ7_fill_53178_L5 {sc : Nat × (Nat → Int32)} : ∀ (n : Nat) (v0 : Nat) (v1 : Int32) (v2 : Int32) (v3 : Int32) (h : am_H) (h1 : am_H), fJ7_fill_53178_L5 n v0 v1 v2 v3 h = some h1 → am_G sc (am_Cl am_T am_N sc 0) (am_at kJ7_fill_53178) (fun t => t = ((20, [none, none, none, none], []), h1)) ((5, [some (.ref v0), some (.int v1), some (.int v2), some (.int v3)], []), h) := by
  intro n
  induction n with
  | zero => intro _ _ _ _ _ _ H; cases H
  | succ n ih =>
    intro v0 v1 v2 v3 h h1 H
    rw [fJ7_fill_53178_L5] at H
    refine am_G.fr 2 (g := (7, [some (.ref v0), some (.int v1), some (.int v2), some (.int v3)], [.int v3, .int v2])) rfl ?_
    by_cases c3 : v3 ≤ v2
    · rw [if_pos c3] at H
      refine am_G.br (tgt := 20) rfl rfl (if_pos c3) rfl ?_
      obtain rfl := Option.some.inj H
      refine am_G.fg [none, none, none, none] (by simp only [am_sub, and_self]) ?_
      exact am_G.nd rfl
    · rw [if_neg c3] at H
      refine am_G.br (tgt := 10) rfl rfl (if_neg c3) rfl ?_
      refine am_G.fr 3 (g := (13, [some (.ref v0), some (.int v1), some (.int v2), some (.int v3)], [.int v1, .int v2, .ref v0])) rfl ?_
      obtain ⟨hh4, e5, H⟩ := am_bd H
      refine am_G.sI rfl e5 ?_
      refine am_G.fr 2 (g := (5, [some (.ref v0), some (.int v1), some (.int (v2 + (1 : Int32))), some (.int v3)], [])) rfl ?_
      exact ih _ _ _ _ _ _ H
set_option maxHeartbeats 4000000 in
set_option maxRecDepth 100000 in
theorem lJ7_fill_53178 {sc : Nat × (Nat → Int32)} {a0 : Nat} {a1 : Int32} {h : am_H} {h1 : am_H} (H : fJ7_fill_53178 a0 a1 h = some h1) : am_Cl am_T am_N sc 1 245 [.ref a0, .int a1] h none h1 := by
  unfold fJ7_fill_53178 at H
  refine am_mk (q := qJ7_fill_53178) rfl (fun z => absurd z (by decide)) (fun z => absurd z (by decide)) (Nat.le_of_ble_eq_true rfl) rfl ?_
  show am_G sc (am_Cl am_T am_N sc 0) (am_at kJ7_fill_53178) (fun t => t.2 = h1 ∧ am_ret 0 (am_at kJ7_fill_53178) t.1 = some none) ((0, [some (.ref a0), some (.int a1), none, none], []), h)
  refine am_G.fr 3 (g := (3, [some (.ref a0), some (.int a1), some (.int ((0 : Int32))), none], [.ref a0])) rfl ?_
  obtain ⟨n1, e2, H⟩ := am_bd H
  refine am_G.ln rfl e2 ?_
  refine am_G.fr 1 (g := (5, [some (.ref a0), some (.int a1), some (.int ((0 : Int32))), some (.int n1)], [])) rfl ?_
  obtain ⟨hh6, E7, H⟩ := am_bd H
  refine am_G.sq (lJ7_fill_53178_L5 _ _ _ _ _ _ _ E7) ?_
  clear E7
  obtain rfl := Option.some.inj H
  exact am_G.nd ⟨rfl, rfl⟩
def fX6_init (a0 : Nat) (h : am_H) : Option (am_H) :=
  am_b2 (am_nA h 0 ((4 : Int32))) fun a1 hh2 =>
  (am_pF hh2 a0 5 0 (.ref a1)).bind fun hh4 =>
  am_b2 (am_nA hh4 0 ((6 : Int32))) fun a6 hh7 =>
  (am_pF hh7 a0 5 1 (.ref a6)).bind fun hh9 =>
  am_b2 (am_nA hh9 0 ((6 : Int32))) fun a11 hh12 =>
  (am_pF hh12 a0 5 2 (.ref a11)).bind fun hh14 =>
  am_b2 (am_nA hh14 0 ((6 : Int32))) fun a16 hh17 =>
  (am_pF hh17 a0 5 3 (.ref a16)).bind fun hh19 =>
  am_b2 (am_nA hh19 0 ((6 : Int32))) fun a21 hh22 =>
  (am_pF hh22 a0 5 4 (.ref a21)).bind fun hh24 =>
  am_b2 (am_nA hh24 0 ((6 : Int32))) fun a26 hh27 =>
  (am_pF hh27 a0 5 5 (.ref a26)).bind fun hh29 =>
  (am_gR hh29 a0 5 3).bind fun at31 =>
  (fJ7_fill_53178 at31 ((-1 : Int32)) hh29).bind fun hh34 =>
  some hh34
set_option maxHeartbeats 4000000 in
set_option maxRecDepth 100000 in
theorem lX6_init {sc : Nat × (Nat → Int32)} {a0 : Nat} {h : am_H} {h1 : am_H} (H : fX6_init a0 h = some h1) : am_Cl am_T am_N sc 2 35 [.ref a0] h none h1 := by
  unfold fX6_init at H
  refine am_mk (q := qX6_init) rfl (fun z => absurd z (by decide)) (fun _ => ⟨_, _, rfl⟩) (Nat.le_of_ble_eq_true rfl) rfl ?_
  show am_G sc (am_Cl am_T am_N sc 1) (am_at kX6_init) (fun t => t.2 = h1 ∧ am_ret 0 (am_at kX6_init) t.1 = some none) ((0, [some (.ref a0)], []), h)
  refine am_G.fr 1 (g := (1, [some (.ref a0)], [.ref a0])) rfl ?_
  refine am_G.oi rfl (Nat.le_of_ble_eq_true rfl) ?_
  refine am_G.fr 2 (g := (6, [some (.ref a0)], [.int ((4 : Int32)), .ref a0])) rfl ?_
  obtain ⟨a1, hh2, e3, H⟩ := am_bd2 H
  refine am_G.nA rfl e3 ?_
  obtain ⟨hh4, e5, H⟩ := am_bd H
  refine am_G.pF rfl e5 ?_
  refine am_G.fr 2 (g := (14, [some (.ref a0)], [.int ((6 : Int32)), .ref a0])) rfl ?_
  obtain ⟨a6, hh7, e8, H⟩ := am_bd2 H
  refine am_G.nA rfl e8 ?_
  obtain ⟨hh9, e10, H⟩ := am_bd H
  refine am_G.pF rfl e10 ?_
  refine am_G.fr 2 (g := (22, [some (.ref a0)], [.int ((6 : Int32)), .ref a0])) rfl ?_
  obtain ⟨a11, hh12, e13, H⟩ := am_bd2 H
  refine am_G.nA rfl e13 ?_
  obtain ⟨hh14, e15, H⟩ := am_bd H
  refine am_G.pF rfl e15 ?_
  refine am_G.fr 2 (g := (30, [some (.ref a0)], [.int ((6 : Int32)), .ref a0])) rfl ?_
  obtain ⟨a16, hh17, e18, H⟩ := am_bd2 H
  refine am_G.nA rfl e18 ?_
  obtain ⟨hh19, e20, H⟩ := am_bd H
  refine am_G.pF rfl e20 ?_
  refine am_G.fr 2 (g := (38, [some (.ref a0)], [.int ((6 : Int32)), .ref a0])) rfl ?_
  obtain ⟨a21, hh22, e23, H⟩ := am_bd2 H
  refine am_G.nA rfl e23 ?_
  obtain ⟨hh24, e25, H⟩ := am_bd H
  refine am_G.pF rfl e25 ?_
  refine am_G.fr 2 (g := (46, [some (.ref a0)], [.int ((6 : Int32)), .ref a0])) rfl ?_
  obtain ⟨a26, hh27, e28, H⟩ := am_bd2 H
  refine am_G.nA rfl e28 ?_
  obtain ⟨hh29, e30, H⟩ := am_bd H
  refine am_G.pF rfl e30 ?_
  refine am_G.fr 1 (g := (52, [some (.ref a0)], [.ref a0])) rfl ?_
  obtain ⟨at31, e32, H⟩ := am_bd H
  refine am_G.gR rfl e32 ?_
  refine am_G.fr 1 (g := (56, [some (.ref a0)], [.int ((-1 : Int32)), .ref at31])) rfl ?_
  obtain ⟨hh34, e33, H⟩ := am_bd H
  refine am_G.cl [.ref at31, .int ((-1 : Int32))] [] (am_Cl.mono (by decide) (lJ7_fill_53178 e33)) rfl rfl rfl rfl (Nat.le_of_ble_eq_true rfl) ?_
  obtain rfl := Option.some.inj H
  exact am_G.nd ⟨rfl, rfl⟩
def fX0_init_L15 : Nat → Nat → Int32 → am_H → Option (am_H)
  | 0, _, _, _ => none
  | n + 1, v0, v1, h =>
    if ((16 : Int32)) ≤ v1 then
      some h
    else
      (am_gR h v0 0 0).bind fun stands7 =>
      am_b2 (am_nO h 5) fun a9 hh10 =>
      (fX6_init a9 hh10).bind fun hh13 =>
      (am_sR hh13 stands7 v1 a9).bind fun hh14 =>
      fX0_init_L15 n v0 (v1 + (1 : Int32)) hh14
def fX0_init (a0 : Nat) (h : am_H) : Option (am_H) :=
  am_b2 (am_nR h 4 ((16 : Int32))) fun a1 hh2 =>
  (am_pF hh2 a0 0 0 (.ref a1)).bind fun hh4 =>
  Option.bind (fX0_init_L15 4000 a0 ((0 : Int32)) hh4) fun hh16 =>
  some hh16
set_option maxHeartbeats 4000000 in
set_option maxRecDepth 100000 in
theorem lX0_init_L15 {sc : Nat × (Nat → Int32)} : ∀ (n : Nat) (v0 : Nat) (v1 : Int32) (h : am_H) (h1 : am_H), fX0_init_L15 n v0 v1 h = some h1 → am_G sc (am_Cl am_T am_N sc 2) (am_at kX0_init) (fun t => t = ((40, [none, none], []), h1)) ((15, [some (.ref v0), some (.int v1)], []), h) := by
  intro n
  induction n with
  | zero => intro _ _ _ _ H; cases H
  | succ n ih =>
    intro v0 v1 h h1 H
    rw [fX0_init_L15] at H
    refine am_G.fr 2 (g := (18, [some (.ref v0), some (.int v1)], [.int ((16 : Int32)), .int v1])) rfl ?_
    by_cases c6 : ((16 : Int32)) ≤ v1
    · rw [if_pos c6] at H
      refine am_G.br (tgt := 40) rfl rfl (if_pos c6) rfl ?_
      obtain rfl := Option.some.inj H
      refine am_G.fg [none, none] (by simp only [am_sub, and_self]) ?_
      exact am_G.nd rfl
    · rw [if_neg c6] at H
      refine am_G.br (tgt := 21) rfl rfl (if_neg c6) rfl ?_
      refine am_G.fr 1 (g := (22, [some (.ref v0), some (.int v1)], [.ref v0])) rfl ?_
      obtain ⟨stands7, e8, H⟩ := am_bd H
      refine am_G.gR rfl e8 ?_
      refine am_G.fr 1 (g := (26, [some (.ref v0), some (.int v1)], [.int v1, .ref stands7])) rfl ?_
      obtain ⟨a9, hh10, e11, H⟩ := am_bd2 H
      refine am_G.nO rfl e11 ?_
      refine am_G.fr 1 (g := (30, [some (.ref v0), some (.int v1)], [.ref a9, .ref a9, .int v1, .ref stands7])) rfl ?_
      obtain ⟨hh13, e12, H⟩ := am_bd H
      refine am_G.cl [.ref a9] [.ref a9, .int v1, .ref stands7] (am_Cl.mono (by decide) (lX6_init e12)) rfl rfl rfl rfl (Nat.le_of_ble_eq_true rfl) ?_
      obtain ⟨hh14, e15, H⟩ := am_bd H
      refine am_G.sR rfl e15 ?_
      refine am_G.fr 2 (g := (15, [some (.ref v0), some (.int (v1 + (1 : Int32)))], [])) rfl ?_
      exact ih _ _ _ _ H
set_option maxHeartbeats 4000000 in
set_option maxRecDepth 100000 in
theorem lX0_init {sc : Nat × (Nat → Int32)} {a0 : Nat} {h : am_H} {h1 : am_H} (H : fX0_init a0 h = some h1) : am_Cl am_T am_N sc 3 0 [.ref a0] h none h1 := by
  unfold fX0_init at H
  refine am_mk (q := qX0_init) rfl (fun z => absurd z (by decide)) (fun _ => ⟨_, _, rfl⟩) (Nat.le_of_ble_eq_true rfl) rfl ?_
  show am_G sc (am_Cl am_T am_N sc 2) (am_at kX0_init) (fun t => t.2 = h1 ∧ am_ret 0 (am_at kX0_init) t.1 = some none) ((0, [some (.ref a0), none], []), h)
  refine am_G.fr 1 (g := (1, [some (.ref a0), none], [.ref a0])) rfl ?_
  refine am_G.oi rfl (Nat.le_of_ble_eq_true rfl) ?_
  refine am_G.fr 2 (g := (7, [some (.ref a0), none], [.int ((16 : Int32)), .ref a0])) rfl ?_
  obtain ⟨a1, hh2, e3, H⟩ := am_bd2 H
  refine am_G.nR rfl e3 ?_
  obtain ⟨hh4, e5, H⟩ := am_bd H
  refine am_G.pF rfl e5 ?_
  refine am_G.fr 2 (g := (15, [some (.ref a0), some (.int ((0 : Int32)))], [])) rfl ?_
  obtain ⟨hh16, E17, H⟩ := am_bd H
  refine am_G.sq (lX0_init_L15 _ _ _ _ _ E17) ?_
  clear E17
  obtain rfl := Option.some.inj H
  exact am_G.nd ⟨rfl, rfl⟩
def fJ9_min_7cf53 (a0 : Int32) (a1 : Int32) (h : am_H) : Option (Int32) :=
  Option.bind (
    if a1 < a0 then
      some a1
    else
      some a0) fun js1 =>
  some js1
set_option maxHeartbeats 4000000 in
set_option maxRecDepth 100000 in
theorem lJ9_min_7cf53 {sc : Nat × (Nat → Int32)} {a0 : Int32} {a1 : Int32} {h : am_H} {r : Int32} (H : fJ9_min_7cf53 a0 a1 h = some r) : am_Cl am_T am_N sc 1 244 [.int a0, .int a1] h (some (.int r)) h := by
  unfold fJ9_min_7cf53 at H
  refine am_mk (q := qJ9_min_7cf53) rfl (fun z => absurd z (by decide)) (fun z => absurd z (by decide)) (Nat.le_of_ble_eq_true rfl) rfl ?_
  show am_G sc (am_Cl am_T am_N sc 0) (am_at kJ9_min_7cf53) (fun t => t.2 = h ∧ am_ret 1 (am_at kJ9_min_7cf53) t.1 = some (some (.int r))) ((0, [some (.int a0), some (.int a1)], []), h)
  refine am_G.fr 2 (g := (2, [some (.int a0), some (.int a1)], [.int a1, .int a0])) rfl ?_
  obtain ⟨js1, E3, H⟩ := am_bd H
  refine am_G.sq (t := ((10, [none, none], [.int js1]), h)) ?_ ?_
  · clear H
    have H := E3
    clear E3
    by_cases c2 : a1 < a0
    · rw [if_pos c2] at H
      refine am_G.br (tgt := 9) rfl rfl (if_pos c2) rfl ?_
      refine am_G.fr 1 (g := (10, [some (.int a0), some (.int a1)], [.int a1])) rfl ?_
      obtain rfl := Option.some.inj H
      refine am_G.fg [none, none] (by simp only [am_sub, and_self]) ?_
      exact am_G.nd rfl
    · rw [if_neg c2] at H
      refine am_G.br (tgt := 5) rfl rfl (if_neg c2) rfl ?_
      refine am_G.fr 2 (g := (10, [some (.int a0), some (.int a1)], [.int a0])) rfl ?_
      obtain rfl := Option.some.inj H
      refine am_G.fg [none, none] (by simp only [am_sub, and_self]) ?_
      exact am_G.nd rfl
  · clear E3
    obtain rfl := Option.some.inj H
    exact am_G.nd ⟨rfl, rfl⟩
def fX6_copyFrom (a0 : Nat) (a1 : Nat) (h : am_H) : Option (am_H) :=
  (am_isO h a0 5).bind fun _ =>
  (am_gR h a1 5 0).bind fun beds1 =>
  (am_gR h a0 5 0).bind fun beds3 =>
  (am_cp h beds1 ((0 : Int32)) beds3 ((0 : Int32)) ((4 : Int32))).bind fun hh5 =>
  (am_gR hh5 a1 5 1).bind fun on7 =>
  (am_gR hh5 a0 5 1).bind fun on9 =>
  (am_cp hh5 on7 ((0 : Int32)) on9 ((0 : Int32)) ((6 : Int32))).bind fun hh11 =>
  (am_gR hh11 a1 5 2).bind fun says13 =>
  (am_gR hh11 a0 5 2).bind fun says15 =>
  (am_cp hh11 says13 ((0 : Int32)) says15 ((0 : Int32)) ((6 : Int32))).bind fun hh17 =>
  (am_gR hh17 a1 5 3).bind fun at19 =>
  (am_gR hh17 a0 5 3).bind fun at21 =>
  (am_cp hh17 at19 ((0 : Int32)) at21 ((0 : Int32)) ((6 : Int32))).bind fun hh23 =>
  (am_gR hh23 a1 5 4).bind fun been25 =>
  (am_gR hh23 a0 5 4).bind fun been27 =>
  (am_cp hh23 been25 ((0 : Int32)) been27 ((0 : Int32)) ((6 : Int32))).bind fun hh29 =>
  (am_gR hh29 a1 5 5).bind fun times31 =>
  (am_gR hh29 a0 5 5).bind fun times33 =>
  (am_cp hh29 times31 ((0 : Int32)) times33 ((0 : Int32)) ((6 : Int32))).bind fun hh35 =>
  (am_gI hh35 a1 5 6).bind fun date37 =>
  (am_pF hh35 a0 5 6 (.int date37)).bind fun hh39 =>
  (am_gI hh39 a1 5 7).bind fun year41 =>
  (am_pF hh39 a0 5 7 (.int year41)).bind fun hh43 =>
  (am_gI hh43 a1 5 8).bind fun turnedOff45 =>
  (am_pF hh43 a0 5 8 (.int turnedOff45)).bind fun hh47 =>
  some hh47
set_option maxHeartbeats 4000000 in
set_option maxRecDepth 100000 in
theorem lX6_copyFrom {sc : Nat × (Nat → Int32)} {a0 : Nat} {a1 : Nat} {h : am_H} {h1 : am_H} (H : fX6_copyFrom a0 a1 h = some h1) : am_Cl am_T am_N sc 1 37 [.ref a0, .ref a1] h none h1 := by
  unfold fX6_copyFrom at H
  obtain ⟨_, hO, H⟩ := am_bd H
  obtain ⟨fs0, hO⟩ := am_isO_ok hO
  refine am_mk (q := qX6_copyFrom) rfl (fun _ => ⟨_, _, _, _, _, rfl, hO, rfl, rfl⟩) (fun z => absurd z (by decide)) (Nat.le_of_ble_eq_true rfl) rfl ?_
  show am_G sc (am_Cl am_T am_N sc 0) (am_at kX6_copyFrom) (fun t => t.2 = h1 ∧ am_ret 0 (am_at kX6_copyFrom) t.1 = some none) ((0, [some (.ref a0), some (.ref a1)], []), h)
  refine am_G.fr 1 (g := (1, [some (.ref a0), some (.ref a1)], [.ref a1])) rfl ?_
  obtain ⟨beds1, e2, H⟩ := am_bd H
  refine am_G.gR rfl e2 ?_
  refine am_G.fr 2 (g := (6, [some (.ref a0), some (.ref a1)], [.ref a0, .int ((0 : Int32)), .ref beds1])) rfl ?_
  obtain ⟨beds3, e4, H⟩ := am_bd H
  refine am_G.gR rfl e4 ?_
  refine am_G.fr 2 (g := (11, [some (.ref a0), some (.ref a1)], [.int ((4 : Int32)), .int ((0 : Int32)), .ref beds3, .int ((0 : Int32)), .ref beds1])) rfl ?_
  obtain ⟨hh5, e6, H⟩ := am_bd H
  refine am_G.cp rfl (Nat.le_of_ble_eq_true rfl) e6 ?_
  refine am_G.fr 1 (g := (15, [some (.ref a0), some (.ref a1)], [.ref a1])) rfl ?_
  obtain ⟨on7, e8, H⟩ := am_bd H
  refine am_G.gR rfl e8 ?_
  refine am_G.fr 2 (g := (20, [some (.ref a0), some (.ref a1)], [.ref a0, .int ((0 : Int32)), .ref on7])) rfl ?_
  obtain ⟨on9, e10, H⟩ := am_bd H
  refine am_G.gR rfl e10 ?_
  refine am_G.fr 2 (g := (26, [some (.ref a0), some (.ref a1)], [.int ((6 : Int32)), .int ((0 : Int32)), .ref on9, .int ((0 : Int32)), .ref on7])) rfl ?_
  obtain ⟨hh11, e12, H⟩ := am_bd H
  refine am_G.cp rfl (Nat.le_of_ble_eq_true rfl) e12 ?_
  refine am_G.fr 1 (g := (30, [some (.ref a0), some (.ref a1)], [.ref a1])) rfl ?_
  obtain ⟨says13, e14, H⟩ := am_bd H
  refine am_G.gR rfl e14 ?_
  refine am_G.fr 2 (g := (35, [some (.ref a0), some (.ref a1)], [.ref a0, .int ((0 : Int32)), .ref says13])) rfl ?_
  obtain ⟨says15, e16, H⟩ := am_bd H
  refine am_G.gR rfl e16 ?_
  refine am_G.fr 2 (g := (41, [some (.ref a0), some (.ref a1)], [.int ((6 : Int32)), .int ((0 : Int32)), .ref says15, .int ((0 : Int32)), .ref says13])) rfl ?_
  obtain ⟨hh17, e18, H⟩ := am_bd H
  refine am_G.cp rfl (Nat.le_of_ble_eq_true rfl) e18 ?_
  refine am_G.fr 1 (g := (45, [some (.ref a0), some (.ref a1)], [.ref a1])) rfl ?_
  obtain ⟨at19, e20, H⟩ := am_bd H
  refine am_G.gR rfl e20 ?_
  refine am_G.fr 2 (g := (50, [some (.ref a0), some (.ref a1)], [.ref a0, .int ((0 : Int32)), .ref at19])) rfl ?_
  obtain ⟨at21, e22, H⟩ := am_bd H
  refine am_G.gR rfl e22 ?_
  refine am_G.fr 2 (g := (56, [some (.ref a0), some (.ref a1)], [.int ((6 : Int32)), .int ((0 : Int32)), .ref at21, .int ((0 : Int32)), .ref at19])) rfl ?_
  obtain ⟨hh23, e24, H⟩ := am_bd H
  refine am_G.cp rfl (Nat.le_of_ble_eq_true rfl) e24 ?_
  refine am_G.fr 1 (g := (60, [some (.ref a0), some (.ref a1)], [.ref a1])) rfl ?_
  obtain ⟨been25, e26, H⟩ := am_bd H
  refine am_G.gR rfl e26 ?_
  refine am_G.fr 2 (g := (65, [some (.ref a0), some (.ref a1)], [.ref a0, .int ((0 : Int32)), .ref been25])) rfl ?_
  obtain ⟨been27, e28, H⟩ := am_bd H
  refine am_G.gR rfl e28 ?_
  refine am_G.fr 2 (g := (71, [some (.ref a0), some (.ref a1)], [.int ((6 : Int32)), .int ((0 : Int32)), .ref been27, .int ((0 : Int32)), .ref been25])) rfl ?_
  obtain ⟨hh29, e30, H⟩ := am_bd H
  refine am_G.cp rfl (Nat.le_of_ble_eq_true rfl) e30 ?_
  refine am_G.fr 1 (g := (75, [some (.ref a0), some (.ref a1)], [.ref a1])) rfl ?_
  obtain ⟨times31, e32, H⟩ := am_bd H
  refine am_G.gR rfl e32 ?_
  refine am_G.fr 2 (g := (80, [some (.ref a0), some (.ref a1)], [.ref a0, .int ((0 : Int32)), .ref times31])) rfl ?_
  obtain ⟨times33, e34, H⟩ := am_bd H
  refine am_G.gR rfl e34 ?_
  refine am_G.fr 2 (g := (86, [some (.ref a0), some (.ref a1)], [.int ((6 : Int32)), .int ((0 : Int32)), .ref times33, .int ((0 : Int32)), .ref times31])) rfl ?_
  obtain ⟨hh35, e36, H⟩ := am_bd H
  refine am_G.cp rfl (Nat.le_of_ble_eq_true rfl) e36 ?_
  refine am_G.fr 2 (g := (91, [some (.ref a0), some (.ref a1)], [.ref a1, .ref a0])) rfl ?_
  obtain ⟨date37, e38, H⟩ := am_bd H
  refine am_G.gI rfl e38 ?_
  obtain ⟨hh39, e40, H⟩ := am_bd H
  refine am_G.pF rfl e40 ?_
  refine am_G.fr 2 (g := (99, [some (.ref a0), some (.ref a1)], [.ref a1, .ref a0])) rfl ?_
  obtain ⟨year41, e42, H⟩ := am_bd H
  refine am_G.gI rfl e42 ?_
  obtain ⟨hh43, e44, H⟩ := am_bd H
  refine am_G.pF rfl e44 ?_
  refine am_G.fr 2 (g := (107, [some (.ref a0), some (.ref a1)], [.ref a1, .ref a0])) rfl ?_
  obtain ⟨turnedOff45, e46, H⟩ := am_bd H
  refine am_G.gI rfl e46 ?_
  obtain ⟨hh47, e48, H⟩ := am_bd H
  refine am_G.pF rfl e48 ?_
  obtain rfl := Option.some.inj H
  exact am_G.nd ⟨rfl, rfl⟩
def fX0_keep (a0 : Nat) (a1 : Nat) (h : am_H) : Option (am_H) :=
  (am_isO h a0 0).bind fun _ =>
  (am_gI h a0 0 1).bind fun newest1 =>
  (am_rm' (newest1 + ((1 : Int32))) ((16 : Int32))).bind fun q3 =>
  (am_pF h a0 0 1 (.int q3)).bind fun hh5 =>
  (am_gR hh5 a0 0 0).bind fun stands7 =>
  (am_gI hh5 a0 0 1).bind fun newest9 =>
  (am_aR hh5 stands7 newest9).bind fun r11 =>
  (fX6_copyFrom r11 a1 hh5).bind fun hh14 =>
  (am_gI hh14 a0 0 2).bind fun size15 =>
  (fJ9_min_7cf53 (size15 + ((1 : Int32))) ((16 : Int32)) hh14).bind fun x18 =>
  (am_pF hh14 a0 0 2 (.int x18)).bind fun hh19 =>
  some hh19
set_option maxHeartbeats 4000000 in
set_option maxRecDepth 100000 in
theorem lX0_keep {sc : Nat × (Nat → Int32)} {a0 : Nat} {a1 : Nat} {h : am_H} {h1 : am_H} (H : fX0_keep a0 a1 h = some h1) : am_Cl am_T am_N sc 2 1 [.ref a0, .ref a1] h none h1 := by
  unfold fX0_keep at H
  obtain ⟨_, hO, H⟩ := am_bd H
  obtain ⟨fs0, hO⟩ := am_isO_ok hO
  refine am_mk (q := qX0_keep) rfl (fun _ => ⟨_, _, _, _, _, rfl, hO, rfl, rfl⟩) (fun z => absurd z (by decide)) (Nat.le_of_ble_eq_true rfl) rfl ?_
  show am_G sc (am_Cl am_T am_N sc 1) (am_at kX0_keep) (fun t => t.2 = h1 ∧ am_ret 0 (am_at kX0_keep) t.1 = some none) ((0, [some (.ref a0), some (.ref a1)], []), h)
  refine am_G.fr 2 (g := (2, [some (.ref a0), some (.ref a1)], [.ref a0, .ref a0])) rfl ?_
  obtain ⟨newest1, e2, H⟩ := am_bd H
  refine am_G.gI rfl e2 ?_
  refine am_G.fr 3 (g := (9, [some (.ref a0), some (.ref a1)], [.int ((16 : Int32)), .int (newest1 + ((1 : Int32))), .ref a0])) rfl ?_
  obtain ⟨q3, e4, H⟩ := am_bd H
  refine am_G.rm rfl e4 ?_
  obtain ⟨hh5, e6, H⟩ := am_bd H
  refine am_G.pF rfl e6 ?_
  refine am_G.fr 1 (g := (14, [some (.ref a0), some (.ref a1)], [.ref a0])) rfl ?_
  obtain ⟨stands7, e8, H⟩ := am_bd H
  refine am_G.gR rfl e8 ?_
  refine am_G.fr 1 (g := (18, [some (.ref a0), some (.ref a1)], [.ref a0, .ref stands7])) rfl ?_
  obtain ⟨newest9, e10, H⟩ := am_bd H
  refine am_G.gI rfl e10 ?_
  obtain ⟨r11, e12, H⟩ := am_bd H
  refine am_G.aR rfl e12 ?_
  refine am_G.fr 1 (g := (23, [some (.ref a0), some (.ref a1)], [.ref a1, .ref r11])) rfl ?_
  obtain ⟨hh14, e13, H⟩ := am_bd H
  refine am_G.cl [.ref r11, .ref a1] [] (am_Cl.mono (by decide) (lX6_copyFrom e13)) rfl rfl rfl rfl (Nat.le_of_ble_eq_true rfl) ?_
  refine am_G.fr 2 (g := (28, [some (.ref a0), some (.ref a1)], [.ref a0, .ref a0])) rfl ?_
  obtain ⟨size15, e16, H⟩ := am_bd H
  refine am_G.gI rfl e16 ?_
  refine am_G.fr 3 (g := (35, [some (.ref a0), some (.ref a1)], [.int ((16 : Int32)), .int (size15 + ((1 : Int32))), .ref a0])) rfl ?_
  obtain ⟨x18, e17, H⟩ := am_bd H
  refine am_G.cl [.int (size15 + ((1 : Int32))), .int ((16 : Int32))] [.ref a0] (am_Cl.mono (by decide) (lJ9_min_7cf53 e17)) rfl rfl rfl rfl (Nat.le_of_ble_eq_true rfl) ?_
  obtain ⟨hh19, e20, H⟩ := am_bd H
  refine am_G.pF rfl e20 ?_
  obtain rfl := Option.some.inj H
  exact am_G.nd ⟨rfl, rfl⟩
def fX0_bringBack (a0 : Nat) (a1 : Nat) (h : am_H) : Option (Int32 × am_H) :=
  (am_isO h a0 0).bind fun _ =>
  (am_gI h a0 0 2).bind fun size1 =>
  if ¬ size1 = 0 then
    (am_gR h a0 0 0).bind fun stands4 =>
    (am_gI h a0 0 1).bind fun newest6 =>
    (am_aR h stands4 newest6).bind fun r8 =>
    (fX6_copyFrom a1 r8 h).bind fun hh11 =>
    (am_gI hh11 a0 0 1).bind fun newest12 =>
    (am_rm' ((newest12 + ((16 : Int32))) - ((1 : Int32))) ((16 : Int32))).bind fun q14 =>
    (am_pF hh11 a0 0 1 (.int q14)).bind fun hh16 =>
    (am_gI hh16 a0 0 2).bind fun size18 =>
    (am_pF hh16 a0 0 2 (.int (size18 - ((1 : Int32))))).bind fun hh20 =>
    some ((1 : Int32), hh20)
  else
    some ((0 : Int32), h)
set_option maxHeartbeats 4000000 in
set_option maxRecDepth 100000 in
theorem lX0_bringBack {sc : Nat × (Nat → Int32)} {a0 : Nat} {a1 : Nat} {h : am_H} {r : Int32} {h1 : am_H} (H : fX0_bringBack a0 a1 h = some (r, h1)) : am_Cl am_T am_N sc 2 2 [.ref a0, .ref a1] h (some (.int r)) h1 := by
  unfold fX0_bringBack at H
  obtain ⟨_, hO, H⟩ := am_bd H
  obtain ⟨fs0, hO⟩ := am_isO_ok hO
  refine am_mk (q := qX0_bringBack) rfl (fun _ => ⟨_, _, _, _, _, rfl, hO, rfl, rfl⟩) (fun z => absurd z (by decide)) (Nat.le_of_ble_eq_true rfl) rfl ?_
  show am_G sc (am_Cl am_T am_N sc 1) (am_at kX0_bringBack) (fun t => t.2 = h1 ∧ am_ret 2 (am_at kX0_bringBack) t.1 = some (some (.int r))) ((0, [some (.ref a0), some (.ref a1)], []), h)
  refine am_G.fr 1 (g := (1, [some (.ref a0), some (.ref a1)], [.ref a0])) rfl ?_
  obtain ⟨size1, e2, H⟩ := am_bd H
  refine am_G.gI rfl e2 ?_
  by_cases c3 : ¬ size1 = 0
  · rw [if_pos c3] at H
    refine am_G.br (tgt := 9) rfl rfl (if_pos c3) rfl ?_
    refine am_G.fr 2 (g := (11, [some (.ref a0), some (.ref a1)], [.ref a0, .ref a1])) rfl ?_
    obtain ⟨stands4, e5, H⟩ := am_bd H
    refine am_G.gR rfl e5 ?_
    refine am_G.fr 1 (g := (15, [some (.ref a0), some (.ref a1)], [.ref a0, .ref stands4, .ref a1])) rfl ?_
    obtain ⟨newest6, e7, H⟩ := am_bd H
    refine am_G.gI rfl e7 ?_
    obtain ⟨r8, e9, H⟩ := am_bd H
    refine am_G.aR rfl e9 ?_
    obtain ⟨hh11, e10, H⟩ := am_bd H
    refine am_G.cl [.ref a1, .ref r8] [] (am_Cl.mono (by decide) (lX6_copyFrom e10)) rfl rfl rfl rfl (Nat.le_of_ble_eq_true rfl) ?_
    refine am_G.fr 2 (g := (24, [some (.ref a0), some (.ref a1)], [.ref a0, .ref a0])) rfl ?_
    obtain ⟨newest12, e13, H⟩ := am_bd H
    refine am_G.gI rfl e13 ?_
    refine am_G.fr 5 (g := (34, [some (.ref a0), some (.ref a1)], [.int ((16 : Int32)), .int ((newest12 + ((16 : Int32))) - ((1 : Int32))), .ref a0])) rfl ?_
    obtain ⟨q14, e15, H⟩ := am_bd H
    refine am_G.rm rfl e15 ?_
    obtain ⟨hh16, e17, H⟩ := am_bd H
    refine am_G.pF rfl e17 ?_
    refine am_G.fr 2 (g := (40, [some (.ref a0), some (.ref a1)], [.ref a0, .ref a0])) rfl ?_
    obtain ⟨size18, e19, H⟩ := am_bd H
    refine am_G.gI rfl e19 ?_
    refine am_G.fr 2 (g := (45, [some (.ref a0), some (.ref a1)], [.int (size18 - ((1 : Int32))), .ref a0])) rfl ?_
    obtain ⟨hh20, e21, H⟩ := am_bd H
    refine am_G.pF rfl e21 ?_
    refine am_G.fr 1 (g := (49, [some (.ref a0), some (.ref a1)], [.int ((1 : Int32))])) rfl ?_
    obtain ⟨rfl, rfl⟩ := am_inj2 H
    exact am_G.nd ⟨rfl, am_ret2 rfl (if_pos (by decide))⟩
  · rw [if_neg c3] at H
    refine am_G.br (tgt := 7) rfl rfl (if_neg c3) rfl ?_
    refine am_G.fr 1 (g := (8, [some (.ref a0), some (.ref a1)], [.int ((0 : Int32))])) rfl ?_
    obtain ⟨rfl, rfl⟩ := am_inj2 H
    exact am_G.nd ⟨rfl, am_ret2 rfl (if_pos (by decide))⟩
def fX1_init (a0 : Nat) (h : am_H) : Option (am_H) :=
  am_b2 (am_nA h 0 ((1000 : Int32))) fun a1 hh2 =>
  (am_pF hh2 a0 1 0 (.ref a1)).bind fun hh4 =>
  am_b2 (am_nA hh4 0 ((32 : Int32))) fun a6 hh7 =>
  (am_pF hh7 a0 1 1 (.ref a6)).bind fun hh9 =>
  some hh9
set_option maxHeartbeats 4000000 in
set_option maxRecDepth 100000 in
theorem lX1_init {sc : Nat × (Nat → Int32)} {a0 : Nat} {h : am_H} {h1 : am_H} (H : fX1_init a0 h = some h1) : am_Cl am_T am_N sc 1 3 [.ref a0] h none h1 := by
  unfold fX1_init at H
  refine am_mk (q := qX1_init) rfl (fun z => absurd z (by decide)) (fun _ => ⟨_, _, rfl⟩) (Nat.le_of_ble_eq_true rfl) rfl ?_
  show am_G sc (am_Cl am_T am_N sc 0) (am_at kX1_init) (fun t => t.2 = h1 ∧ am_ret 0 (am_at kX1_init) t.1 = some none) ((0, [some (.ref a0)], []), h)
  refine am_G.fr 1 (g := (1, [some (.ref a0)], [.ref a0])) rfl ?_
  refine am_G.oi rfl (Nat.le_of_ble_eq_true rfl) ?_
  refine am_G.fr 2 (g := (8, [some (.ref a0)], [.int ((1000 : Int32)), .ref a0])) rfl ?_
  obtain ⟨a1, hh2, e3, H⟩ := am_bd2 H
  refine am_G.nA rfl e3 ?_
  obtain ⟨hh4, e5, H⟩ := am_bd H
  refine am_G.pF rfl e5 ?_
  refine am_G.fr 2 (g := (16, [some (.ref a0)], [.int ((32 : Int32)), .ref a0])) rfl ?_
  obtain ⟨a6, hh7, e8, H⟩ := am_bd2 H
  refine am_G.nA rfl e8 ?_
  obtain ⟨hh9, e10, H⟩ := am_bd H
  refine am_G.pF rfl e10 ?_
  obtain rfl := Option.some.inj H
  exact am_G.nd ⟨rfl, rfl⟩
def fX1_add (a0 : Nat) (a1 : Int32) (h : am_H) : Option (am_H) :=
  (am_isO h a0 1).bind fun _ =>
  (am_gI h a0 1 2).bind fun length1 =>
  (am_gR h a0 1 0).bind fun code3 =>
  (am_len h code3).bind fun n5 =>
  Option.bind (
    if n5 ≤ length1 then
      some h
    else
      (am_gR h a0 1 0).bind fun code9 =>
      (am_gI h a0 1 2).bind fun length11 =>
      (am_sI h 0 code9 length11 a1).bind fun hh13 =>
      (am_gI hh13 a0 1 2).bind fun length15 =>
      (am_pF hh13 a0 1 2 (.int (length15 + ((1 : Int32))))).bind fun hh17 =>
      some hh17) fun hh7 =>
  some hh7
set_option maxHeartbeats 4000000 in
set_option maxRecDepth 100000 in
theorem lX1_add {sc : Nat × (Nat → Int32)} {a0 : Nat} {a1 : Int32} {h : am_H} {h1 : am_H} (H : fX1_add a0 a1 h = some h1) : am_Cl am_T am_N sc 1 4 [.ref a0, .int a1] h none h1 := by
  unfold fX1_add at H
  obtain ⟨_, hO, H⟩ := am_bd H
  obtain ⟨fs0, hO⟩ := am_isO_ok hO
  refine am_mk (q := qX1_add) rfl (fun _ => ⟨_, _, _, _, _, rfl, hO, rfl, rfl⟩) (fun z => absurd z (by decide)) (Nat.le_of_ble_eq_true rfl) rfl ?_
  show am_G sc (am_Cl am_T am_N sc 0) (am_at kX1_add) (fun t => t.2 = h1 ∧ am_ret 0 (am_at kX1_add) t.1 = some none) ((0, [some (.ref a0), some (.int a1)], []), h)
  refine am_G.fr 1 (g := (1, [some (.ref a0), some (.int a1)], [.ref a0])) rfl ?_
  obtain ⟨length1, e2, H⟩ := am_bd H
  refine am_G.gI rfl e2 ?_
  refine am_G.fr 1 (g := (5, [some (.ref a0), some (.int a1)], [.ref a0, .int length1])) rfl ?_
  obtain ⟨code3, e4, H⟩ := am_bd H
  refine am_G.gR rfl e4 ?_
  obtain ⟨n5, e6, H⟩ := am_bd H
  refine am_G.ln rfl e6 ?_
  obtain ⟨hh7, E19, H⟩ := am_bd H
  refine am_G.sq (t := ((32, [none, none], []), hh7)) ?_ ?_
  · clear H
    have H := E19
    clear E19
    by_cases c8 : n5 ≤ length1
    · rw [if_pos c8] at H
      refine am_G.br (tgt := 32) rfl rfl (if_pos c8) rfl ?_
      obtain rfl := Option.some.inj H
      refine am_G.fg [none, none] (by simp only [am_sub, and_self]) ?_
      exact am_G.nd rfl
    · rw [if_neg c8] at H
      refine am_G.br (tgt := 12) rfl rfl (if_neg c8) rfl ?_
      refine am_G.fr 1 (g := (13, [some (.ref a0), some (.int a1)], [.ref a0])) rfl ?_
      obtain ⟨code9, e10, H⟩ := am_bd H
      refine am_G.gR rfl e10 ?_
      refine am_G.fr 1 (g := (17, [some (.ref a0), some (.int a1)], [.ref a0, .ref code9])) rfl ?_
      obtain ⟨length11, e12, H⟩ := am_bd H
      refine am_G.gI rfl e12 ?_
      refine am_G.fr 1 (g := (21, [some (.ref a0), some (.int a1)], [.int a1, .int length11, .ref code9])) rfl ?_
      obtain ⟨hh13, e14, H⟩ := am_bd H
      refine am_G.sI rfl e14 ?_
      refine am_G.fr 2 (g := (24, [some (.ref a0), some (.int a1)], [.ref a0, .ref a0])) rfl ?_
      obtain ⟨length15, e16, H⟩ := am_bd H
      refine am_G.gI rfl e16 ?_
      refine am_G.fr 2 (g := (29, [some (.ref a0), some (.int a1)], [.int (length15 + ((1 : Int32))), .ref a0])) rfl ?_
      obtain ⟨hh17, e18, H⟩ := am_bd H
      refine am_G.pF rfl e18 ?_
      obtain rfl := Option.some.inj H
      refine am_G.fg [none, none] (by simp only [am_sub, and_self]) ?_
      exact am_G.nd rfl
  · clear E19
    obtain rfl := Option.some.inj H
    exact am_G.nd ⟨rfl, rfl⟩
def fX7_isSignOf (a0 : Nat) (a1 : Int32) (h : am_H) : Option (Int32) :=
  (am_isO h a0 6).bind fun _ =>
  (am_gI h a0 6 4).bind fun sort1 =>
  Option.bind (
    if ¬ sort1 = ((3 : Int32)) then
      some ((0 : Int32))
    else
      (am_gR h a0 6 0).bind fun signs5 =>
      (am_gI h a0 6 2).bind fun place7 =>
      (am_aI h 2 signs5 place7).bind fun x9 =>
      if ¬ x9 = a1 then
        some ((0 : Int32))
      else
        some ((1 : Int32))) fun js3 =>
  (am_z01 js3).bind fun b12 =>
  some b12
set_option maxHeartbeats 4000000 in
set_option maxRecDepth 100000 in
theorem lX7_isSignOf {sc : Nat × (Nat → Int32)} {a0 : Nat} {a1 : Int32} {h : am_H} {r : Int32} (H : fX7_isSignOf a0 a1 h = some r) : am_Cl am_T am_N sc 1 64 [.ref a0, .int a1] h (some (.int r)) h := by
  unfold fX7_isSignOf at H
  obtain ⟨_, hO, H⟩ := am_bd H
  obtain ⟨fs0, hO⟩ := am_isO_ok hO
  refine am_mk (q := qX7_isSignOf) rfl (fun _ => ⟨_, _, _, _, _, rfl, hO, rfl, rfl⟩) (fun z => absurd z (by decide)) (Nat.le_of_ble_eq_true rfl) rfl ?_
  show am_G sc (am_Cl am_T am_N sc 0) (am_at kX7_isSignOf) (fun t => t.2 = h ∧ am_ret 2 (am_at kX7_isSignOf) t.1 = some (some (.int r))) ((0, [some (.ref a0), some (.int a1)], []), h)
  refine am_G.fr 1 (g := (1, [some (.ref a0), some (.int a1)], [.ref a0])) rfl ?_
  obtain ⟨sort1, e2, H⟩ := am_bd H
  refine am_G.gI rfl e2 ?_
  refine am_G.fr 1 (g := (5, [some (.ref a0), some (.int a1)], [.int ((3 : Int32)), .int sort1])) rfl ?_
  obtain ⟨js3, E14, H⟩ := am_bd H
  refine am_G.sq (t := ((26, [none, none], [.int js3]), h)) ?_ ?_
  · clear H
    have H := E14
    clear E14
    by_cases c4 : ¬ sort1 = ((3 : Int32))
    · rw [if_pos c4] at H
      refine am_G.br (tgt := 25) rfl rfl (if_pos c4) rfl ?_
      refine am_G.fr 1 (g := (26, [some (.ref a0), some (.int a1)], [.int ((0 : Int32))])) rfl ?_
      obtain rfl := Option.some.inj H
      refine am_G.fg [none, none] (by simp only [am_sub, and_self]) ?_
      exact am_G.nd rfl
    · rw [if_neg c4] at H
      refine am_G.br (tgt := 8) rfl rfl (if_neg c4) rfl ?_
      refine am_G.fr 1 (g := (9, [some (.ref a0), some (.int a1)], [.ref a0])) rfl ?_
      obtain ⟨signs5, e6, H⟩ := am_bd H
      refine am_G.gR rfl e6 ?_
      refine am_G.fr 1 (g := (13, [some (.ref a0), some (.int a1)], [.ref a0, .ref signs5])) rfl ?_
      obtain ⟨place7, e8, H⟩ := am_bd H
      refine am_G.gI rfl e8 ?_
      obtain ⟨x9, e10, H⟩ := am_bd H
      refine am_G.aB rfl e10 ?_
      refine am_G.fr 1 (g := (18, [some (.ref a0), some (.int a1)], [.int a1, .int x9])) rfl ?_
      by_cases c11 : ¬ x9 = a1
      · rw [if_pos c11] at H
        refine am_G.br (tgt := 25) rfl rfl (if_pos c11) rfl ?_
        refine am_G.fr 1 (g := (26, [some (.ref a0), some (.int a1)], [.int ((0 : Int32))])) rfl ?_
        obtain rfl := Option.some.inj H
        refine am_G.fg [none, none] (by simp only [am_sub, and_self]) ?_
        exact am_G.nd rfl
      · rw [if_neg c11] at H
        refine am_G.br (tgt := 21) rfl rfl (if_neg c11) rfl ?_
        refine am_G.fr 2 (g := (26, [some (.ref a0), some (.int a1)], [.int ((1 : Int32))])) rfl ?_
        obtain rfl := Option.some.inj H
        refine am_G.fg [none, none] (by simp only [am_sub, and_self]) ?_
        exact am_G.nd rfl
  · clear E14
    obtain ⟨b12, e13, H⟩ := am_bd H
    obtain rfl := Option.some.inj H
    exact am_G.nd ⟨rfl, am_ret2 rfl e13⟩
def fX7_isWord_L28 : Nat → Nat → Nat → Int32 → am_H → Option ((Unit) ⊕ (Int32))
  | 0, _, _, _, _ => none
  | n + 1, v0, v1, v2, h =>
    (am_sLen v1).bind fun x12 =>
    if x12 ≤ v2 then
      some (.inl ())
    else
      (am_gR h v0 6 0).bind fun signs14 =>
      (am_gI h v0 6 2).bind fun place16 =>
      (am_aI h 2 signs14 (place16 + v2)).bind fun x18 =>
      (am_sCh v1 v2).bind fun x21 =>
      if x18 = x21 then
        fX7_isWord_L28 n v0 v1 (v2 + (1 : Int32)) h
      else
        some (.inr ((0 : Int32)))
def fX7_isWord (a0 : Nat) (a1 : Nat) (h : am_H) : Option (Int32) :=
  (am_isO h a0 6).bind fun _ =>
  (am_gI h a0 6 4).bind fun sort1 =>
  if ¬ sort1 = ((1 : Int32)) then
    some ((0 : Int32))
  else
    (am_sLen a1).bind fun x5 =>
    (am_gI h a0 6 3).bind fun behind6 =>
    (am_gI h a0 6 2).bind fun place8 =>
    if x5 = (behind6 - place8) then
      (fX7_isWord_L28 4000 a0 a1 ((0 : Int32)) h).bind fun o24 => match o24 with
        | .inl _ =>
          some ((1 : Int32))
        | .inr y25 => some y25
    else
      some ((0 : Int32))
set_option maxHeartbeats 4000000 in
set_option maxRecDepth 100000 in
theorem lX7_isWord_L28 {sc : Nat × (Nat → Int32)} : ∀ (n : Nat) (v0 : Nat) (v1 : Nat) (v2 : Int32) (h : am_H) (o : (Unit) ⊕ (Int32)), fX7_isWord_L28 n v0 v1 v2 h = some o → am_G sc (am_Cl am_T am_N sc 9) (am_at kX7_isWord) (fun t => match o with
    | .inl _ => t = ((63, [none, none, none], []), h)
    | .inr y => t.2 = h ∧ am_ret 2 (am_at kX7_isWord) t.1 = some (some (.int y))) ((28, [some (.ref v0), some (.ref v1), some (.int v2)], []), h) := by
  intro n
  induction n with
  | zero => intro _ _ _ _ _ H; cases H
  | succ n ih =>
    intro v0 v1 v2 h o H
    rw [fX7_isWord_L28] at H
    refine am_G.fr 2 (g := (30, [some (.ref v0), some (.ref v1), some (.int v2)], [.ref v1, .int v2])) rfl ?_
    obtain ⟨x12, e11, H⟩ := am_bd H
    refine am_G.cl [.ref v1] [.int v2] (am_cLen e11) rfl rfl rfl rfl (Nat.le_of_ble_eq_true rfl) ?_
    by_cases c13 : x12 ≤ v2
    · rw [if_pos c13] at H
      refine am_G.br (tgt := 63) rfl rfl (if_pos c13) rfl ?_
      obtain rfl := Option.some.inj H
      refine am_G.fg [none, none, none] (by simp only [am_sub, and_self]) ?_
      exact am_G.nd rfl
    · rw [if_neg c13] at H
      refine am_G.br (tgt := 36) rfl rfl (if_neg c13) rfl ?_
      refine am_G.fr 1 (g := (37, [some (.ref v0), some (.ref v1), some (.int v2)], [.ref v0])) rfl ?_
      obtain ⟨signs14, e15, H⟩ := am_bd H
      refine am_G.gR rfl e15 ?_
      refine am_G.fr 1 (g := (41, [some (.ref v0), some (.ref v1), some (.int v2)], [.ref v0, .ref signs14])) rfl ?_
      obtain ⟨place16, e17, H⟩ := am_bd H
      refine am_G.gI rfl e17 ?_
      refine am_G.fr 2 (g := (46, [some (.ref v0), some (.ref v1), some (.int v2)], [.int (place16 + v2), .ref signs14])) rfl ?_
      obtain ⟨x18, e19, H⟩ := am_bd H
      refine am_G.aB rfl e19 ?_
      refine am_G.fr 2 (g := (49, [some (.ref v0), some (.ref v1), some (.int v2)], [.int v2, .ref v1, .int x18])) rfl ?_
      obtain ⟨x21, e20, H⟩ := am_bd H
      refine am_G.cl [.ref v1, .int v2] [.int x18] (am_cCh e20) rfl rfl rfl rfl (Nat.le_of_ble_eq_true rfl) ?_
      by_cases c22 : x18 = x21
      · rw [if_pos c22] at H
        refine am_G.br (tgt := 57) rfl rfl (if_pos c22) rfl ?_
        refine am_G.fr 2 (g := (28, [some (.ref v0), some (.ref v1), some (.int (v2 + (1 : Int32)))], [])) rfl ?_
        exact ih _ _ _ _ _ H
      · rw [if_neg c22] at H
        refine am_G.br (tgt := 55) rfl rfl (if_neg c22) rfl ?_
        refine am_G.fr 1 (g := (56, [some (.ref v0), some (.ref v1), some (.int v2)], [.int ((0 : Int32))])) rfl ?_
        obtain rfl := Option.some.inj H
        exact am_G.nd ⟨rfl, am_ret2 rfl (if_pos (by decide))⟩
set_option maxHeartbeats 4000000 in
set_option maxRecDepth 100000 in
theorem lX7_isWord {sc : Nat × (Nat → Int32)} {a0 : Nat} {a1 : Nat} {h : am_H} {r : Int32} (H : fX7_isWord a0 a1 h = some r) : am_Cl am_T am_N sc 10 63 [.ref a0, .ref a1] h (some (.int r)) h := by
  unfold fX7_isWord at H
  obtain ⟨_, hO, H⟩ := am_bd H
  obtain ⟨fs0, hO⟩ := am_isO_ok hO
  refine am_mk (q := qX7_isWord) rfl (fun _ => ⟨_, _, _, _, _, rfl, hO, rfl, rfl⟩) (fun z => absurd z (by decide)) (Nat.le_of_ble_eq_true rfl) rfl ?_
  show am_G sc (am_Cl am_T am_N sc 9) (am_at kX7_isWord) (fun t => t.2 = h ∧ am_ret 2 (am_at kX7_isWord) t.1 = some (some (.int r))) ((0, [some (.ref a0), some (.ref a1), none], []), h)
  refine am_G.fr 1 (g := (1, [some (.ref a0), some (.ref a1), none], [.ref a0])) rfl ?_
  obtain ⟨sort1, e2, H⟩ := am_bd H
  refine am_G.gI rfl e2 ?_
  refine am_G.fr 1 (g := (5, [some (.ref a0), some (.ref a1), none], [.int ((1 : Int32)), .int sort1])) rfl ?_
  by_cases c3 : ¬ sort1 = ((1 : Int32))
  · rw [if_pos c3] at H
    refine am_G.br (tgt := 24) rfl rfl (if_pos c3) rfl ?_
    refine am_G.fr 1 (g := (25, [some (.ref a0), some (.ref a1), none], [.int ((0 : Int32))])) rfl ?_
    obtain rfl := Option.some.inj H
    exact am_G.nd ⟨rfl, am_ret2 rfl (if_pos (by decide))⟩
  · rw [if_neg c3] at H
    refine am_G.br (tgt := 8) rfl rfl (if_neg c3) rfl ?_
    refine am_G.fr 1 (g := (9, [some (.ref a0), some (.ref a1), none], [.ref a1])) rfl ?_
    obtain ⟨x5, e4, H⟩ := am_bd H
    refine am_G.cl [.ref a1] [] (am_cLen e4) rfl rfl rfl rfl (Nat.le_of_ble_eq_true rfl) ?_
    refine am_G.fr 1 (g := (13, [some (.ref a0), some (.ref a1), none], [.ref a0, .int x5])) rfl ?_
    obtain ⟨behind6, e7, H⟩ := am_bd H
    refine am_G.gI rfl e7 ?_
    refine am_G.fr 1 (g := (17, [some (.ref a0), some (.ref a1), none], [.ref a0, .int behind6, .int x5])) rfl ?_
    obtain ⟨place8, e9, H⟩ := am_bd H
    refine am_G.gI rfl e9 ?_
    refine am_G.fr 1 (g := (21, [some (.ref a0), some (.ref a1), none], [.int (behind6 - place8), .int x5])) rfl ?_
    by_cases c10 : x5 = (behind6 - place8)
    · rw [if_pos c10] at H
      refine am_G.br (tgt := 26) rfl rfl (if_pos c10) rfl ?_
      refine am_G.fr 2 (g := (28, [some (.ref a0), some (.ref a1), some (.int ((0 : Int32)))], [])) rfl ?_
      obtain ⟨o24, E23, H⟩ := am_bd H
      have hL := lX7_isWord_L28 (sc := sc) _ _ _ _ _ _ E23
      clear E23
      rcases o24 with _ | y25
      · dsimp only at H
        refine am_G.sq hL ?_
        refine am_G.fr 1 (g := (64, [none, none, none], [.int ((1 : Int32))])) rfl ?_
        obtain rfl := Option.some.inj H
        exact am_G.nd ⟨rfl, am_ret2 rfl (if_pos (by decide))⟩
      · dsimp only at H
        obtain rfl := Option.some.inj H
        exact hL
    · rw [if_neg c10] at H
      refine am_G.br (tgt := 24) rfl rfl (if_neg c10) rfl ?_
      refine am_G.fr 1 (g := (25, [some (.ref a0), some (.ref a1), none], [.int ((0 : Int32))])) rfl ?_
      obtain rfl := Option.some.inj H
      exact am_G.nd ⟨rfl, am_ret2 rfl (if_pos (by decide))⟩
def fX1_operatorOf (a0 : Nat) (a1 : Int32) (h : am_H) : Option (Int32) :=
  if a1.toInt < 0 ∨ 2 < a1.toInt then
    (fX7_isSignOf a0 ((42 : Int32)) h).bind fun x5 =>
    Option.bind (
      if x5 = 0 then
        some ((0 : Int32))
      else
        some ((-12 : Int32))) fun js6 =>
    some js6
  else (some (a1.toInt - 0).toNat).bind fun k2 =>
  if k2 = 0 then
    (fX7_isWord a0 1000019 h).bind fun x10 =>
    Option.bind (
      if x10 = 0 then
        (fX7_isWord a0 1000020 h).bind fun x14 =>
        if x14 = 0 then
          some ((0 : Int32))
        else
          some ((-7 : Int32))
      else
        some ((-6 : Int32))) fun js11 =>
    some js11
  else if k2 = 1 then
    (fX7_isSignOf a0 ((60 : Int32)) h).bind fun x19 =>
    Option.bind (
      if x19 = 0 then
        (fX7_isSignOf a0 ((61 : Int32)) h).bind fun x23 =>
        if x23 = 0 then
          some ((0 : Int32))
        else
          some ((-9 : Int32))
      else
        some ((-8 : Int32))) fun js20 =>
    some js20
  else if k2 = 2 then
    (fX7_isSignOf a0 ((43 : Int32)) h).bind fun x28 =>
    Option.bind (
      if x28 = 0 then
        (fX7_isSignOf a0 ((45 : Int32)) h).bind fun x32 =>
        if x32 = 0 then
          some ((0 : Int32))
        else
          some ((-11 : Int32))
      else
        some ((-10 : Int32))) fun js29 =>
    some js29
  else none
set_option maxHeartbeats 4000000 in
set_option maxRecDepth 100000 in
theorem lX1_operatorOf {sc : Nat × (Nat → Int32)} {a0 : Nat} {a1 : Int32} {h : am_H} {r : Int32} (H : fX1_operatorOf a0 a1 h = some r) : am_Cl am_T am_N sc 11 6 [.ref a0, .int a1] h (some (.int r)) h := by
  unfold fX1_operatorOf at H
  refine am_mk (q := qX1_operatorOf) rfl (fun z => absurd z (by decide)) (fun z => absurd z (by decide)) (Nat.le_of_ble_eq_true rfl) rfl ?_
  show am_G sc (am_Cl am_T am_N sc 10) (am_at kX1_operatorOf) (fun t => t.2 = h ∧ am_ret 1 (am_at kX1_operatorOf) t.1 = some (some (.int r))) ((0, [some (.ref a0), some (.int a1)], []), h)
  refine am_G.fr 1 (g := (1, [some (.ref a0), some (.int a1)], [.int a1])) rfl ?_
  by_cases c1 : a1.toInt < 0 ∨ 2 < a1.toInt
  · rw [if_pos c1] at H
    refine am_G.swD (tgt := 118) rfl c1 rfl ?_
    refine am_G.fr 2 (g := (121, [some (.ref a0), some (.int a1)], [.int ((42 : Int32)), .ref a0])) rfl ?_
    obtain ⟨x5, e4, H⟩ := am_bd H
    refine am_G.cl [.ref a0, .int ((42 : Int32))] [] (am_Cl.mono (by decide) (lX7_isSignOf e4)) rfl rfl rfl rfl (Nat.le_of_ble_eq_true rfl) ?_
    obtain ⟨js6, E8, H⟩ := am_bd H
    refine am_G.sq (t := ((133, [none, none], [.int js6]), h)) ?_ ?_
    · clear H
      have H := E8
      clear E8
      by_cases c7 : x5 = 0
      · rw [if_pos c7] at H
        refine am_G.br (tgt := 132) rfl rfl (if_pos c7) rfl ?_
        refine am_G.fr 1 (g := (133, [some (.ref a0), some (.int a1)], [.int ((0 : Int32))])) rfl ?_
        obtain rfl := Option.some.inj H
        refine am_G.fg [none, none] (by simp only [am_sub, and_self]) ?_
        exact am_G.nd rfl
      · rw [if_neg c7] at H
        refine am_G.br (tgt := 127) rfl rfl (if_neg c7) rfl ?_
        refine am_G.fr 2 (g := (133, [some (.ref a0), some (.int a1)], [.int ((-12 : Int32))])) rfl ?_
        obtain rfl := Option.some.inj H
        refine am_G.fg [none, none] (by simp only [am_sub, and_self]) ?_
        exact am_G.nd rfl
    · clear E8
      obtain rfl := Option.some.inj H
      exact am_G.nd ⟨rfl, rfl⟩
  · rw [if_neg c1] at H
    obtain ⟨k2, e3, H⟩ := am_bd H
    by_cases c17 : k2 = 0
    · rw [if_pos c17] at H
      refine am_G.sw (tgt := 28) (k0 := 0) rfl c1 ((Option.some.inj e3).trans c17) rfl rfl ?_
      refine am_G.fr 2 (g := (31, [some (.ref a0), some (.int a1)], [.ref 1000019, .ref a0])) rfl ?_
      obtain ⟨x10, e9, H⟩ := am_bd H
      refine am_G.cl [.ref a0, .ref 1000019] [] (am_Cl.mono (by decide) (lX7_isWord e9)) rfl rfl rfl rfl (Nat.le_of_ble_eq_true rfl) ?_
      obtain ⟨js11, E16, H⟩ := am_bd H
      refine am_G.sq (t := ((57, [none, none], [.int js11]), h)) ?_ ?_
      · clear H
        have H := E16
        clear E16
        by_cases c12 : x10 = 0
        · rw [if_pos c12] at H
          refine am_G.br (tgt := 42) rfl rfl (if_pos c12) rfl ?_
          refine am_G.fr 2 (g := (45, [some (.ref a0), some (.int a1)], [.ref 1000020, .ref a0])) rfl ?_
          obtain ⟨x14, e13, H⟩ := am_bd H
          refine am_G.cl [.ref a0, .ref 1000020] [] (am_Cl.mono (by decide) (lX7_isWord e13)) rfl rfl rfl rfl (Nat.le_of_ble_eq_true rfl) ?_
          by_cases c15 : x14 = 0
          · rw [if_pos c15] at H
            refine am_G.br (tgt := 56) rfl rfl (if_pos c15) rfl ?_
            refine am_G.fr 1 (g := (57, [some (.ref a0), some (.int a1)], [.int ((0 : Int32))])) rfl ?_
            obtain rfl := Option.some.inj H
            refine am_G.fg [none, none] (by simp only [am_sub, and_self]) ?_
            exact am_G.nd rfl
          · rw [if_neg c15] at H
            refine am_G.br (tgt := 51) rfl rfl (if_neg c15) rfl ?_
            refine am_G.fr 2 (g := (57, [some (.ref a0), some (.int a1)], [.int ((-7 : Int32))])) rfl ?_
            obtain rfl := Option.some.inj H
            refine am_G.fg [none, none] (by simp only [am_sub, and_self]) ?_
            exact am_G.nd rfl
        · rw [if_neg c12] at H
          refine am_G.br (tgt := 37) rfl rfl (if_neg c12) rfl ?_
          refine am_G.fr 2 (g := (57, [some (.ref a0), some (.int a1)], [.int ((-6 : Int32))])) rfl ?_
          obtain rfl := Option.some.inj H
          refine am_G.fg [none, none] (by simp only [am_sub, and_self]) ?_
          exact am_G.nd rfl
      · clear E16
        obtain rfl := Option.some.inj H
        exact am_G.nd ⟨rfl, rfl⟩
    · rw [if_neg c17] at H
      by_cases c26 : k2 = 1
      · rw [if_pos c26] at H
        refine am_G.sw (tgt := 58) (k0 := 1) rfl c1 ((Option.some.inj e3).trans c26) rfl rfl ?_
        refine am_G.fr 2 (g := (61, [some (.ref a0), some (.int a1)], [.int ((60 : Int32)), .ref a0])) rfl ?_
        obtain ⟨x19, e18, H⟩ := am_bd H
        refine am_G.cl [.ref a0, .int ((60 : Int32))] [] (am_Cl.mono (by decide) (lX7_isSignOf e18)) rfl rfl rfl rfl (Nat.le_of_ble_eq_true rfl) ?_
        obtain ⟨js20, E25, H⟩ := am_bd H
        refine am_G.sq (t := ((87, [none, none], [.int js20]), h)) ?_ ?_
        · clear H
          have H := E25
          clear E25
          by_cases c21 : x19 = 0
          · rw [if_pos c21] at H
            refine am_G.br (tgt := 72) rfl rfl (if_pos c21) rfl ?_
            refine am_G.fr 2 (g := (75, [some (.ref a0), some (.int a1)], [.int ((61 : Int32)), .ref a0])) rfl ?_
            obtain ⟨x23, e22, H⟩ := am_bd H
            refine am_G.cl [.ref a0, .int ((61 : Int32))] [] (am_Cl.mono (by decide) (lX7_isSignOf e22)) rfl rfl rfl rfl (Nat.le_of_ble_eq_true rfl) ?_
            by_cases c24 : x23 = 0
            · rw [if_pos c24] at H
              refine am_G.br (tgt := 86) rfl rfl (if_pos c24) rfl ?_
              refine am_G.fr 1 (g := (87, [some (.ref a0), some (.int a1)], [.int ((0 : Int32))])) rfl ?_
              obtain rfl := Option.some.inj H
              refine am_G.fg [none, none] (by simp only [am_sub, and_self]) ?_
              exact am_G.nd rfl
            · rw [if_neg c24] at H
              refine am_G.br (tgt := 81) rfl rfl (if_neg c24) rfl ?_
              refine am_G.fr 2 (g := (87, [some (.ref a0), some (.int a1)], [.int ((-9 : Int32))])) rfl ?_
              obtain rfl := Option.some.inj H
              refine am_G.fg [none, none] (by simp only [am_sub, and_self]) ?_
              exact am_G.nd rfl
          · rw [if_neg c21] at H
            refine am_G.br (tgt := 67) rfl rfl (if_neg c21) rfl ?_
            refine am_G.fr 2 (g := (87, [some (.ref a0), some (.int a1)], [.int ((-8 : Int32))])) rfl ?_
            obtain rfl := Option.some.inj H
            refine am_G.fg [none, none] (by simp only [am_sub, and_self]) ?_
            exact am_G.nd rfl
        · clear E25
          obtain rfl := Option.some.inj H
          exact am_G.nd ⟨rfl, rfl⟩
      · rw [if_neg c26] at H
        by_cases c35 : k2 = 2
        · rw [if_pos c35] at H
          refine am_G.sw (tgt := 88) (k0 := 2) rfl c1 ((Option.some.inj e3).trans c35) rfl rfl ?_
          refine am_G.fr 2 (g := (91, [some (.ref a0), some (.int a1)], [.int ((43 : Int32)), .ref a0])) rfl ?_
          obtain ⟨x28, e27, H⟩ := am_bd H
          refine am_G.cl [.ref a0, .int ((43 : Int32))] [] (am_Cl.mono (by decide) (lX7_isSignOf e27)) rfl rfl rfl rfl (Nat.le_of_ble_eq_true rfl) ?_
          obtain ⟨js29, E34, H⟩ := am_bd H
          refine am_G.sq (t := ((117, [none, none], [.int js29]), h)) ?_ ?_
          · clear H
            have H := E34
            clear E34
            by_cases c30 : x28 = 0
            · rw [if_pos c30] at H
              refine am_G.br (tgt := 102) rfl rfl (if_pos c30) rfl ?_
              refine am_G.fr 2 (g := (105, [some (.ref a0), some (.int a1)], [.int ((45 : Int32)), .ref a0])) rfl ?_
              obtain ⟨x32, e31, H⟩ := am_bd H
              refine am_G.cl [.ref a0, .int ((45 : Int32))] [] (am_Cl.mono (by decide) (lX7_isSignOf e31)) rfl rfl rfl rfl (Nat.le_of_ble_eq_true rfl) ?_
              by_cases c33 : x32 = 0
              · rw [if_pos c33] at H
                refine am_G.br (tgt := 116) rfl rfl (if_pos c33) rfl ?_
                refine am_G.fr 1 (g := (117, [some (.ref a0), some (.int a1)], [.int ((0 : Int32))])) rfl ?_
                obtain rfl := Option.some.inj H
                refine am_G.fg [none, none] (by simp only [am_sub, and_self]) ?_
                exact am_G.nd rfl
              · rw [if_neg c33] at H
                refine am_G.br (tgt := 111) rfl rfl (if_neg c33) rfl ?_
                refine am_G.fr 2 (g := (117, [some (.ref a0), some (.int a1)], [.int ((-11 : Int32))])) rfl ?_
                obtain rfl := Option.some.inj H
                refine am_G.fg [none, none] (by simp only [am_sub, and_self]) ?_
                exact am_G.nd rfl
            · rw [if_neg c30] at H
              refine am_G.br (tgt := 97) rfl rfl (if_neg c30) rfl ?_
              refine am_G.fr 2 (g := (117, [some (.ref a0), some (.int a1)], [.int ((-10 : Int32))])) rfl ?_
              obtain rfl := Option.some.inj H
              refine am_G.fg [none, none] (by simp only [am_sub, and_self]) ?_
              exact am_G.nd rfl
          · clear E34
            obtain rfl := Option.some.inj H
            exact am_G.nd ⟨rfl, rfl⟩
        · rw [if_neg c35] at H
          cases H
def fX1_factOf (a0 : Nat) (h : am_H) : Option (Int32) :=
  (fX7_isWord a0 1000021 h).bind fun x2 =>
  if x2 = 0 then
    (fX7_isWord a0 1000022 h).bind fun x5 =>
    if x5 = 0 then
      (fX7_isWord a0 1000023 h).bind fun x8 =>
      if x8 = 0 then
        (fX7_isWord a0 1000024 h).bind fun x11 =>
        Option.bind (
          if x11 = 0 then
            some ((0 : Int32))
          else
            some ((-4 : Int32))) fun js12 =>
        some js12
      else
        some ((-3 : Int32))
    else
      some ((-2 : Int32))
  else
    some ((-1 : Int32))
set_option maxHeartbeats 4000000 in
set_option maxRecDepth 100000 in
theorem lX1_factOf {sc : Nat × (Nat → Int32)} {a0 : Nat} {h : am_H} {r : Int32} (H : fX1_factOf a0 h = some r) : am_Cl am_T am_N sc 11 8 [.ref a0] h (some (.int r)) h := by
  unfold fX1_factOf at H
  refine am_mk (q := qX1_factOf) rfl (fun z => absurd z (by decide)) (fun z => absurd z (by decide)) (Nat.le_of_ble_eq_true rfl) rfl ?_
  show am_G sc (am_Cl am_T am_N sc 10) (am_at kX1_factOf) (fun t => t.2 = h ∧ am_ret 1 (am_at kX1_factOf) t.1 = some (some (.int r))) ((0, [some (.ref a0)], []), h)
  refine am_G.fr 2 (g := (3, [some (.ref a0)], [.ref 1000021, .ref a0])) rfl ?_
  obtain ⟨x2, e1, H⟩ := am_bd H
  refine am_G.cl [.ref a0, .ref 1000021] [] (am_Cl.mono (by decide) (lX7_isWord e1)) rfl rfl rfl rfl (Nat.le_of_ble_eq_true rfl) ?_
  by_cases c3 : x2 = 0
  · rw [if_pos c3] at H
    refine am_G.br (tgt := 11) rfl rfl (if_pos c3) rfl ?_
    refine am_G.fr 2 (g := (14, [some (.ref a0)], [.ref 1000022, .ref a0])) rfl ?_
    obtain ⟨x5, e4, H⟩ := am_bd H
    refine am_G.cl [.ref a0, .ref 1000022] [] (am_Cl.mono (by decide) (lX7_isWord e4)) rfl rfl rfl rfl (Nat.le_of_ble_eq_true rfl) ?_
    by_cases c6 : x5 = 0
    · rw [if_pos c6] at H
      refine am_G.br (tgt := 23) rfl rfl (if_pos c6) rfl ?_
      refine am_G.fr 2 (g := (26, [some (.ref a0)], [.ref 1000023, .ref a0])) rfl ?_
      obtain ⟨x8, e7, H⟩ := am_bd H
      refine am_G.cl [.ref a0, .ref 1000023] [] (am_Cl.mono (by decide) (lX7_isWord e7)) rfl rfl rfl rfl (Nat.le_of_ble_eq_true rfl) ?_
      by_cases c9 : x8 = 0
      · rw [if_pos c9] at H
        refine am_G.br (tgt := 35) rfl rfl (if_pos c9) rfl ?_
        refine am_G.fr 2 (g := (38, [some (.ref a0)], [.ref 1000024, .ref a0])) rfl ?_
        obtain ⟨x11, e10, H⟩ := am_bd H
        refine am_G.cl [.ref a0, .ref 1000024] [] (am_Cl.mono (by decide) (lX7_isWord e10)) rfl rfl rfl rfl (Nat.le_of_ble_eq_true rfl) ?_
        obtain ⟨js12, E14, H⟩ := am_bd H
        refine am_G.sq (t := ((50, [none], [.int js12]), h)) ?_ ?_
        · clear H
          have H := E14
          clear E14
          by_cases c13 : x11 = 0
          · rw [if_pos c13] at H
            refine am_G.br (tgt := 49) rfl rfl (if_pos c13) rfl ?_
            refine am_G.fr 1 (g := (50, [some (.ref a0)], [.int ((0 : Int32))])) rfl ?_
            obtain rfl := Option.some.inj H
            refine am_G.fg [none] (by simp only [am_sub, and_self]) ?_
            exact am_G.nd rfl
          · rw [if_neg c13] at H
            refine am_G.br (tgt := 44) rfl rfl (if_neg c13) rfl ?_
            refine am_G.fr 2 (g := (50, [some (.ref a0)], [.int ((-4 : Int32))])) rfl ?_
            obtain rfl := Option.some.inj H
            refine am_G.fg [none] (by simp only [am_sub, and_self]) ?_
            exact am_G.nd rfl
        · clear E14
          obtain rfl := Option.some.inj H
          exact am_G.nd ⟨rfl, rfl⟩
      · rw [if_neg c9] at H
        refine am_G.br (tgt := 32) rfl rfl (if_neg c9) rfl ?_
        refine am_G.fr 1 (g := (34, [some (.ref a0)], [.int ((-3 : Int32))])) rfl ?_
        obtain rfl := Option.some.inj H
        exact am_G.nd ⟨rfl, rfl⟩
    · rw [if_neg c6] at H
      refine am_G.br (tgt := 20) rfl rfl (if_neg c6) rfl ?_
      refine am_G.fr 1 (g := (22, [some (.ref a0)], [.int ((-2 : Int32))])) rfl ?_
      obtain rfl := Option.some.inj H
      exact am_G.nd ⟨rfl, rfl⟩
  · rw [if_neg c3] at H
    refine am_G.br (tgt := 9) rfl rfl (if_neg c3) rfl ?_
    refine am_G.fr 1 (g := (10, [some (.ref a0)], [.int ((-1 : Int32))])) rfl ?_
    obtain rfl := Option.some.inj H
    exact am_G.nd ⟨rfl, rfl⟩
def fX7_isNumber (a0 : Nat) (h : am_H) : Option (Int32) :=
  (am_isO h a0 6).bind fun _ =>
  (am_gI h a0 6 4).bind fun sort1 =>
  Option.bind (
    if ¬ sort1 = ((2 : Int32)) then
      some ((0 : Int32))
    else
      some ((1 : Int32))) fun js3 =>
  (am_z01 js3).bind fun b5 =>
  some b5
set_option maxHeartbeats 4000000 in
set_option maxRecDepth 100000 in
theorem lX7_isNumber {sc : Nat × (Nat → Int32)} {a0 : Nat} {h : am_H} {r : Int32} (H : fX7_isNumber a0 h = some r) : am_Cl am_T am_N sc 1 65 [.ref a0] h (some (.int r)) h := by
  unfold fX7_isNumber at H
  obtain ⟨_, hO, H⟩ := am_bd H
  obtain ⟨fs0, hO⟩ := am_isO_ok hO
  refine am_mk (q := qX7_isNumber) rfl (fun _ => ⟨_, _, _, _, _, rfl, hO, rfl, rfl⟩) (fun z => absurd z (by decide)) (Nat.le_of_ble_eq_true rfl) rfl ?_
  show am_G sc (am_Cl am_T am_N sc 0) (am_at kX7_isNumber) (fun t => t.2 = h ∧ am_ret 2 (am_at kX7_isNumber) t.1 = some (some (.int r))) ((0, [some (.ref a0)], []), h)
  refine am_G.fr 1 (g := (1, [some (.ref a0)], [.ref a0])) rfl ?_
  obtain ⟨sort1, e2, H⟩ := am_bd H
  refine am_G.gI rfl e2 ?_
  refine am_G.fr 1 (g := (5, [some (.ref a0)], [.int ((2 : Int32)), .int sort1])) rfl ?_
  obtain ⟨js3, E7, H⟩ := am_bd H
  refine am_G.sq (t := ((13, [none], [.int js3]), h)) ?_ ?_
  · clear H
    have H := E7
    clear E7
    by_cases c4 : ¬ sort1 = ((2 : Int32))
    · rw [if_pos c4] at H
      refine am_G.br (tgt := 12) rfl rfl (if_pos c4) rfl ?_
      refine am_G.fr 1 (g := (13, [some (.ref a0)], [.int ((0 : Int32))])) rfl ?_
      obtain rfl := Option.some.inj H
      refine am_G.fg [none] (by simp only [am_sub, and_self]) ?_
      exact am_G.nd rfl
    · rw [if_neg c4] at H
      refine am_G.br (tgt := 8) rfl rfl (if_neg c4) rfl ?_
      refine am_G.fr 2 (g := (13, [some (.ref a0)], [.int ((1 : Int32))])) rfl ?_
      obtain rfl := Option.some.inj H
      refine am_G.fg [none] (by simp only [am_sub, and_self]) ?_
      exact am_G.nd rfl
  · clear E7
    obtain ⟨b5, e6, H⟩ := am_bd H
    obtain rfl := Option.some.inj H
    exact am_G.nd ⟨rfl, am_ret2 rfl e6⟩
def fX7_refuse (a0 : Nat) (a1 : Int32) (h : am_H) : Option (Int32 × am_H) :=
  (am_isO h a0 6).bind fun _ =>
  (am_gI h a0 6 2).bind fun place1 =>
  (am_pF h a0 6 7 (.int (a1 + (((16 : Int32)) * place1)))).bind fun hh3 =>
  some ((0 : Int32), hh3)
set_option maxHeartbeats 4000000 in
set_option maxRecDepth 100000 in
theorem lX7_refuse {sc : Nat × (Nat → Int32)} {a0 : Nat} {a1 : Int32} {h : am_H} {r : Int32} {h1 : am_H} (H : fX7_refuse a0 a1 h = some (r, h1)) : am_Cl am_T am_N sc 1 67 [.ref a0, .int a1] h (some (.int r)) h1 := by
  unfold fX7_refuse at H
  obtain ⟨_, hO, H⟩ := am_bd H
  obtain ⟨fs0, hO⟩ := am_isO_ok hO
  refine am_mk (q := qX7_refuse) rfl (fun _ => ⟨_, _, _, _, _, rfl, hO, rfl, rfl⟩) (fun z => absurd z (by decide)) (Nat.le_of_ble_eq_true rfl) rfl ?_
  show am_G sc (am_Cl am_T am_N sc 0) (am_at kX7_refuse) (fun t => t.2 = h1 ∧ am_ret 2 (am_at kX7_refuse) t.1 = some (some (.int r))) ((0, [some (.ref a0), some (.int a1)], []), h)
  refine am_G.fr 4 (g := (5, [some (.ref a0), some (.int a1)], [.ref a0, .int ((16 : Int32)), .int a1, .ref a0])) rfl ?_
  obtain ⟨place1, e2, H⟩ := am_bd H
  refine am_G.gI rfl e2 ?_
  refine am_G.fr 2 (g := (10, [some (.ref a0), some (.int a1)], [.int (a1 + (((16 : Int32)) * place1)), .ref a0])) rfl ?_
  obtain ⟨hh3, e4, H⟩ := am_bd H
  refine am_G.pF rfl e4 ?_
  refine am_G.fr 1 (g := (14, [some (.ref a0), some (.int a1)], [.int ((0 : Int32))])) rfl ?_
  obtain ⟨rfl, rfl⟩ := am_inj2 H
  exact am_G.nd ⟨rfl, am_ret2 rfl (if_pos (by decide))⟩
def fX7_isSign (a0 : Int32) (h : am_H) : Option (Int32) :=
  if a0.toInt < 40 ∨ 61 < a0.toInt then
    some ((0 : Int32))
  else (some (a0.toInt - 40).toNat).bind fun k2 =>
  if k2 = 0 then
    some ((1 : Int32))
  else if k2 = 1 then
    some ((1 : Int32))
  else if k2 = 2 then
    some ((1 : Int32))
  else if k2 = 3 then
    some ((1 : Int32))
  else if k2 = 4 then
    some ((0 : Int32))
  else if k2 = 5 then
    some ((1 : Int32))
  else if k2 = 6 then
    some ((0 : Int32))
  else if k2 = 7 then
    some ((0 : Int32))
  else if k2 = 8 then
    some ((0 : Int32))
  else if k2 = 9 then
    some ((0 : Int32))
  else if k2 = 10 then
    some ((0 : Int32))
  else if k2 = 11 then
    some ((0 : Int32))
  else if k2 = 12 then
    some ((0 : Int32))
  else if k2 = 13 then
    some ((0 : Int32))
  else if k2 = 14 then
    some ((0 : Int32))
  else if k2 = 15 then
    some ((0 : Int32))
  else if k2 = 16 then
    some ((0 : Int32))
  else if k2 = 17 then
    some ((0 : Int32))
  else if k2 = 18 then
    some ((0 : Int32))
  else if k2 = 19 then
    some ((1 : Int32))
  else if k2 = 20 then
    some ((1 : Int32))
  else if k2 = 21 then
    some ((1 : Int32))
  else none
set_option maxHeartbeats 4000000 in
set_option maxRecDepth 100000 in
theorem lX7_isSign {sc : Nat × (Nat → Int32)} {a0 : Int32} {h : am_H} {r : Int32} (H : fX7_isSign a0 h = some r) : am_Cl am_T am_N sc 1 62 [.int a0] h (some (.int r)) h := by
  unfold fX7_isSign at H
  refine am_mk (q := qX7_isSign) rfl (fun z => absurd z (by decide)) (fun z => absurd z (by decide)) (Nat.le_of_ble_eq_true rfl) rfl ?_
  show am_G sc (am_Cl am_T am_N sc 0) (am_at kX7_isSign) (fun t => t.2 = h ∧ am_ret 2 (am_at kX7_isSign) t.1 = some (some (.int r))) ((0, [some (.int a0)], []), h)
  refine am_G.fr 1 (g := (1, [some (.int a0)], [.int a0])) rfl ?_
  by_cases c1 : a0.toInt < 40 ∨ 61 < a0.toInt
  · rw [if_pos c1] at H
    refine am_G.swD (tgt := 106) rfl c1 rfl ?_
    refine am_G.fr 1 (g := (107, [some (.int a0)], [.int ((0 : Int32))])) rfl ?_
    obtain rfl := Option.some.inj H
    exact am_G.nd ⟨rfl, am_ret2 rfl (if_pos (by decide))⟩
  · rw [if_neg c1] at H
    obtain ⟨k2, e3, H⟩ := am_bd H
    by_cases c4 : k2 = 0
    · rw [if_pos c4] at H
      refine am_G.sw (tgt := 104) (k0 := 0) rfl c1 ((Option.some.inj e3).trans c4) rfl rfl ?_
      refine am_G.fr 1 (g := (105, [some (.int a0)], [.int ((1 : Int32))])) rfl ?_
      obtain rfl := Option.some.inj H
      exact am_G.nd ⟨rfl, am_ret2 rfl (if_pos (by decide))⟩
    · rw [if_neg c4] at H
      by_cases c5 : k2 = 1
      · rw [if_pos c5] at H
        refine am_G.sw (tgt := 104) (k0 := 1) rfl c1 ((Option.some.inj e3).trans c5) rfl rfl ?_
        refine am_G.fr 1 (g := (105, [some (.int a0)], [.int ((1 : Int32))])) rfl ?_
        obtain rfl := Option.some.inj H
        exact am_G.nd ⟨rfl, am_ret2 rfl (if_pos (by decide))⟩
      · rw [if_neg c5] at H
        by_cases c6 : k2 = 2
        · rw [if_pos c6] at H
          refine am_G.sw (tgt := 104) (k0 := 2) rfl c1 ((Option.some.inj e3).trans c6) rfl rfl ?_
          refine am_G.fr 1 (g := (105, [some (.int a0)], [.int ((1 : Int32))])) rfl ?_
          obtain rfl := Option.some.inj H
          exact am_G.nd ⟨rfl, am_ret2 rfl (if_pos (by decide))⟩
        · rw [if_neg c6] at H
          by_cases c7 : k2 = 3
          · rw [if_pos c7] at H
            refine am_G.sw (tgt := 104) (k0 := 3) rfl c1 ((Option.some.inj e3).trans c7) rfl rfl ?_
            refine am_G.fr 1 (g := (105, [some (.int a0)], [.int ((1 : Int32))])) rfl ?_
            obtain rfl := Option.some.inj H
            exact am_G.nd ⟨rfl, am_ret2 rfl (if_pos (by decide))⟩
          · rw [if_neg c7] at H
            by_cases c8 : k2 = 4
            · rw [if_pos c8] at H
              refine am_G.sw (tgt := 106) (k0 := 4) rfl c1 ((Option.some.inj e3).trans c8) rfl rfl ?_
              refine am_G.fr 1 (g := (107, [some (.int a0)], [.int ((0 : Int32))])) rfl ?_
              obtain rfl := Option.some.inj H
              exact am_G.nd ⟨rfl, am_ret2 rfl (if_pos (by decide))⟩
            · rw [if_neg c8] at H
              by_cases c9 : k2 = 5
              · rw [if_pos c9] at H
                refine am_G.sw (tgt := 104) (k0 := 5) rfl c1 ((Option.some.inj e3).trans c9) rfl rfl ?_
                refine am_G.fr 1 (g := (105, [some (.int a0)], [.int ((1 : Int32))])) rfl ?_
                obtain rfl := Option.some.inj H
                exact am_G.nd ⟨rfl, am_ret2 rfl (if_pos (by decide))⟩
              · rw [if_neg c9] at H
                by_cases c10 : k2 = 6
                · rw [if_pos c10] at H
                  refine am_G.sw (tgt := 106) (k0 := 6) rfl c1 ((Option.some.inj e3).trans c10) rfl rfl ?_
                  refine am_G.fr 1 (g := (107, [some (.int a0)], [.int ((0 : Int32))])) rfl ?_
                  obtain rfl := Option.some.inj H
                  exact am_G.nd ⟨rfl, am_ret2 rfl (if_pos (by decide))⟩
                · rw [if_neg c10] at H
                  by_cases c11 : k2 = 7
                  · rw [if_pos c11] at H
                    refine am_G.sw (tgt := 106) (k0 := 7) rfl c1 ((Option.some.inj e3).trans c11) rfl rfl ?_
                    refine am_G.fr 1 (g := (107, [some (.int a0)], [.int ((0 : Int32))])) rfl ?_
                    obtain rfl := Option.some.inj H
                    exact am_G.nd ⟨rfl, am_ret2 rfl (if_pos (by decide))⟩
                  · rw [if_neg c11] at H
                    by_cases c12 : k2 = 8
                    · rw [if_pos c12] at H
                      refine am_G.sw (tgt := 106) (k0 := 8) rfl c1 ((Option.some.inj e3).trans c12) rfl rfl ?_
                      refine am_G.fr 1 (g := (107, [some (.int a0)], [.int ((0 : Int32))])) rfl ?_
                      obtain rfl := Option.some.inj H
                      exact am_G.nd ⟨rfl, am_ret2 rfl (if_pos (by decide))⟩
                    · rw [if_neg c12] at H
                      by_cases c13 : k2 = 9
                      · rw [if_pos c13] at H
                        refine am_G.sw (tgt := 106) (k0 := 9) rfl c1 ((Option.some.inj e3).trans c13) rfl rfl ?_
                        refine am_G.fr 1 (g := (107, [some (.int a0)], [.int ((0 : Int32))])) rfl ?_
                        obtain rfl := Option.some.inj H
                        exact am_G.nd ⟨rfl, am_ret2 rfl (if_pos (by decide))⟩
                      · rw [if_neg c13] at H
                        by_cases c14 : k2 = 10
                        · rw [if_pos c14] at H
                          refine am_G.sw (tgt := 106) (k0 := 10) rfl c1 ((Option.some.inj e3).trans c14) rfl rfl ?_
                          refine am_G.fr 1 (g := (107, [some (.int a0)], [.int ((0 : Int32))])) rfl ?_
                          obtain rfl := Option.some.inj H
                          exact am_G.nd ⟨rfl, am_ret2 rfl (if_pos (by decide))⟩
                        · rw [if_neg c14] at H
                          by_cases c15 : k2 = 11
                          · rw [if_pos c15] at H
                            refine am_G.sw (tgt := 106) (k0 := 11) rfl c1 ((Option.some.inj e3).trans c15) rfl rfl ?_
                            refine am_G.fr 1 (g := (107, [some (.int a0)], [.int ((0 : Int32))])) rfl ?_
                            obtain rfl := Option.some.inj H
                            exact am_G.nd ⟨rfl, am_ret2 rfl (if_pos (by decide))⟩
                          · rw [if_neg c15] at H
                            by_cases c16 : k2 = 12
                            · rw [if_pos c16] at H
                              refine am_G.sw (tgt := 106) (k0 := 12) rfl c1 ((Option.some.inj e3).trans c16) rfl rfl ?_
                              refine am_G.fr 1 (g := (107, [some (.int a0)], [.int ((0 : Int32))])) rfl ?_
                              obtain rfl := Option.some.inj H
                              exact am_G.nd ⟨rfl, am_ret2 rfl (if_pos (by decide))⟩
                            · rw [if_neg c16] at H
                              by_cases c17 : k2 = 13
                              · rw [if_pos c17] at H
                                refine am_G.sw (tgt := 106) (k0 := 13) rfl c1 ((Option.some.inj e3).trans c17) rfl rfl ?_
                                refine am_G.fr 1 (g := (107, [some (.int a0)], [.int ((0 : Int32))])) rfl ?_
                                obtain rfl := Option.some.inj H
                                exact am_G.nd ⟨rfl, am_ret2 rfl (if_pos (by decide))⟩
                              · rw [if_neg c17] at H
                                by_cases c18 : k2 = 14
                                · rw [if_pos c18] at H
                                  refine am_G.sw (tgt := 106) (k0 := 14) rfl c1 ((Option.some.inj e3).trans c18) rfl rfl ?_
                                  refine am_G.fr 1 (g := (107, [some (.int a0)], [.int ((0 : Int32))])) rfl ?_
                                  obtain rfl := Option.some.inj H
                                  exact am_G.nd ⟨rfl, am_ret2 rfl (if_pos (by decide))⟩
                                · rw [if_neg c18] at H
                                  by_cases c19 : k2 = 15
                                  · rw [if_pos c19] at H
                                    refine am_G.sw (tgt := 106) (k0 := 15) rfl c1 ((Option.some.inj e3).trans c19) rfl rfl ?_
                                    refine am_G.fr 1 (g := (107, [some (.int a0)], [.int ((0 : Int32))])) rfl ?_
                                    obtain rfl := Option.some.inj H
                                    exact am_G.nd ⟨rfl, am_ret2 rfl (if_pos (by decide))⟩
                                  · rw [if_neg c19] at H
                                    by_cases c20 : k2 = 16
                                    · rw [if_pos c20] at H
                                      refine am_G.sw (tgt := 106) (k0 := 16) rfl c1 ((Option.some.inj e3).trans c20) rfl rfl ?_
                                      refine am_G.fr 1 (g := (107, [some (.int a0)], [.int ((0 : Int32))])) rfl ?_
                                      obtain rfl := Option.some.inj H
                                      exact am_G.nd ⟨rfl, am_ret2 rfl (if_pos (by decide))⟩
                                    · rw [if_neg c20] at H
                                      by_cases c21 : k2 = 17
                                      · rw [if_pos c21] at H
                                        refine am_G.sw (tgt := 106) (k0 := 17) rfl c1 ((Option.some.inj e3).trans c21) rfl rfl ?_
                                        refine am_G.fr 1 (g := (107, [some (.int a0)], [.int ((0 : Int32))])) rfl ?_
                                        obtain rfl := Option.some.inj H
                                        exact am_G.nd ⟨rfl, am_ret2 rfl (if_pos (by decide))⟩
                                      · rw [if_neg c21] at H
                                        by_cases c22 : k2 = 18
                                        · rw [if_pos c22] at H
                                          refine am_G.sw (tgt := 106) (k0 := 18) rfl c1 ((Option.some.inj e3).trans c22) rfl rfl ?_
                                          refine am_G.fr 1 (g := (107, [some (.int a0)], [.int ((0 : Int32))])) rfl ?_
                                          obtain rfl := Option.some.inj H
                                          exact am_G.nd ⟨rfl, am_ret2 rfl (if_pos (by decide))⟩
                                        · rw [if_neg c22] at H
                                          by_cases c23 : k2 = 19
                                          · rw [if_pos c23] at H
                                            refine am_G.sw (tgt := 104) (k0 := 19) rfl c1 ((Option.some.inj e3).trans c23) rfl rfl ?_
                                            refine am_G.fr 1 (g := (105, [some (.int a0)], [.int ((1 : Int32))])) rfl ?_
                                            obtain rfl := Option.some.inj H
                                            exact am_G.nd ⟨rfl, am_ret2 rfl (if_pos (by decide))⟩
                                          · rw [if_neg c23] at H
                                            by_cases c24 : k2 = 20
                                            · rw [if_pos c24] at H
                                              refine am_G.sw (tgt := 104) (k0 := 20) rfl c1 ((Option.some.inj e3).trans c24) rfl rfl ?_
                                              refine am_G.fr 1 (g := (105, [some (.int a0)], [.int ((1 : Int32))])) rfl ?_
                                              obtain rfl := Option.some.inj H
                                              exact am_G.nd ⟨rfl, am_ret2 rfl (if_pos (by decide))⟩
                                            · rw [if_neg c24] at H
                                              by_cases c25 : k2 = 21
                                              · rw [if_pos c25] at H
                                                refine am_G.sw (tgt := 104) (k0 := 21) rfl c1 ((Option.some.inj e3).trans c25) rfl rfl ?_
                                                refine am_G.fr 1 (g := (105, [some (.int a0)], [.int ((1 : Int32))])) rfl ?_
                                                obtain rfl := Option.some.inj H
                                                exact am_G.nd ⟨rfl, am_ret2 rfl (if_pos (by decide))⟩
                                              · rw [if_neg c25] at H
                                                cases H
def fX7_scanNumber_L5 : Nat → Nat → am_H → Option (am_H)
  | 0, _, _ => none
  | n + 1, v0, h =>
    (am_gI h v0 6 3).bind fun behind3 =>
    (am_gI h v0 6 1).bind fun length5 =>
    if length5 ≤ behind3 then
      some h
    else
      (am_gR h v0 6 0).bind fun signs8 =>
      (am_gI h v0 6 3).bind fun behind10 =>
      (am_aI h 2 signs8 behind10).bind fun x12 =>
      if x12 < ((48 : Int32)) then
        some h
      else
        (am_gR h v0 6 0).bind fun signs15 =>
        (am_gI h v0 6 3).bind fun behind17 =>
        (am_aI h 2 signs15 behind17).bind fun x19 =>
        if ((57 : Int32)) < x19 then
          some h
        else
          (am_gI h v0 6 5).bind fun number22 =>
          (am_gR h v0 6 0).bind fun signs24 =>
          (am_gI h v0 6 3).bind fun behind26 =>
          (am_aI h 2 signs24 behind26).bind fun x28 =>
          (am_pF h v0 6 5 (.int ((number22 * ((10 : Int32))) + (x28 - ((48 : Int32)))))).bind fun hh30 =>
          (am_gI hh30 v0 6 3).bind fun behind32 =>
          (am_pF hh30 v0 6 3 (.int (behind32 + ((1 : Int32))))).bind fun hh34 =>
          fX7_scanNumber_L5 n v0 hh34
def fX7_scanNumber (a0 : Nat) (h : am_H) : Option (am_H) :=
  (am_isO h a0 6).bind fun _ =>
  (am_pF h a0 6 5 (.int ((0 : Int32)))).bind fun hh1 =>
  Option.bind (fX7_scanNumber_L5 4000 a0 hh1) fun hh36 =>
  (am_gI hh36 a0 6 3).bind fun behind38 =>
  (am_gI hh36 a0 6 2).bind fun place40 =>
  Option.bind (
    if ((4 : Int32)) < (behind38 - place40) then
      some ((4 : Int32))
    else
      some ((2 : Int32))) fun js42 =>
  (am_pF hh36 a0 6 4 (.int js42)).bind fun hh44 =>
  some hh44
set_option maxHeartbeats 4000000 in
set_option maxRecDepth 100000 in
theorem lX7_scanNumber_L5 {sc : Nat × (Nat → Int32)} : ∀ (n : Nat) (v0 : Nat) (h : am_H) (h1 : am_H), fX7_scanNumber_L5 n v0 h = some h1 → am_G sc (am_Cl am_T am_N sc 0) (am_at kX7_scanNumber) (fun t => t = ((81, [some (.ref v0)], []), h1)) ((5, [some (.ref v0)], []), h) := by
  intro n
  induction n with
  | zero => intro _ _ _ H; cases H
  | succ n ih =>
    intro v0 h h1 H
    rw [fX7_scanNumber_L5] at H
    refine am_G.fr 1 (g := (6, [some (.ref v0)], [.ref v0])) rfl ?_
    obtain ⟨behind3, e4, H⟩ := am_bd H
    refine am_G.gI rfl e4 ?_
    refine am_G.fr 1 (g := (10, [some (.ref v0)], [.ref v0, .int behind3])) rfl ?_
    obtain ⟨length5, e6, H⟩ := am_bd H
    refine am_G.gI rfl e6 ?_
    by_cases c7 : length5 ≤ behind3
    · rw [if_pos c7] at H
      refine am_G.br (tgt := 81) rfl rfl (if_pos c7) rfl ?_
      obtain rfl := Option.some.inj H
      exact am_G.nd rfl
    · rw [if_neg c7] at H
      refine am_G.br (tgt := 16) rfl rfl (if_neg c7) rfl ?_
      refine am_G.fr 1 (g := (17, [some (.ref v0)], [.ref v0])) rfl ?_
      obtain ⟨signs8, e9, H⟩ := am_bd H
      refine am_G.gR rfl e9 ?_
      refine am_G.fr 1 (g := (21, [some (.ref v0)], [.ref v0, .ref signs8])) rfl ?_
      obtain ⟨behind10, e11, H⟩ := am_bd H
      refine am_G.gI rfl e11 ?_
      obtain ⟨x12, e13, H⟩ := am_bd H
      refine am_G.aB rfl e13 ?_
      refine am_G.fr 1 (g := (27, [some (.ref v0)], [.int ((48 : Int32)), .int x12])) rfl ?_
      by_cases c14 : x12 < ((48 : Int32))
      · rw [if_pos c14] at H
        refine am_G.br (tgt := 81) rfl rfl (if_pos c14) rfl ?_
        obtain rfl := Option.some.inj H
        exact am_G.nd rfl
      · rw [if_neg c14] at H
        refine am_G.br (tgt := 30) rfl rfl (if_neg c14) rfl ?_
        refine am_G.fr 1 (g := (31, [some (.ref v0)], [.ref v0])) rfl ?_
        obtain ⟨signs15, e16, H⟩ := am_bd H
        refine am_G.gR rfl e16 ?_
        refine am_G.fr 1 (g := (35, [some (.ref v0)], [.ref v0, .ref signs15])) rfl ?_
        obtain ⟨behind17, e18, H⟩ := am_bd H
        refine am_G.gI rfl e18 ?_
        obtain ⟨x19, e20, H⟩ := am_bd H
        refine am_G.aB rfl e20 ?_
        refine am_G.fr 1 (g := (41, [some (.ref v0)], [.int ((57 : Int32)), .int x19])) rfl ?_
        by_cases c21 : ((57 : Int32)) < x19
        · rw [if_pos c21] at H
          refine am_G.br (tgt := 81) rfl rfl (if_pos c21) rfl ?_
          obtain rfl := Option.some.inj H
          exact am_G.nd rfl
        · rw [if_neg c21] at H
          refine am_G.br (tgt := 44) rfl rfl (if_neg c21) rfl ?_
          refine am_G.fr 2 (g := (46, [some (.ref v0)], [.ref v0, .ref v0])) rfl ?_
          obtain ⟨number22, e23, H⟩ := am_bd H
          refine am_G.gI rfl e23 ?_
          refine am_G.fr 3 (g := (53, [some (.ref v0)], [.ref v0, .int (number22 * ((10 : Int32))), .ref v0])) rfl ?_
          obtain ⟨signs24, e25, H⟩ := am_bd H
          refine am_G.gR rfl e25 ?_
          refine am_G.fr 1 (g := (57, [some (.ref v0)], [.ref v0, .ref signs24, .int (number22 * ((10 : Int32))), .ref v0])) rfl ?_
          obtain ⟨behind26, e27, H⟩ := am_bd H
          refine am_G.gI rfl e27 ?_
          obtain ⟨x28, e29, H⟩ := am_bd H
          refine am_G.aB rfl e29 ?_
          refine am_G.fr 3 (g := (65, [some (.ref v0)], [.int ((number22 * ((10 : Int32))) + (x28 - ((48 : Int32)))), .ref v0])) rfl ?_
          obtain ⟨hh30, e31, H⟩ := am_bd H
          refine am_G.pF rfl e31 ?_
          refine am_G.fr 2 (g := (70, [some (.ref v0)], [.ref v0, .ref v0])) rfl ?_
          obtain ⟨behind32, e33, H⟩ := am_bd H
          refine am_G.gI rfl e33 ?_
          refine am_G.fr 2 (g := (75, [some (.ref v0)], [.int (behind32 + ((1 : Int32))), .ref v0])) rfl ?_
          obtain ⟨hh34, e35, H⟩ := am_bd H
          refine am_G.pF rfl e35 ?_
          refine am_G.fr 1 (g := (5, [some (.ref v0)], [])) rfl ?_
          exact ih _ _ _ H
set_option maxHeartbeats 4000000 in
set_option maxRecDepth 100000 in
theorem lX7_scanNumber {sc : Nat × (Nat → Int32)} {a0 : Nat} {h : am_H} {h1 : am_H} (H : fX7_scanNumber a0 h = some h1) : am_Cl am_T am_N sc 1 61 [.ref a0] h none h1 := by
  unfold fX7_scanNumber at H
  obtain ⟨_, hO, H⟩ := am_bd H
  obtain ⟨fs0, hO⟩ := am_isO_ok hO
  refine am_mk (q := qX7_scanNumber) rfl (fun _ => ⟨_, _, _, _, _, rfl, hO, rfl, rfl⟩) (fun z => absurd z (by decide)) (Nat.le_of_ble_eq_true rfl) rfl ?_
  show am_G sc (am_Cl am_T am_N sc 0) (am_at kX7_scanNumber) (fun t => t.2 = h1 ∧ am_ret 0 (am_at kX7_scanNumber) t.1 = some none) ((0, [some (.ref a0)], []), h)
  refine am_G.fr 2 (g := (2, [some (.ref a0)], [.int ((0 : Int32)), .ref a0])) rfl ?_
  obtain ⟨hh1, e2, H⟩ := am_bd H
  refine am_G.pF rfl e2 ?_
  obtain ⟨hh36, E37, H⟩ := am_bd H
  refine am_G.sq (lX7_scanNumber_L5 _ _ _ _ E37) ?_
  clear E37
  refine am_G.fr 2 (g := (83, [some (.ref a0)], [.ref a0, .ref a0])) rfl ?_
  obtain ⟨behind38, e39, H⟩ := am_bd H
  refine am_G.gI rfl e39 ?_
  refine am_G.fr 1 (g := (87, [some (.ref a0)], [.ref a0, .int behind38, .ref a0])) rfl ?_
  obtain ⟨place40, e41, H⟩ := am_bd H
  refine am_G.gI rfl e41 ?_
  refine am_G.fr 2 (g := (92, [some (.ref a0)], [.int ((4 : Int32)), .int (behind38 - place40), .ref a0])) rfl ?_
  obtain ⟨js42, E46, H⟩ := am_bd H
  refine am_G.sq (t := ((100, [none], [.int js42, .ref a0]), hh36)) ?_ ?_
  · clear H
    have H := E46
    clear E46
    by_cases c43 : ((4 : Int32)) < (behind38 - place40)
    · rw [if_pos c43] at H
      refine am_G.br (tgt := 99) rfl rfl (if_pos c43) rfl ?_
      refine am_G.fr 1 (g := (100, [some (.ref a0)], [.int ((4 : Int32)), .ref a0])) rfl ?_
      obtain rfl := Option.some.inj H
      refine am_G.fg [none] (by simp only [am_sub, and_self]) ?_
      exact am_G.nd rfl
    · rw [if_neg c43] at H
      refine am_G.br (tgt := 95) rfl rfl (if_neg c43) rfl ?_
      refine am_G.fr 2 (g := (100, [some (.ref a0)], [.int ((2 : Int32)), .ref a0])) rfl ?_
      obtain rfl := Option.some.inj H
      refine am_G.fg [none] (by simp only [am_sub, and_self]) ?_
      exact am_G.nd rfl
  · clear E46
    obtain ⟨hh44, e45, H⟩ := am_bd H
    refine am_G.pF rfl e45 ?_
    obtain rfl := Option.some.inj H
    exact am_G.nd ⟨rfl, rfl⟩
def fX7_scanWord_L5 : Nat → Nat → am_H → Option (am_H)
  | 0, _, _ => none
  | n + 1, v0, h =>
    (am_gI h v0 6 3).bind fun behind3 =>
    (am_gI h v0 6 1).bind fun length5 =>
    if length5 ≤ behind3 then
      some h
    else
      (am_gR h v0 6 0).bind fun signs8 =>
      (am_gI h v0 6 3).bind fun behind10 =>
      (am_aI h 2 signs8 behind10).bind fun x12 =>
      if x12 < ((97 : Int32)) then
        some h
      else
        (am_gR h v0 6 0).bind fun signs15 =>
        (am_gI h v0 6 3).bind fun behind17 =>
        (am_aI h 2 signs15 behind17).bind fun x19 =>
        if ((122 : Int32)) < x19 then
          some h
        else
          (am_gL h v0 6 6).bind fun word22 =>
          (am_gR h v0 6 0).bind fun signs24 =>
          (am_gI h v0 6 3).bind fun behind26 =>
          (am_aI h 2 signs24 behind26).bind fun x28 =>
          (am_pF h v0 6 6 (.long ((word22 * ((32 : Int64))) + (((x28 - ((97 : Int32))) + ((1 : Int32))).toInt64)))).bind fun hh30 =>
          (am_gI hh30 v0 6 3).bind fun behind32 =>
          (am_pF hh30 v0 6 3 (.int (behind32 + ((1 : Int32))))).bind fun hh34 =>
          fX7_scanWord_L5 n v0 hh34
def fX7_scanWord (a0 : Nat) (h : am_H) : Option (am_H) :=
  (am_isO h a0 6).bind fun _ =>
  (am_pF h a0 6 6 (.long ((0 : Int64)))).bind fun hh1 =>
  Option.bind (fX7_scanWord_L5 4000 a0 hh1) fun hh36 =>
  (am_gI hh36 a0 6 3).bind fun behind38 =>
  (am_gI hh36 a0 6 2).bind fun place40 =>
  Option.bind (
    if ((8 : Int32)) < (behind38 - place40) then
      some ((4 : Int32))
    else
      some ((1 : Int32))) fun js42 =>
  (am_pF hh36 a0 6 4 (.int js42)).bind fun hh44 =>
  some hh44
set_option maxHeartbeats 4000000 in
set_option maxRecDepth 100000 in
theorem lX7_scanWord_L5 {sc : Nat × (Nat → Int32)} : ∀ (n : Nat) (v0 : Nat) (h : am_H) (h1 : am_H), fX7_scanWord_L5 n v0 h = some h1 → am_G sc (am_Cl am_T am_N sc 0) (am_at kX7_scanWord) (fun t => t = ((85, [some (.ref v0)], []), h1)) ((5, [some (.ref v0)], []), h) := by
  intro n
  induction n with
  | zero => intro _ _ _ H; cases H
  | succ n ih =>
    intro v0 h h1 H
    rw [fX7_scanWord_L5] at H
    refine am_G.fr 1 (g := (6, [some (.ref v0)], [.ref v0])) rfl ?_
    obtain ⟨behind3, e4, H⟩ := am_bd H
    refine am_G.gI rfl e4 ?_
    refine am_G.fr 1 (g := (10, [some (.ref v0)], [.ref v0, .int behind3])) rfl ?_
    obtain ⟨length5, e6, H⟩ := am_bd H
    refine am_G.gI rfl e6 ?_
    by_cases c7 : length5 ≤ behind3
    · rw [if_pos c7] at H
      refine am_G.br (tgt := 85) rfl rfl (if_pos c7) rfl ?_
      obtain rfl := Option.some.inj H
      exact am_G.nd rfl
    · rw [if_neg c7] at H
      refine am_G.br (tgt := 16) rfl rfl (if_neg c7) rfl ?_
      refine am_G.fr 1 (g := (17, [some (.ref v0)], [.ref v0])) rfl ?_
      obtain ⟨signs8, e9, H⟩ := am_bd H
      refine am_G.gR rfl e9 ?_
      refine am_G.fr 1 (g := (21, [some (.ref v0)], [.ref v0, .ref signs8])) rfl ?_
      obtain ⟨behind10, e11, H⟩ := am_bd H
      refine am_G.gI rfl e11 ?_
      obtain ⟨x12, e13, H⟩ := am_bd H
      refine am_G.aB rfl e13 ?_
      refine am_G.fr 1 (g := (27, [some (.ref v0)], [.int ((97 : Int32)), .int x12])) rfl ?_
      by_cases c14 : x12 < ((97 : Int32))
      · rw [if_pos c14] at H
        refine am_G.br (tgt := 85) rfl rfl (if_pos c14) rfl ?_
        obtain rfl := Option.some.inj H
        exact am_G.nd rfl
      · rw [if_neg c14] at H
        refine am_G.br (tgt := 30) rfl rfl (if_neg c14) rfl ?_
        refine am_G.fr 1 (g := (31, [some (.ref v0)], [.ref v0])) rfl ?_
        obtain ⟨signs15, e16, H⟩ := am_bd H
        refine am_G.gR rfl e16 ?_
        refine am_G.fr 1 (g := (35, [some (.ref v0)], [.ref v0, .ref signs15])) rfl ?_
        obtain ⟨behind17, e18, H⟩ := am_bd H
        refine am_G.gI rfl e18 ?_
        obtain ⟨x19, e20, H⟩ := am_bd H
        refine am_G.aB rfl e20 ?_
        refine am_G.fr 1 (g := (41, [some (.ref v0)], [.int ((122 : Int32)), .int x19])) rfl ?_
        by_cases c21 : ((122 : Int32)) < x19
        · rw [if_pos c21] at H
          refine am_G.br (tgt := 85) rfl rfl (if_pos c21) rfl ?_
          obtain rfl := Option.some.inj H
          exact am_G.nd rfl
        · rw [if_neg c21] at H
          refine am_G.br (tgt := 44) rfl rfl (if_neg c21) rfl ?_
          refine am_G.fr 2 (g := (46, [some (.ref v0)], [.ref v0, .ref v0])) rfl ?_
          obtain ⟨word22, e23, H⟩ := am_bd H
          refine am_G.gL rfl e23 ?_
          refine am_G.fr 3 (g := (54, [some (.ref v0)], [.ref v0, .long (word22 * ((32 : Int64))), .ref v0])) rfl ?_
          obtain ⟨signs24, e25, H⟩ := am_bd H
          refine am_G.gR rfl e25 ?_
          refine am_G.fr 1 (g := (58, [some (.ref v0)], [.ref v0, .ref signs24, .long (word22 * ((32 : Int64))), .ref v0])) rfl ?_
          obtain ⟨behind26, e27, H⟩ := am_bd H
          refine am_G.gI rfl e27 ?_
          obtain ⟨x28, e29, H⟩ := am_bd H
          refine am_G.aB rfl e29 ?_
          refine am_G.fr 6 (g := (69, [some (.ref v0)], [.long ((word22 * ((32 : Int64))) + (((x28 - ((97 : Int32))) + ((1 : Int32))).toInt64)), .ref v0])) rfl ?_
          obtain ⟨hh30, e31, H⟩ := am_bd H
          refine am_G.pF rfl e31 ?_
          refine am_G.fr 2 (g := (74, [some (.ref v0)], [.ref v0, .ref v0])) rfl ?_
          obtain ⟨behind32, e33, H⟩ := am_bd H
          refine am_G.gI rfl e33 ?_
          refine am_G.fr 2 (g := (79, [some (.ref v0)], [.int (behind32 + ((1 : Int32))), .ref v0])) rfl ?_
          obtain ⟨hh34, e35, H⟩ := am_bd H
          refine am_G.pF rfl e35 ?_
          refine am_G.fr 1 (g := (5, [some (.ref v0)], [])) rfl ?_
          exact ih _ _ _ H
set_option maxHeartbeats 4000000 in
set_option maxRecDepth 100000 in
theorem lX7_scanWord {sc : Nat × (Nat → Int32)} {a0 : Nat} {h : am_H} {h1 : am_H} (H : fX7_scanWord a0 h = some h1) : am_Cl am_T am_N sc 1 60 [.ref a0] h none h1 := by
  unfold fX7_scanWord at H
  obtain ⟨_, hO, H⟩ := am_bd H
  obtain ⟨fs0, hO⟩ := am_isO_ok hO
  refine am_mk (q := qX7_scanWord) rfl (fun _ => ⟨_, _, _, _, _, rfl, hO, rfl, rfl⟩) (fun z => absurd z (by decide)) (Nat.le_of_ble_eq_true rfl) rfl ?_
  show am_G sc (am_Cl am_T am_N sc 0) (am_at kX7_scanWord) (fun t => t.2 = h1 ∧ am_ret 0 (am_at kX7_scanWord) t.1 = some none) ((0, [some (.ref a0)], []), h)
  refine am_G.fr 2 (g := (2, [some (.ref a0)], [.long ((0 : Int64)), .ref a0])) rfl ?_
  obtain ⟨hh1, e2, H⟩ := am_bd H
  refine am_G.pF rfl e2 ?_
  obtain ⟨hh36, E37, H⟩ := am_bd H
  refine am_G.sq (lX7_scanWord_L5 _ _ _ _ E37) ?_
  clear E37
  refine am_G.fr 2 (g := (87, [some (.ref a0)], [.ref a0, .ref a0])) rfl ?_
  obtain ⟨behind38, e39, H⟩ := am_bd H
  refine am_G.gI rfl e39 ?_
  refine am_G.fr 1 (g := (91, [some (.ref a0)], [.ref a0, .int behind38, .ref a0])) rfl ?_
  obtain ⟨place40, e41, H⟩ := am_bd H
  refine am_G.gI rfl e41 ?_
  refine am_G.fr 2 (g := (97, [some (.ref a0)], [.int ((8 : Int32)), .int (behind38 - place40), .ref a0])) rfl ?_
  obtain ⟨js42, E46, H⟩ := am_bd H
  refine am_G.sq (t := ((105, [none], [.int js42, .ref a0]), hh36)) ?_ ?_
  · clear H
    have H := E46
    clear E46
    by_cases c43 : ((8 : Int32)) < (behind38 - place40)
    · rw [if_pos c43] at H
      refine am_G.br (tgt := 104) rfl rfl (if_pos c43) rfl ?_
      refine am_G.fr 1 (g := (105, [some (.ref a0)], [.int ((4 : Int32)), .ref a0])) rfl ?_
      obtain rfl := Option.some.inj H
      refine am_G.fg [none] (by simp only [am_sub, and_self]) ?_
      exact am_G.nd rfl
    · rw [if_neg c43] at H
      refine am_G.br (tgt := 100) rfl rfl (if_neg c43) rfl ?_
      refine am_G.fr 2 (g := (105, [some (.ref a0)], [.int ((1 : Int32)), .ref a0])) rfl ?_
      obtain rfl := Option.some.inj H
      refine am_G.fg [none] (by simp only [am_sub, and_self]) ?_
      exact am_G.nd rfl
  · clear E46
    obtain ⟨hh44, e45, H⟩ := am_bd H
    refine am_G.pF rfl e45 ?_
    obtain rfl := Option.some.inj H
    exact am_G.nd ⟨rfl, rfl⟩
def fX9_within (a0 : Int32) (a1 : Int32) (a2 : Int32) (h : am_H) : Option (Int32) :=
  Option.bind (
    if a0 < a1 then
      some ((0 : Int32))
    else
      if a2 < a0 then
        some ((0 : Int32))
      else
        some ((1 : Int32))) fun js1 =>
  (am_z01 js1).bind fun b4 =>
  some b4
set_option maxHeartbeats 4000000 in
set_option maxRecDepth 100000 in
theorem lX9_within {sc : Nat × (Nat → Int32)} {a0 : Int32} {a1 : Int32} {a2 : Int32} {h : am_H} {r : Int32} (H : fX9_within a0 a1 a2 h = some r) : am_Cl am_T am_N sc 1 131 [.int a0, .int a1, .int a2] h (some (.int r)) h := by
  unfold fX9_within at H
  refine am_mk (q := qX9_within) rfl (fun z => absurd z (by decide)) (fun z => absurd z (by decide)) (Nat.le_of_ble_eq_true rfl) rfl ?_
  show am_G sc (am_Cl am_T am_N sc 0) (am_at kX9_within) (fun t => t.2 = h ∧ am_ret 2 (am_at kX9_within) t.1 = some (some (.int r))) ((0, [some (.int a0), some (.int a1), some (.int a2)], []), h)
  refine am_G.fr 2 (g := (2, [some (.int a0), some (.int a1), some (.int a2)], [.int a1, .int a0])) rfl ?_
  obtain ⟨js1, E6, H⟩ := am_bd H
  refine am_G.sq (t := ((15, [none, none, none], [.int js1]), h)) ?_ ?_
  · clear H
    have H := E6
    clear E6
    by_cases c2 : a0 < a1
    · rw [if_pos c2] at H
      refine am_G.br (tgt := 14) rfl rfl (if_pos c2) rfl ?_
      refine am_G.fr 1 (g := (15, [some (.int a0), some (.int a1), some (.int a2)], [.int ((0 : Int32))])) rfl ?_
      obtain rfl := Option.some.inj H
      refine am_G.fg [none, none, none] (by simp only [am_sub, and_self]) ?_
      exact am_G.nd rfl
    · rw [if_neg c2] at H
      refine am_G.br (tgt := 5) rfl rfl (if_neg c2) rfl ?_
      refine am_G.fr 2 (g := (7, [some (.int a0), some (.int a1), some (.int a2)], [.int a2, .int a0])) rfl ?_
      by_cases c3 : a2 < a0
      · rw [if_pos c3] at H
        refine am_G.br (tgt := 14) rfl rfl (if_pos c3) rfl ?_
        refine am_G.fr 1 (g := (15, [some (.int a0), some (.int a1), some (.int a2)], [.int ((0 : Int32))])) rfl ?_
        obtain rfl := Option.some.inj H
        refine am_G.fg [none, none, none] (by simp only [am_sub, and_self]) ?_
        exact am_G.nd rfl
      · rw [if_neg c3] at H
        refine am_G.br (tgt := 10) rfl rfl (if_neg c3) rfl ?_
        refine am_G.fr 2 (g := (15, [some (.int a0), some (.int a1), some (.int a2)], [.int ((1 : Int32))])) rfl ?_
        obtain rfl := Option.some.inj H
        refine am_G.fg [none, none, none] (by simp only [am_sub, and_self]) ?_
        exact am_G.nd rfl
  · clear E6
    obtain ⟨b4, e5, H⟩ := am_bd H
    obtain rfl := Option.some.inj H
    exact am_G.nd ⟨rfl, am_ret2 rfl e5⟩
def fX7_step_L0 : Nat → Nat → am_H → Option (am_H)
  | 0, _, _ => none
  | n + 1, v0, h =>
    (am_gI h v0 6 3).bind fun behind1 =>
    (am_gI h v0 6 1).bind fun length3 =>
    if length3 ≤ behind1 then
      some h
    else
      (am_gR h v0 6 0).bind fun signs6 =>
      (am_gI h v0 6 3).bind fun behind8 =>
      (am_aI h 2 signs6 behind8).bind fun x10 =>
      if x10 = ((10 : Int32)) then
        (am_gI h v0 6 3).bind fun behind13 =>
        (am_pF h v0 6 3 (.int (behind13 + ((1 : Int32))))).bind fun hh15 =>
        fX7_step_L0 n v0 hh15
      else
        (am_gR h v0 6 0).bind fun signs17 =>
        (am_gI h v0 6 3).bind fun behind19 =>
        (am_aI h 2 signs17 behind19).bind fun x21 =>
        if ¬ x21 = ((32 : Int32)) then
          some h
        else
          (am_gI h v0 6 3).bind fun behind24 =>
          (am_pF h v0 6 3 (.int (behind24 + ((1 : Int32))))).bind fun hh26 =>
          fX7_step_L0 n v0 hh26
def fX7_step (a0 : Nat) (h : am_H) : Option (am_H) :=
  (am_isO h a0 6).bind fun _ =>
  Option.bind (fX7_step_L0 4000 a0 h) fun hh28 =>
  (am_gI hh28 a0 6 3).bind fun behind30 =>
  (am_pF hh28 a0 6 2 (.int behind30)).bind fun hh32 =>
  (am_gI hh32 a0 6 2).bind fun place34 =>
  (am_gI hh32 a0 6 1).bind fun length36 =>
  if place34 < length36 then
    (am_gR hh32 a0 6 0).bind fun signs39 =>
    (am_gI hh32 a0 6 2).bind fun place41 =>
    (am_aI hh32 2 signs39 place41).bind fun x43 =>
    (fX9_within x43 ((97 : Int32)) ((122 : Int32)) hh32).bind fun x46 =>
    Option.bind (
      if x46 = 0 then
        (fX9_within x43 ((48 : Int32)) ((57 : Int32)) hh32).bind fun x50 =>
        if x50 = 0 then
          (am_gI hh32 a0 6 3).bind fun behind52 =>
          (am_pF hh32 a0 6 3 (.int (behind52 + ((1 : Int32))))).bind fun hh54 =>
          (fX7_isSign x43 hh54).bind fun x57 =>
          Option.bind (
            if x57 = 0 then
              some ((4 : Int32))
            else
              some ((3 : Int32))) fun js58 =>
          (am_pF hh54 a0 6 4 (.int js58)).bind fun hh60 =>
          some hh60
        else
          (fX7_scanNumber a0 hh32).bind fun hh64 =>
          some hh64
      else
        (fX7_scanWord a0 hh32).bind fun hh66 =>
        some hh66) fun hh47 =>
    some hh47
  else
    (am_pF hh32 a0 6 4 (.int ((0 : Int32)))).bind fun hh68 =>
    some hh68
set_option maxHeartbeats 4000000 in
set_option maxRecDepth 100000 in
theorem lX7_step_L0 {sc : Nat × (Nat → Int32)} : ∀ (n : Nat) (v0 : Nat) (h : am_H) (h1 : am_H), fX7_step_L0 n v0 h = some h1 → am_G sc (am_Cl am_T am_N sc 1) (am_at kX7_step) (fun t => t = ((52, [some (.ref v0), none], []), h1)) ((0, [some (.ref v0), none], []), h) := by
  intro n
  induction n with
  | zero => intro _ _ _ H; cases H
  | succ n ih =>
    intro v0 h h1 H
    rw [fX7_step_L0] at H
    refine am_G.fr 1 (g := (1, [some (.ref v0), none], [.ref v0])) rfl ?_
    obtain ⟨behind1, e2, H⟩ := am_bd H
    refine am_G.gI rfl e2 ?_
    refine am_G.fr 1 (g := (5, [some (.ref v0), none], [.ref v0, .int behind1])) rfl ?_
    obtain ⟨length3, e4, H⟩ := am_bd H
    refine am_G.gI rfl e4 ?_
    by_cases c5 : length3 ≤ behind1
    · rw [if_pos c5] at H
      refine am_G.br (tgt := 52) rfl rfl (if_pos c5) rfl ?_
      obtain rfl := Option.some.inj H
      exact am_G.nd rfl
    · rw [if_neg c5] at H
      refine am_G.br (tgt := 11) rfl rfl (if_neg c5) rfl ?_
      refine am_G.fr 1 (g := (12, [some (.ref v0), none], [.ref v0])) rfl ?_
      obtain ⟨signs6, e7, H⟩ := am_bd H
      refine am_G.gR rfl e7 ?_
      refine am_G.fr 1 (g := (16, [some (.ref v0), none], [.ref v0, .ref signs6])) rfl ?_
      obtain ⟨behind8, e9, H⟩ := am_bd H
      refine am_G.gI rfl e9 ?_
      obtain ⟨x10, e11, H⟩ := am_bd H
      refine am_G.aB rfl e11 ?_
      refine am_G.fr 1 (g := (22, [some (.ref v0), none], [.int ((10 : Int32)), .int x10])) rfl ?_
      by_cases c12 : x10 = ((10 : Int32))
      · rw [if_pos c12] at H
        refine am_G.br (tgt := 39) rfl rfl (if_pos c12) rfl ?_
        refine am_G.fr 2 (g := (41, [some (.ref v0), none], [.ref v0, .ref v0])) rfl ?_
        obtain ⟨behind13, e14, H⟩ := am_bd H
        refine am_G.gI rfl e14 ?_
        refine am_G.fr 2 (g := (46, [some (.ref v0), none], [.int (behind13 + ((1 : Int32))), .ref v0])) rfl ?_
        obtain ⟨hh15, e16, H⟩ := am_bd H
        refine am_G.pF rfl e16 ?_
        refine am_G.fr 1 (g := (0, [some (.ref v0), none], [])) rfl ?_
        exact ih _ _ _ H
      · rw [if_neg c12] at H
        refine am_G.br (tgt := 25) rfl rfl (if_neg c12) rfl ?_
        refine am_G.fr 1 (g := (26, [some (.ref v0), none], [.ref v0])) rfl ?_
        obtain ⟨signs17, e18, H⟩ := am_bd H
        refine am_G.gR rfl e18 ?_
        refine am_G.fr 1 (g := (30, [some (.ref v0), none], [.ref v0, .ref signs17])) rfl ?_
        obtain ⟨behind19, e20, H⟩ := am_bd H
        refine am_G.gI rfl e20 ?_
        obtain ⟨x21, e22, H⟩ := am_bd H
        refine am_G.aB rfl e22 ?_
        refine am_G.fr 1 (g := (36, [some (.ref v0), none], [.int ((32 : Int32)), .int x21])) rfl ?_
        by_cases c23 : ¬ x21 = ((32 : Int32))
        · rw [if_pos c23] at H
          refine am_G.br (tgt := 52) rfl rfl (if_pos c23) rfl ?_
          obtain rfl := Option.some.inj H
          exact am_G.nd rfl
        · rw [if_neg c23] at H
          refine am_G.br (tgt := 39) rfl rfl (if_neg c23) rfl ?_
          refine am_G.fr 2 (g := (41, [some (.ref v0), none], [.ref v0, .ref v0])) rfl ?_
          obtain ⟨behind24, e25, H⟩ := am_bd H
          refine am_G.gI rfl e25 ?_
          refine am_G.fr 2 (g := (46, [some (.ref v0), none], [.int (behind24 + ((1 : Int32))), .ref v0])) rfl ?_
          obtain ⟨hh26, e27, H⟩ := am_bd H
          refine am_G.pF rfl e27 ?_
          refine am_G.fr 1 (g := (0, [some (.ref v0), none], [])) rfl ?_
          exact ih _ _ _ H
set_option maxHeartbeats 4000000 in
set_option maxRecDepth 100000 in
theorem lX7_step {sc : Nat × (Nat → Int32)} {a0 : Nat} {h : am_H} {h1 : am_H} (H : fX7_step a0 h = some h1) : am_Cl am_T am_N sc 2 59 [.ref a0] h none h1 := by
  unfold fX7_step at H
  obtain ⟨_, hO, H⟩ := am_bd H
  obtain ⟨fs0, hO⟩ := am_isO_ok hO
  refine am_mk (q := qX7_step) rfl (fun _ => ⟨_, _, _, _, _, rfl, hO, rfl, rfl⟩) (fun z => absurd z (by decide)) (Nat.le_of_ble_eq_true rfl) rfl ?_
  show am_G sc (am_Cl am_T am_N sc 1) (am_at kX7_step) (fun t => t.2 = h1 ∧ am_ret 0 (am_at kX7_step) t.1 = some none) ((0, [some (.ref a0), none], []), h)
  obtain ⟨hh28, E29, H⟩ := am_bd H
  refine am_G.sq (lX7_step_L0 _ _ _ _ E29) ?_
  clear E29
  refine am_G.fr 2 (g := (54, [some (.ref a0), none], [.ref a0, .ref a0])) rfl ?_
  obtain ⟨behind30, e31, H⟩ := am_bd H
  refine am_G.gI rfl e31 ?_
  obtain ⟨hh32, e33, H⟩ := am_bd H
  refine am_G.pF rfl e33 ?_
  refine am_G.fr 1 (g := (61, [some (.ref a0), none], [.ref a0])) rfl ?_
  obtain ⟨place34, e35, H⟩ := am_bd H
  refine am_G.gI rfl e35 ?_
  refine am_G.fr 1 (g := (65, [some (.ref a0), none], [.ref a0, .int place34])) rfl ?_
  obtain ⟨length36, e37, H⟩ := am_bd H
  refine am_G.gI rfl e37 ?_
  by_cases c38 : place34 < length36
  · rw [if_pos c38] at H
    refine am_G.br (tgt := 77) rfl rfl (if_pos c38) rfl ?_
    refine am_G.fr 1 (g := (78, [some (.ref a0), none], [.ref a0])) rfl ?_
    obtain ⟨signs39, e40, H⟩ := am_bd H
    refine am_G.gR rfl e40 ?_
    refine am_G.fr 1 (g := (82, [some (.ref a0), none], [.ref a0, .ref signs39])) rfl ?_
    obtain ⟨place41, e42, H⟩ := am_bd H
    refine am_G.gI rfl e42 ?_
    obtain ⟨x43, e44, H⟩ := am_bd H
    refine am_G.aB rfl e44 ?_
    refine am_G.fr 4 (g := (92, [some (.ref a0), some (.int x43)], [.int ((122 : Int32)), .int ((97 : Int32)), .int x43])) rfl ?_
    obtain ⟨x46, e45, H⟩ := am_bd H
    refine am_G.cl [.int x43, .int ((97 : Int32)), .int ((122 : Int32))] [] (am_Cl.mono (by decide) (lX9_within e45)) rfl rfl rfl rfl (Nat.le_of_ble_eq_true rfl) ?_
    obtain ⟨hh47, E67, H⟩ := am_bd H
    refine am_G.sq (t := ((149, [none, none], []), hh47)) ?_ ?_
    · clear H
      have H := E67
      clear E67
      by_cases c48 : x46 = 0
      · rw [if_pos c48] at H
        refine am_G.br (tgt := 105) rfl rfl (if_pos c48) rfl ?_
        refine am_G.fr 3 (g := (110, [some (.ref a0), some (.int x43)], [.int ((57 : Int32)), .int ((48 : Int32)), .int x43])) rfl ?_
        obtain ⟨x50, e49, H⟩ := am_bd H
        refine am_G.cl [.int x43, .int ((48 : Int32)), .int ((57 : Int32))] [] (am_Cl.mono (by decide) (lX9_within e49)) rfl rfl rfl rfl (Nat.le_of_ble_eq_true rfl) ?_
        by_cases c51 : x50 = 0
        · rw [if_pos c51] at H
          refine am_G.br (tgt := 123) rfl rfl (if_pos c51) rfl ?_
          refine am_G.fr 2 (g := (125, [some (.ref a0), some (.int x43)], [.ref a0, .ref a0])) rfl ?_
          obtain ⟨behind52, e53, H⟩ := am_bd H
          refine am_G.gI rfl e53 ?_
          refine am_G.fr 2 (g := (130, [some (.ref a0), some (.int x43)], [.int (behind52 + ((1 : Int32))), .ref a0])) rfl ?_
          obtain ⟨hh54, e55, H⟩ := am_bd H
          refine am_G.pF rfl e55 ?_
          refine am_G.fr 2 (g := (135, [some (.ref a0), some (.int x43)], [.int x43, .ref a0])) rfl ?_
          obtain ⟨x57, e56, H⟩ := am_bd H
          refine am_G.cl [.int x43] [.ref a0] (am_Cl.mono (by decide) (lX7_isSign e56)) rfl rfl rfl rfl (Nat.le_of_ble_eq_true rfl) ?_
          obtain ⟨js58, E62, H⟩ := am_bd H
          refine am_G.sq (t := ((146, [none, none], [.int js58, .ref a0]), hh54)) ?_ ?_
          · clear H
            have H := E62
            clear E62
            by_cases c59 : x57 = 0
            · rw [if_pos c59] at H
              refine am_G.br (tgt := 145) rfl rfl (if_pos c59) rfl ?_
              refine am_G.fr 1 (g := (146, [some (.ref a0), some (.int x43)], [.int ((4 : Int32)), .ref a0])) rfl ?_
              obtain rfl := Option.some.inj H
              refine am_G.fg [none, none] (by simp only [am_sub, and_self]) ?_
              exact am_G.nd rfl
            · rw [if_neg c59] at H
              refine am_G.br (tgt := 141) rfl rfl (if_neg c59) rfl ?_
              refine am_G.fr 2 (g := (146, [some (.ref a0), some (.int x43)], [.int ((3 : Int32)), .ref a0])) rfl ?_
              obtain rfl := Option.some.inj H
              refine am_G.fg [none, none] (by simp only [am_sub, and_self]) ?_
              exact am_G.nd rfl
          · clear E62
            obtain ⟨hh60, e61, H⟩ := am_bd H
            refine am_G.pF rfl e61 ?_
            obtain rfl := Option.some.inj H
            exact am_G.nd rfl
        · rw [if_neg c51] at H
          refine am_G.br (tgt := 116) rfl rfl (if_neg c51) rfl ?_
          refine am_G.fr 1 (g := (117, [some (.ref a0), some (.int x43)], [.ref a0])) rfl ?_
          obtain ⟨hh64, e63, H⟩ := am_bd H
          refine am_G.cl [.ref a0] [] (am_Cl.mono (by decide) (lX7_scanNumber e63)) rfl rfl rfl rfl (Nat.le_of_ble_eq_true rfl) ?_
          refine am_G.fr 1 (g := (149, [some (.ref a0), some (.int x43)], [])) rfl ?_
          obtain rfl := Option.some.inj H
          refine am_G.fg [none, none] (by simp only [am_sub, and_self]) ?_
          exact am_G.nd rfl
      · rw [if_neg c48] at H
        refine am_G.br (tgt := 98) rfl rfl (if_neg c48) rfl ?_
        refine am_G.fr 1 (g := (99, [some (.ref a0), some (.int x43)], [.ref a0])) rfl ?_
        obtain ⟨hh66, e65, H⟩ := am_bd H
        refine am_G.cl [.ref a0] [] (am_Cl.mono (by decide) (lX7_scanWord e65)) rfl rfl rfl rfl (Nat.le_of_ble_eq_true rfl) ?_
        refine am_G.fr 1 (g := (149, [some (.ref a0), some (.int x43)], [])) rfl ?_
        obtain rfl := Option.some.inj H
        refine am_G.fg [none, none] (by simp only [am_sub, and_self]) ?_
        exact am_G.nd rfl
    · clear E67
      obtain rfl := Option.some.inj H
      exact am_G.nd ⟨rfl, rfl⟩
  · rw [if_neg c38] at H
    refine am_G.br (tgt := 71) rfl rfl (if_neg c38) rfl ?_
    refine am_G.fr 2 (g := (73, [some (.ref a0), none], [.int ((0 : Int32)), .ref a0])) rfl ?_
    obtain ⟨hh68, e69, H⟩ := am_bd H
    refine am_G.pF rfl e69 ?_
    obtain rfl := Option.some.inj H
    exact am_G.nd ⟨rfl, rfl⟩
def fX7_passSign (a0 : Nat) (a1 : Int32) (h : am_H) : Option (Int32 × am_H) :=
  (am_isO h a0 6).bind fun _ =>
  (fX7_isSignOf a0 a1 h).bind fun x2 =>
  if ¬ x2 = 0 then
    (fX7_step a0 h).bind fun hh5 =>
    some ((1 : Int32), hh5)
  else
    am_b2 (fX7_refuse a0 ((1 : Int32)) h) fun x7 hh8 =>
    (am_z01 x7).bind fun b9 =>
    some (b9, hh8)
set_option maxHeartbeats 4000000 in
set_option maxRecDepth 100000 in
theorem lX7_passSign {sc : Nat × (Nat → Int32)} {a0 : Nat} {a1 : Int32} {h : am_H} {r : Int32} {h1 : am_H} (H : fX7_passSign a0 a1 h = some (r, h1)) : am_Cl am_T am_N sc 3 69 [.ref a0, .int a1] h (some (.int r)) h1 := by
  unfold fX7_passSign at H
  obtain ⟨_, hO, H⟩ := am_bd H
  obtain ⟨fs0, hO⟩ := am_isO_ok hO
  refine am_mk (q := qX7_passSign) rfl (fun _ => ⟨_, _, _, _, _, rfl, hO, rfl, rfl⟩) (fun z => absurd z (by decide)) (Nat.le_of_ble_eq_true rfl) rfl ?_
  show am_G sc (am_Cl am_T am_N sc 2) (am_at kX7_passSign) (fun t => t.2 = h1 ∧ am_ret 2 (am_at kX7_passSign) t.1 = some (some (.int r))) ((0, [some (.ref a0), some (.int a1)], []), h)
  refine am_G.fr 2 (g := (2, [some (.ref a0), some (.int a1)], [.int a1, .ref a0])) rfl ?_
  obtain ⟨x2, e1, H⟩ := am_bd H
  refine am_G.cl [.ref a0, .int a1] [] (am_Cl.mono (by decide) (lX7_isSignOf e1)) rfl rfl rfl rfl (Nat.le_of_ble_eq_true rfl) ?_
  by_cases c3 : ¬ x2 = 0
  · rw [if_pos c3] at H
    refine am_G.br (tgt := 14) rfl rfl (if_pos c3) rfl ?_
    refine am_G.fr 1 (g := (15, [some (.ref a0), some (.int a1)], [.ref a0])) rfl ?_
    obtain ⟨hh5, e4, H⟩ := am_bd H
    refine am_G.cl [.ref a0] [] (am_Cl.mono (by decide) (lX7_step e4)) rfl rfl rfl rfl (Nat.le_of_ble_eq_true rfl) ?_
    refine am_G.fr 1 (g := (19, [some (.ref a0), some (.int a1)], [.int ((1 : Int32))])) rfl ?_
    obtain ⟨rfl, rfl⟩ := am_inj2 H
    exact am_G.nd ⟨rfl, am_ret2 rfl (if_pos (by decide))⟩
  · rw [if_neg c3] at H
    refine am_G.br (tgt := 8) rfl rfl (if_neg c3) rfl ?_
    refine am_G.fr 2 (g := (10, [some (.ref a0), some (.int a1)], [.int ((1 : Int32)), .ref a0])) rfl ?_
    obtain ⟨x7, hh8, e6, H⟩ := am_bd2 H
    refine am_G.cl [.ref a0, .int ((1 : Int32))] [] (am_Cl.mono (by decide) (lX7_refuse e6)) rfl rfl rfl rfl (Nat.le_of_ble_eq_true rfl) ?_
    obtain ⟨b9, e10, H⟩ := am_bd H
    obtain ⟨rfl, rfl⟩ := am_inj2 H
    exact am_G.nd ⟨rfl, am_ret2 rfl e10⟩
def fX1_joined (a0 : Int32) (a1 : Int32) (a2 : Int32) (h : am_H) : Option (Int32) :=
  if a0.toInt < (-11) ∨ (-6) < a0.toInt then
    some (a1 * a2)
  else (some (a0.toInt - (-11)).toNat).bind fun k2 =>
  if k2 = 0 then
    some (a1 - a2)
  else if k2 = 1 then
    some (a1 + a2)
  else if k2 = 2 then
    Option.bind (
      if ¬ a1 = a2 then
        some ((0 : Int32))
      else
        some ((1 : Int32))) fun js6 =>
    some js6
  else if k2 = 3 then
    Option.bind (
      if a2 ≤ a1 then
        some ((0 : Int32))
      else
        some ((1 : Int32))) fun js10 =>
    some js10
  else if k2 = 4 then
    Option.bind (
      if ¬ a1 = 0 then
        some ((1 : Int32))
      else
        if a2 = 0 then
          some ((0 : Int32))
        else
          some ((1 : Int32))) fun js14 =>
    some js14
  else if k2 = 5 then
    Option.bind (
      if a1 = 0 then
        some ((0 : Int32))
      else
        if a2 = 0 then
          some ((0 : Int32))
        else
          some ((1 : Int32))) fun js19 =>
    some js19
  else none
set_option maxHeartbeats 4000000 in
set_option maxRecDepth 100000 in
theorem lX1_joined {sc : Nat × (Nat → Int32)} {a0 : Int32} {a1 : Int32} {a2 : Int32} {h : am_H} {r : Int32} (H : fX1_joined a0 a1 a2 h = some r) : am_Cl am_T am_N sc 1 10 [.int a0, .int a1, .int a2] h (some (.int r)) h := by
  unfold fX1_joined at H
  refine am_mk (q := qX1_joined) rfl (fun z => absurd z (by decide)) (fun z => absurd z (by decide)) (Nat.le_of_ble_eq_true rfl) rfl ?_
  show am_G sc (am_Cl am_T am_N sc 0) (am_at kX1_joined) (fun t => t.2 = h ∧ am_ret 1 (am_at kX1_joined) t.1 = some (some (.int r))) ((0, [some (.int a0), some (.int a1), some (.int a2)], []), h)
  refine am_G.fr 1 (g := (1, [some (.int a0), some (.int a1), some (.int a2)], [.int a0])) rfl ?_
  by_cases c1 : a0.toInt < (-11) ∨ (-6) < a0.toInt
  · rw [if_pos c1] at H
    refine am_G.swD (tgt := 98) rfl c1 rfl ?_
    refine am_G.fr 3 (g := (101, [some (.int a0), some (.int a1), some (.int a2)], [.int (a1 * a2)])) rfl ?_
    obtain rfl := Option.some.inj H
    exact am_G.nd ⟨rfl, rfl⟩
  · rw [if_neg c1] at H
    obtain ⟨k2, e3, H⟩ := am_bd H
    by_cases c4 : k2 = 0
    · rw [if_pos c4] at H
      refine am_G.sw (tgt := 94) (k0 := 0) rfl c1 ((Option.some.inj e3).trans c4) rfl rfl ?_
      refine am_G.fr 3 (g := (97, [some (.int a0), some (.int a1), some (.int a2)], [.int (a1 - a2)])) rfl ?_
      obtain rfl := Option.some.inj H
      exact am_G.nd ⟨rfl, rfl⟩
    · rw [if_neg c4] at H
      by_cases c5 : k2 = 1
      · rw [if_pos c5] at H
        refine am_G.sw (tgt := 90) (k0 := 1) rfl c1 ((Option.some.inj e3).trans c5) rfl rfl ?_
        refine am_G.fr 3 (g := (93, [some (.int a0), some (.int a1), some (.int a2)], [.int (a1 + a2)])) rfl ?_
        obtain rfl := Option.some.inj H
        exact am_G.nd ⟨rfl, rfl⟩
      · rw [if_neg c5] at H
        by_cases c9 : k2 = 2
        · rw [if_pos c9] at H
          refine am_G.sw (tgt := 79) (k0 := 2) rfl c1 ((Option.some.inj e3).trans c9) rfl rfl ?_
          refine am_G.fr 2 (g := (81, [some (.int a0), some (.int a1), some (.int a2)], [.int a2, .int a1])) rfl ?_
          obtain ⟨js6, E8, H⟩ := am_bd H
          refine am_G.sq (t := ((89, [none, none, none], [.int js6]), h)) ?_ ?_
          · clear H
            have H := E8
            clear E8
            by_cases c7 : ¬ a1 = a2
            · rw [if_pos c7] at H
              refine am_G.br (tgt := 88) rfl rfl (if_pos c7) rfl ?_
              refine am_G.fr 1 (g := (89, [some (.int a0), some (.int a1), some (.int a2)], [.int ((0 : Int32))])) rfl ?_
              obtain rfl := Option.some.inj H
              refine am_G.fg [none, none, none] (by simp only [am_sub, and_self]) ?_
              exact am_G.nd rfl
            · rw [if_neg c7] at H
              refine am_G.br (tgt := 84) rfl rfl (if_neg c7) rfl ?_
              refine am_G.fr 2 (g := (89, [some (.int a0), some (.int a1), some (.int a2)], [.int ((1 : Int32))])) rfl ?_
              obtain rfl := Option.some.inj H
              refine am_G.fg [none, none, none] (by simp only [am_sub, and_self]) ?_
              exact am_G.nd rfl
          · clear E8
            obtain rfl := Option.some.inj H
            exact am_G.nd ⟨rfl, rfl⟩
        · rw [if_neg c9] at H
          by_cases c13 : k2 = 3
          · rw [if_pos c13] at H
            refine am_G.sw (tgt := 68) (k0 := 3) rfl c1 ((Option.some.inj e3).trans c13) rfl rfl ?_
            refine am_G.fr 2 (g := (70, [some (.int a0), some (.int a1), some (.int a2)], [.int a2, .int a1])) rfl ?_
            obtain ⟨js10, E12, H⟩ := am_bd H
            refine am_G.sq (t := ((78, [none, none, none], [.int js10]), h)) ?_ ?_
            · clear H
              have H := E12
              clear E12
              by_cases c11 : a2 ≤ a1
              · rw [if_pos c11] at H
                refine am_G.br (tgt := 77) rfl rfl (if_pos c11) rfl ?_
                refine am_G.fr 1 (g := (78, [some (.int a0), some (.int a1), some (.int a2)], [.int ((0 : Int32))])) rfl ?_
                obtain rfl := Option.some.inj H
                refine am_G.fg [none, none, none] (by simp only [am_sub, and_self]) ?_
                exact am_G.nd rfl
              · rw [if_neg c11] at H
                refine am_G.br (tgt := 73) rfl rfl (if_neg c11) rfl ?_
                refine am_G.fr 2 (g := (78, [some (.int a0), some (.int a1), some (.int a2)], [.int ((1 : Int32))])) rfl ?_
                obtain rfl := Option.some.inj H
                refine am_G.fg [none, none, none] (by simp only [am_sub, and_self]) ?_
                exact am_G.nd rfl
            · clear E12
              obtain rfl := Option.some.inj H
              exact am_G.nd ⟨rfl, rfl⟩
          · rw [if_neg c13] at H
            by_cases c18 : k2 = 4
            · rw [if_pos c18] at H
              refine am_G.sw (tgt := 54) (k0 := 4) rfl c1 ((Option.some.inj e3).trans c18) rfl rfl ?_
              refine am_G.fr 1 (g := (55, [some (.int a0), some (.int a1), some (.int a2)], [.int a1])) rfl ?_
              obtain ⟨js14, E17, H⟩ := am_bd H
              refine am_G.sq (t := ((67, [none, none, none], [.int js14]), h)) ?_ ?_
              · clear H
                have H := E17
                clear E17
                by_cases c15 : ¬ a1 = 0
                · rw [if_pos c15] at H
                  refine am_G.br (tgt := 62) rfl rfl (if_pos c15) rfl ?_
                  refine am_G.fr 2 (g := (67, [some (.int a0), some (.int a1), some (.int a2)], [.int ((1 : Int32))])) rfl ?_
                  obtain rfl := Option.some.inj H
                  refine am_G.fg [none, none, none] (by simp only [am_sub, and_self]) ?_
                  exact am_G.nd rfl
                · rw [if_neg c15] at H
                  refine am_G.br (tgt := 58) rfl rfl (if_neg c15) rfl ?_
                  refine am_G.fr 1 (g := (59, [some (.int a0), some (.int a1), some (.int a2)], [.int a2])) rfl ?_
                  by_cases c16 : a2 = 0
                  · rw [if_pos c16] at H
                    refine am_G.br (tgt := 66) rfl rfl (if_pos c16) rfl ?_
                    refine am_G.fr 1 (g := (67, [some (.int a0), some (.int a1), some (.int a2)], [.int ((0 : Int32))])) rfl ?_
                    obtain rfl := Option.some.inj H
                    refine am_G.fg [none, none, none] (by simp only [am_sub, and_self]) ?_
                    exact am_G.nd rfl
                  · rw [if_neg c16] at H
                    refine am_G.br (tgt := 62) rfl rfl (if_neg c16) rfl ?_
                    refine am_G.fr 2 (g := (67, [some (.int a0), some (.int a1), some (.int a2)], [.int ((1 : Int32))])) rfl ?_
                    obtain rfl := Option.some.inj H
                    refine am_G.fg [none, none, none] (by simp only [am_sub, and_self]) ?_
                    exact am_G.nd rfl
              · clear E17
                obtain rfl := Option.some.inj H
                exact am_G.nd ⟨rfl, rfl⟩
            · rw [if_neg c18] at H
              by_cases c23 : k2 = 5
              · rw [if_pos c23] at H
                refine am_G.sw (tgt := 40) (k0 := 5) rfl c1 ((Option.some.inj e3).trans c23) rfl rfl ?_
                refine am_G.fr 1 (g := (41, [some (.int a0), some (.int a1), some (.int a2)], [.int a1])) rfl ?_
                obtain ⟨js19, E22, H⟩ := am_bd H
                refine am_G.sq (t := ((53, [none, none, none], [.int js19]), h)) ?_ ?_
                · clear H
                  have H := E22
                  clear E22
                  by_cases c20 : a1 = 0
                  · rw [if_pos c20] at H
                    refine am_G.br (tgt := 52) rfl rfl (if_pos c20) rfl ?_
                    refine am_G.fr 1 (g := (53, [some (.int a0), some (.int a1), some (.int a2)], [.int ((0 : Int32))])) rfl ?_
                    obtain rfl := Option.some.inj H
                    refine am_G.fg [none, none, none] (by simp only [am_sub, and_self]) ?_
                    exact am_G.nd rfl
                  · rw [if_neg c20] at H
                    refine am_G.br (tgt := 44) rfl rfl (if_neg c20) rfl ?_
                    refine am_G.fr 1 (g := (45, [some (.int a0), some (.int a1), some (.int a2)], [.int a2])) rfl ?_
                    by_cases c21 : a2 = 0
                    · rw [if_pos c21] at H
                      refine am_G.br (tgt := 52) rfl rfl (if_pos c21) rfl ?_
                      refine am_G.fr 1 (g := (53, [some (.int a0), some (.int a1), some (.int a2)], [.int ((0 : Int32))])) rfl ?_
                      obtain rfl := Option.some.inj H
                      refine am_G.fg [none, none, none] (by simp only [am_sub, and_self]) ?_
                      exact am_G.nd rfl
                    · rw [if_neg c21] at H
                      refine am_G.br (tgt := 48) rfl rfl (if_neg c21) rfl ?_
                      refine am_G.fr 2 (g := (53, [some (.int a0), some (.int a1), some (.int a2)], [.int ((1 : Int32))])) rfl ?_
                      obtain rfl := Option.some.inj H
                      refine am_G.fg [none, none, none] (by simp only [am_sub, and_self]) ?_
                      exact am_G.nd rfl
                · clear E22
                  obtain rfl := Option.some.inj H
                  exact am_G.nd ⟨rfl, rfl⟩
              · rw [if_neg c23] at H
                cases H
def fX1_value_L6 : Nat → Nat → Int32 → Int32 → Int32 → Int32 → Int32 → Int32 → am_H → Option (Int32 × am_H)
  | 0, _, _, _, _, _, _, _, _ => none
  | n + 1, v0, v1, v2, v3, v4, v5, v6, h =>
    (am_gI h v0 1 2).bind fun length1 =>
    if length1 ≤ v6 then
      some (v5, h)
    else
      (am_gR h v0 1 0).bind fun code4 =>
      (am_aI h 0 code4 v6).bind fun x6 =>
      am_b2 (
        if ¬ x6 = ((-5 : Int32)) then
          if ((-5 : Int32)) ≤ x6 then
            (am_gR h v0 1 1).bind fun pile12 =>
            (am_len h pile12).bind fun n14 =>
            if n14 ≤ v5 then
              some (v5, h)
            else
              (am_gR h v0 1 1).bind fun pile17 =>
              Option.bind (
                if ¬ x6 = ((-1 : Int32)) then
                  if ¬ x6 = ((-2 : Int32)) then
                    if ¬ x6 = ((-3 : Int32)) then
                      if ¬ x6 = ((-4 : Int32)) then
                        some x6
                      else
                        some v4
                    else
                      some v3
                  else
                    some v2
                else
                  some v1) fun js19 =>
              (am_sI h 0 pile17 v5 js19).bind fun hh24 =>
              some (v5 + (1 : Int32), hh24)
          else
            if v5 ≤ ((1 : Int32)) then
              some (v5, h)
            else
              (am_gR h v0 1 1).bind fun pile28 =>
              (am_gR h v0 1 1).bind fun pile30 =>
              (am_aI h 0 pile30 ((v5 + (-1 : Int32)) - ((1 : Int32)))).bind fun x32 =>
              (am_gR h v0 1 1).bind fun pile34 =>
              (am_aI h 0 pile34 (v5 + (-1 : Int32))).bind fun x36 =>
              (fX1_joined x6 x32 x36 h).bind fun x39 =>
              (am_sI h 0 pile28 ((v5 + (-1 : Int32)) - ((1 : Int32))) x39).bind fun hh40 =>
              some (v5 + (-1 : Int32), hh40)
        else
          if v5 ≤ 0 then
            some (v5, h)
          else
            (am_gR h v0 1 1).bind fun pile43 =>
            (am_gR h v0 1 1).bind fun pile45 =>
            (am_aI h 0 pile45 (v5 - ((1 : Int32)))).bind fun x47 =>
            Option.bind (
              if ¬ x47 = 0 then
                some ((0 : Int32))
              else
                some ((1 : Int32))) fun js49 =>
            (am_sI h 0 pile43 (v5 - ((1 : Int32))) js49).bind fun hh51 =>
            some (v5, hh51)) fun jv8 hh9 =>
      fX1_value_L6 n v0 v1 v2 v3 v4 jv8 (v6 + (1 : Int32)) hh9
def fX1_value (a0 : Nat) (a1 : Int32) (a2 : Int32) (a3 : Int32) (a4 : Int32) (h : am_H) : Option (Int32 × am_H) :=
  (am_isO h a0 1).bind fun _ =>
  am_b2 (fX1_value_L6 4000 a0 a1 a2 a3 a4 ((0 : Int32)) ((0 : Int32)) h) fun lw55 hh56 =>
  Option.bind (
    if lw55 ≤ 0 then
      some ((0 : Int32))
    else
      (am_gR hh56 a0 1 1).bind fun pile60 =>
      (am_aI hh56 0 pile60 (lw55 - ((1 : Int32)))).bind fun x62 =>
      some x62) fun js58 =>
  some (js58, hh56)
set_option maxHeartbeats 4000000 in
set_option maxRecDepth 100000 in
theorem lX1_value_L6 {sc : Nat × (Nat → Int32)} : ∀ (n : Nat) (v0 : Nat) (v1 : Int32) (v2 : Int32) (v3 : Int32) (v4 : Int32) (v5 : Int32) (v6 : Int32) (h : am_H) (w5 : Int32) (h1 : am_H), fX1_value_L6 n v0 v1 v2 v3 v4 v5 v6 h = some (w5, h1) → am_G sc (am_Cl am_T am_N sc 1) (am_at kX1_value) (fun t => t = ((186, [some (.ref v0), none, none, none, none, some (.int w5), none, none], []), h1)) ((6, [some (.ref v0), some (.int v1), some (.int v2), some (.int v3), some (.int v4), some (.int v5), some (.int v6), none], []), h) := by
  intro n
  induction n with
  | zero => intro _ _ _ _ _ _ _ _ _ _ H; cases H
  | succ n ih =>
    intro v0 v1 v2 v3 v4 v5 v6 h w5 h1 H
    rw [fX1_value_L6] at H
    refine am_G.fr 2 (g := (9, [some (.ref v0), some (.int v1), some (.int v2), some (.int v3), some (.int v4), some (.int v5), some (.int v6), none], [.ref v0, .int v6])) rfl ?_
    obtain ⟨length1, e2, H⟩ := am_bd H
    refine am_G.gI rfl e2 ?_
    by_cases c3 : length1 ≤ v6
    · rw [if_pos c3] at H
      refine am_G.br (tgt := 186) rfl rfl (if_pos c3) rfl ?_
      obtain ⟨rfl, rfl⟩ := am_inj2 H
      refine am_G.fg [some (.ref v0), none, none, none, none, some (.int v5), none, none] (by simp only [am_sub, and_self]) ?_
      exact am_G.nd rfl
    · rw [if_neg c3] at H
      refine am_G.br (tgt := 15) rfl rfl (if_neg c3) rfl ?_
      refine am_G.fr 1 (g := (16, [some (.ref v0), some (.int v1), some (.int v2), some (.int v3), some (.int v4), some (.int v5), some (.int v6), none], [.ref v0])) rfl ?_
      obtain ⟨code4, e5, H⟩ := am_bd H
      refine am_G.gR rfl e5 ?_
      refine am_G.fr 1 (g := (21, [some (.ref v0), some (.int v1), some (.int v2), some (.int v3), some (.int v4), some (.int v5), some (.int v6), none], [.int v6, .ref code4])) rfl ?_
      obtain ⟨x6, e7, H⟩ := am_bd H
      refine am_G.aI rfl e7 ?_
      refine am_G.fr 3 (g := (28, [some (.ref v0), some (.int v1), some (.int v2), some (.int v3), some (.int v4), some (.int v5), some (.int v6), some (.int x6)], [.int ((-5 : Int32)), .int x6])) rfl ?_
      obtain ⟨jv8, hh9, E54, H⟩ := am_bd2 H
      refine am_G.sq (t := ((180, [some (.ref v0), some (.int v1), some (.int v2), some (.int v3), some (.int v4), some (.int jv8), some (.int v6), none], []), hh9)) ?_ ?_
      · clear H
        have H := E54
        clear E54
        by_cases c10 : ¬ x6 = ((-5 : Int32))
        · rw [if_pos c10] at H
          refine am_G.br (tgt := 65) rfl rfl (if_pos c10) rfl ?_
          refine am_G.fr 2 (g := (69, [some (.ref v0), some (.int v1), some (.int v2), some (.int v3), some (.int v4), some (.int v5), some (.int v6), some (.int x6)], [.int ((-5 : Int32)), .int x6])) rfl ?_
          by_cases c11 : ((-5 : Int32)) ≤ x6
          · rw [if_pos c11] at H
            refine am_G.br (tgt := 114) rfl rfl (if_pos c11) rfl ?_
            refine am_G.fr 2 (g := (117, [some (.ref v0), some (.int v1), some (.int v2), some (.int v3), some (.int v4), some (.int v5), some (.int v6), some (.int x6)], [.ref v0, .int v5])) rfl ?_
            obtain ⟨pile12, e13, H⟩ := am_bd H
            refine am_G.gR rfl e13 ?_
            obtain ⟨n14, e15, H⟩ := am_bd H
            refine am_G.ln rfl e15 ?_
            by_cases c16 : n14 ≤ v5
            · rw [if_pos c16] at H
              refine am_G.br (tgt := 180) rfl rfl (if_pos c16) rfl ?_
              obtain ⟨rfl, rfl⟩ := am_inj2 H
              refine am_G.fg [some (.ref v0), some (.int v1), some (.int v2), some (.int v3), some (.int v4), some (.int v5), some (.int v6), none] (by simp only [am_sub, and_self]) ?_
              exact am_G.nd rfl
            · rw [if_neg c16] at H
              refine am_G.br (tgt := 124) rfl rfl (if_neg c16) rfl ?_
              refine am_G.fr 1 (g := (125, [some (.ref v0), some (.int v1), some (.int v2), some (.int v3), some (.int v4), some (.int v5), some (.int v6), some (.int x6)], [.ref v0])) rfl ?_
              obtain ⟨pile17, e18, H⟩ := am_bd H
              refine am_G.gR rfl e18 ?_
              refine am_G.fr 3 (g := (133, [some (.ref v0), some (.int v1), some (.int v2), some (.int v3), some (.int v4), some (.int v5), some (.int v6), some (.int x6)], [.int ((-1 : Int32)), .int x6, .int v5, .ref pile17])) rfl ?_
              obtain ⟨js19, E26, H⟩ := am_bd H
              refine am_G.sq (t := ((176, [some (.ref v0), some (.int v1), some (.int v2), some (.int v3), some (.int v4), some (.int v5), some (.int v6), none], [.int js19, .int v5, .ref pile17]), h)) ?_ ?_
              · clear H
                have H := E26
                clear E26
                by_cases c20 : ¬ x6 = ((-1 : Int32))
                · rw [if_pos c20] at H
                  refine am_G.br (tgt := 140) rfl rfl (if_pos c20) rfl ?_
                  refine am_G.fr 2 (g := (144, [some (.ref v0), some (.int v1), some (.int v2), some (.int v3), some (.int v4), some (.int v5), some (.int v6), some (.int x6)], [.int ((-2 : Int32)), .int x6, .int v5, .ref pile17])) rfl ?_
                  by_cases c21 : ¬ x6 = ((-2 : Int32))
                  · rw [if_pos c21] at H
                    refine am_G.br (tgt := 151) rfl rfl (if_pos c21) rfl ?_
                    refine am_G.fr 2 (g := (155, [some (.ref v0), some (.int v1), some (.int v2), some (.int v3), some (.int v4), some (.int v5), some (.int v6), some (.int x6)], [.int ((-3 : Int32)), .int x6, .int v5, .ref pile17])) rfl ?_
                    by_cases c22 : ¬ x6 = ((-3 : Int32))
                    · rw [if_pos c22] at H
                      refine am_G.br (tgt := 162) rfl rfl (if_pos c22) rfl ?_
                      refine am_G.fr 2 (g := (166, [some (.ref v0), some (.int v1), some (.int v2), some (.int v3), some (.int v4), some (.int v5), some (.int v6), some (.int x6)], [.int ((-4 : Int32)), .int x6, .int v5, .ref pile17])) rfl ?_
                      by_cases c23 : ¬ x6 = ((-4 : Int32))
                      · rw [if_pos c23] at H
                        refine am_G.br (tgt := 174) rfl rfl (if_pos c23) rfl ?_
                        refine am_G.fr 1 (g := (176, [some (.ref v0), some (.int v1), some (.int v2), some (.int v3), some (.int v4), some (.int v5), some (.int v6), some (.int x6)], [.int x6, .int v5, .ref pile17])) rfl ?_
                        obtain rfl := Option.some.inj H
                        refine am_G.fg [some (.ref v0), some (.int v1), some (.int v2), some (.int v3), some (.int v4), some (.int v5), some (.int v6), none] (by simp only [am_sub, and_self]) ?_
                        exact am_G.nd rfl
                      · rw [if_neg c23] at H
                        refine am_G.br (tgt := 169) rfl rfl (if_neg c23) rfl ?_
                        refine am_G.fr 2 (g := (176, [some (.ref v0), some (.int v1), some (.int v2), some (.int v3), some (.int v4), some (.int v5), some (.int v6), some (.int x6)], [.int v4, .int v5, .ref pile17])) rfl ?_
                        obtain rfl := Option.some.inj H
                        refine am_G.fg [some (.ref v0), some (.int v1), some (.int v2), some (.int v3), some (.int v4), some (.int v5), some (.int v6), none] (by simp only [am_sub, and_self]) ?_
                        exact am_G.nd rfl
                    · rw [if_neg c22] at H
                      refine am_G.br (tgt := 158) rfl rfl (if_neg c22) rfl ?_
                      refine am_G.fr 2 (g := (176, [some (.ref v0), some (.int v1), some (.int v2), some (.int v3), some (.int v4), some (.int v5), some (.int v6), some (.int x6)], [.int v3, .int v5, .ref pile17])) rfl ?_
                      obtain rfl := Option.some.inj H
                      refine am_G.fg [some (.ref v0), some (.int v1), some (.int v2), some (.int v3), some (.int v4), some (.int v5), some (.int v6), none] (by simp only [am_sub, and_self]) ?_
                      exact am_G.nd rfl
                  · rw [if_neg c21] at H
                    refine am_G.br (tgt := 147) rfl rfl (if_neg c21) rfl ?_
                    refine am_G.fr 2 (g := (176, [some (.ref v0), some (.int v1), some (.int v2), some (.int v3), some (.int v4), some (.int v5), some (.int v6), some (.int x6)], [.int v2, .int v5, .ref pile17])) rfl ?_
                    obtain rfl := Option.some.inj H
                    refine am_G.fg [some (.ref v0), some (.int v1), some (.int v2), some (.int v3), some (.int v4), some (.int v5), some (.int v6), none] (by simp only [am_sub, and_self]) ?_
                    exact am_G.nd rfl
                · rw [if_neg c20] at H
                  refine am_G.br (tgt := 136) rfl rfl (if_neg c20) rfl ?_
                  refine am_G.fr 2 (g := (176, [some (.ref v0), some (.int v1), some (.int v2), some (.int v3), some (.int v4), some (.int v5), some (.int v6), some (.int x6)], [.int v1, .int v5, .ref pile17])) rfl ?_
                  obtain rfl := Option.some.inj H
                  refine am_G.fg [some (.ref v0), some (.int v1), some (.int v2), some (.int v3), some (.int v4), some (.int v5), some (.int v6), none] (by simp only [am_sub, and_self]) ?_
                  exact am_G.nd rfl
              · clear E26
                obtain ⟨hh24, e25, H⟩ := am_bd H
                refine am_G.sI rfl e25 ?_
                refine am_G.fr 1 (g := (180, [some (.ref v0), some (.int v1), some (.int v2), some (.int v3), some (.int v4), some (.int (v5 + (1 : Int32))), some (.int v6), none], [])) rfl ?_
                obtain ⟨rfl, rfl⟩ := am_inj2 H
                exact am_G.nd rfl
          · rw [if_neg c11] at H
            refine am_G.br (tgt := 72) rfl rfl (if_neg c11) rfl ?_
            refine am_G.fr 2 (g := (75, [some (.ref v0), some (.int v1), some (.int v2), some (.int v3), some (.int v4), some (.int v5), some (.int v6), some (.int x6)], [.int ((1 : Int32)), .int v5])) rfl ?_
            by_cases c27 : v5 ≤ ((1 : Int32))
            · rw [if_pos c27] at H
              refine am_G.br (tgt := 180) rfl rfl (if_pos c27) rfl ?_
              obtain ⟨rfl, rfl⟩ := am_inj2 H
              refine am_G.fg [some (.ref v0), some (.int v1), some (.int v2), some (.int v3), some (.int v4), some (.int v5), some (.int v6), none] (by simp only [am_sub, and_self]) ?_
              exact am_G.nd rfl
            · rw [if_neg c27] at H
              refine am_G.br (tgt := 78) rfl rfl (if_neg c27) rfl ?_
              refine am_G.fr 2 (g := (82, [some (.ref v0), some (.int v1), some (.int v2), some (.int v3), some (.int v4), some (.int (v5 + (-1 : Int32))), some (.int v6), some (.int x6)], [.ref v0])) rfl ?_
              obtain ⟨pile28, e29, H⟩ := am_bd H
              refine am_G.gR rfl e29 ?_
              refine am_G.fr 5 (g := (92, [some (.ref v0), some (.int v1), some (.int v2), some (.int v3), some (.int v4), some (.int (v5 + (-1 : Int32))), some (.int v6), some (.int x6)], [.ref v0, .int x6, .int ((v5 + (-1 : Int32)) - ((1 : Int32))), .ref pile28])) rfl ?_
              obtain ⟨pile30, e31, H⟩ := am_bd H
              refine am_G.gR rfl e31 ?_
              refine am_G.fr 3 (g := (99, [some (.ref v0), some (.int v1), some (.int v2), some (.int v3), some (.int v4), some (.int (v5 + (-1 : Int32))), some (.int v6), some (.int x6)], [.int ((v5 + (-1 : Int32)) - ((1 : Int32))), .ref pile30, .int x6, .int ((v5 + (-1 : Int32)) - ((1 : Int32))), .ref pile28])) rfl ?_
              obtain ⟨x32, e33, H⟩ := am_bd H
              refine am_G.aI rfl e33 ?_
              refine am_G.fr 1 (g := (101, [some (.ref v0), some (.int v1), some (.int v2), some (.int v3), some (.int v4), some (.int (v5 + (-1 : Int32))), some (.int v6), some (.int x6)], [.ref v0, .int x32, .int x6, .int ((v5 + (-1 : Int32)) - ((1 : Int32))), .ref pile28])) rfl ?_
              obtain ⟨pile34, e35, H⟩ := am_bd H
              refine am_G.gR rfl e35 ?_
              refine am_G.fr 1 (g := (106, [some (.ref v0), some (.int v1), some (.int v2), some (.int v3), some (.int v4), some (.int (v5 + (-1 : Int32))), some (.int v6), some (.int x6)], [.int (v5 + (-1 : Int32)), .ref pile34, .int x32, .int x6, .int ((v5 + (-1 : Int32)) - ((1 : Int32))), .ref pile28])) rfl ?_
              obtain ⟨x36, e37, H⟩ := am_bd H
              refine am_G.aI rfl e37 ?_
              obtain ⟨x39, e38, H⟩ := am_bd H
              refine am_G.cl [.int x6, .int x32, .int x36] [.int ((v5 + (-1 : Int32)) - ((1 : Int32))), .ref pile28] (am_Cl.mono (by decide) (lX1_joined e38)) rfl rfl rfl rfl (Nat.le_of_ble_eq_true rfl) ?_
              obtain ⟨hh40, e41, H⟩ := am_bd H
              refine am_G.sI rfl e41 ?_
              refine am_G.fr 1 (g := (180, [some (.ref v0), some (.int v1), some (.int v2), some (.int v3), some (.int v4), some (.int (v5 + (-1 : Int32))), some (.int v6), some (.int x6)], [])) rfl ?_
              obtain ⟨rfl, rfl⟩ := am_inj2 H
              refine am_G.fg [some (.ref v0), some (.int v1), some (.int v2), some (.int v3), some (.int v4), some (.int (v5 + (-1 : Int32))), some (.int v6), none] (by simp only [am_sub, and_self]) ?_
              exact am_G.nd rfl
        · rw [if_neg c10] at H
          refine am_G.br (tgt := 31) rfl rfl (if_neg c10) rfl ?_
          refine am_G.fr 1 (g := (33, [some (.ref v0), some (.int v1), some (.int v2), some (.int v3), some (.int v4), some (.int v5), some (.int v6), some (.int x6)], [.int v5])) rfl ?_
          by_cases c42 : v5 ≤ 0
          · rw [if_pos c42] at H
            refine am_G.br (tgt := 180) rfl rfl (if_pos c42) rfl ?_
            obtain ⟨rfl, rfl⟩ := am_inj2 H
            refine am_G.fg [some (.ref v0), some (.int v1), some (.int v2), some (.int v3), some (.int v4), some (.int v5), some (.int v6), none] (by simp only [am_sub, and_self]) ?_
            exact am_G.nd rfl
          · rw [if_neg c42] at H
            refine am_G.br (tgt := 36) rfl rfl (if_neg c42) rfl ?_
            refine am_G.fr 1 (g := (37, [some (.ref v0), some (.int v1), some (.int v2), some (.int v3), some (.int v4), some (.int v5), some (.int v6), some (.int x6)], [.ref v0])) rfl ?_
            obtain ⟨pile43, e44, H⟩ := am_bd H
            refine am_G.gR rfl e44 ?_
            refine am_G.fr 4 (g := (45, [some (.ref v0), some (.int v1), some (.int v2), some (.int v3), some (.int v4), some (.int v5), some (.int v6), some (.int x6)], [.ref v0, .int (v5 - ((1 : Int32))), .ref pile43])) rfl ?_
            obtain ⟨pile45, e46, H⟩ := am_bd H
            refine am_G.gR rfl e46 ?_
            refine am_G.fr 3 (g := (52, [some (.ref v0), some (.int v1), some (.int v2), some (.int v3), some (.int v4), some (.int v5), some (.int v6), some (.int x6)], [.int (v5 - ((1 : Int32))), .ref pile45, .int (v5 - ((1 : Int32))), .ref pile43])) rfl ?_
            obtain ⟨x47, e48, H⟩ := am_bd H
            refine am_G.aI rfl e48 ?_
            obtain ⟨js49, E53, H⟩ := am_bd H
            refine am_G.sq (t := ((61, [some (.ref v0), some (.int v1), some (.int v2), some (.int v3), some (.int v4), some (.int v5), some (.int v6), none], [.int js49, .int (v5 - ((1 : Int32))), .ref pile43]), h)) ?_ ?_
            · clear H
              have H := E53
              clear E53
              by_cases c50 : ¬ x47 = 0
              · rw [if_pos c50] at H
                refine am_G.br (tgt := 60) rfl rfl (if_pos c50) rfl ?_
                refine am_G.fr 1 (g := (61, [some (.ref v0), some (.int v1), some (.int v2), some (.int v3), some (.int v4), some (.int v5), some (.int v6), some (.int x6)], [.int ((0 : Int32)), .int (v5 - ((1 : Int32))), .ref pile43])) rfl ?_
                obtain rfl := Option.some.inj H
                refine am_G.fg [some (.ref v0), some (.int v1), some (.int v2), some (.int v3), some (.int v4), some (.int v5), some (.int v6), none] (by simp only [am_sub, and_self]) ?_
                exact am_G.nd rfl
              · rw [if_neg c50] at H
                refine am_G.br (tgt := 56) rfl rfl (if_neg c50) rfl ?_
                refine am_G.fr 2 (g := (61, [some (.ref v0), some (.int v1), some (.int v2), some (.int v3), some (.int v4), some (.int v5), some (.int v6), some (.int x6)], [.int ((1 : Int32)), .int (v5 - ((1 : Int32))), .ref pile43])) rfl ?_
                obtain rfl := Option.some.inj H
                refine am_G.fg [some (.ref v0), some (.int v1), some (.int v2), some (.int v3), some (.int v4), some (.int v5), some (.int v6), none] (by simp only [am_sub, and_self]) ?_
                exact am_G.nd rfl
            · clear E53
              obtain ⟨hh51, e52, H⟩ := am_bd H
              refine am_G.sI rfl e52 ?_
              refine am_G.fr 1 (g := (180, [some (.ref v0), some (.int v1), some (.int v2), some (.int v3), some (.int v4), some (.int v5), some (.int v6), none], [])) rfl ?_
              obtain ⟨rfl, rfl⟩ := am_inj2 H
              exact am_G.nd rfl
      · clear E54
        refine am_G.fr 2 (g := (6, [some (.ref v0), some (.int v1), some (.int v2), some (.int v3), some (.int v4), some (.int jv8), some (.int (v6 + (1 : Int32))), none], [])) rfl ?_
        exact ih _ _ _ _ _ _ _ _ _ _ H
set_option maxHeartbeats 4000000 in
set_option maxRecDepth 100000 in
theorem lX1_value {sc : Nat × (Nat → Int32)} {a0 : Nat} {a1 : Int32} {a2 : Int32} {a3 : Int32} {a4 : Int32} {h : am_H} {r : Int32} {h1 : am_H} (H : fX1_value a0 a1 a2 a3 a4 h = some (r, h1)) : am_Cl am_T am_N sc 2 9 [.ref a0, .int a1, .int a2, .int a3, .int a4] h (some (.int r)) h1 := by
  unfold fX1_value at H
  obtain ⟨_, hO, H⟩ := am_bd H
  obtain ⟨fs0, hO⟩ := am_isO_ok hO
  refine am_mk (q := qX1_value) rfl (fun _ => ⟨_, _, _, _, _, rfl, hO, rfl, rfl⟩) (fun z => absurd z (by decide)) (Nat.le_of_ble_eq_true rfl) rfl ?_
  show am_G sc (am_Cl am_T am_N sc 1) (am_at kX1_value) (fun t => t.2 = h1 ∧ am_ret 1 (am_at kX1_value) t.1 = some (some (.int r))) ((0, [some (.ref a0), some (.int a1), some (.int a2), some (.int a3), some (.int a4), none, none, none], []), h)
  refine am_G.fr 4 (g := (6, [some (.ref a0), some (.int a1), some (.int a2), some (.int a3), some (.int a4), some (.int ((0 : Int32))), some (.int ((0 : Int32))), none], [])) rfl ?_
  obtain ⟨lw55, hh56, E57, H⟩ := am_bd2 H
  refine am_G.sq (lX1_value_L6 _ _ _ _ _ _ _ _ _ _ _ E57) ?_
  clear E57
  refine am_G.fr 1 (g := (188, [some (.ref a0), none, none, none, none, some (.int lw55), none, none], [.int lw55])) rfl ?_
  obtain ⟨js58, E64, H⟩ := am_bd H
  refine am_G.sq (t := ((204, [none, none, none, none, none, none, none, none], [.int js58]), hh56)) ?_ ?_
  · clear H
    have H := E64
    clear E64
    by_cases c59 : lw55 ≤ 0
    · rw [if_pos c59] at H
      refine am_G.br (tgt := 203) rfl rfl (if_pos c59) rfl ?_
      refine am_G.fr 1 (g := (204, [some (.ref a0), none, none, none, none, some (.int lw55), none, none], [.int ((0 : Int32))])) rfl ?_
      obtain rfl := Option.some.inj H
      refine am_G.fg [none, none, none, none, none, none, none, none] (by simp only [am_sub, and_self]) ?_
      exact am_G.nd rfl
    · rw [if_neg c59] at H
      refine am_G.br (tgt := 191) rfl rfl (if_neg c59) rfl ?_
      refine am_G.fr 1 (g := (192, [some (.ref a0), none, none, none, none, some (.int lw55), none, none], [.ref a0])) rfl ?_
      obtain ⟨pile60, e61, H⟩ := am_bd H
      refine am_G.gR rfl e61 ?_
      refine am_G.fr 3 (g := (199, [some (.ref a0), none, none, none, none, some (.int lw55), none, none], [.int (lw55 - ((1 : Int32))), .ref pile60])) rfl ?_
      obtain ⟨x62, e63, H⟩ := am_bd H
      refine am_G.aI rfl e63 ?_
      refine am_G.fr 1 (g := (204, [some (.ref a0), none, none, none, none, some (.int lw55), none, none], [.int x62])) rfl ?_
      obtain rfl := Option.some.inj H
      refine am_G.fg [none, none, none, none, none, none, none, none] (by simp only [am_sub, and_self]) ?_
      exact am_G.nd rfl
  · clear E64
    obtain ⟨rfl, rfl⟩ := am_inj2 H
    exact am_G.nd ⟨rfl, rfl⟩
def fX5_init (a0 : Nat) (h : am_H) : Option (am_H) :=
  am_b2 (am_nA h 0 ((8 : Int32))) fun a1 hh2 =>
  (am_pF hh2 a0 4 0 (.ref a1)).bind fun hh4 =>
  am_b2 (am_nA hh4 0 ((8 : Int32))) fun a6 hh7 =>
  (am_pF hh7 a0 4 1 (.ref a6)).bind fun hh9 =>
  some hh9
set_option maxHeartbeats 4000000 in
set_option maxRecDepth 100000 in
theorem lX5_init {sc : Nat × (Nat → Int32)} {a0 : Nat} {h : am_H} {h1 : am_H} (H : fX5_init a0 h = some h1) : am_Cl am_T am_N sc 1 32 [.ref a0] h none h1 := by
  unfold fX5_init at H
  refine am_mk (q := qX5_init) rfl (fun z => absurd z (by decide)) (fun _ => ⟨_, _, rfl⟩) (Nat.le_of_ble_eq_true rfl) rfl ?_
  show am_G sc (am_Cl am_T am_N sc 0) (am_at kX5_init) (fun t => t.2 = h1 ∧ am_ret 0 (am_at kX5_init) t.1 = some none) ((0, [some (.ref a0)], []), h)
  refine am_G.fr 1 (g := (1, [some (.ref a0)], [.ref a0])) rfl ?_
  refine am_G.oi rfl (Nat.le_of_ble_eq_true rfl) ?_
  refine am_G.fr 2 (g := (7, [some (.ref a0)], [.int ((8 : Int32)), .ref a0])) rfl ?_
  obtain ⟨a1, hh2, e3, H⟩ := am_bd2 H
  refine am_G.nA rfl e3 ?_
  obtain ⟨hh4, e5, H⟩ := am_bd H
  refine am_G.pF rfl e5 ?_
  refine am_G.fr 2 (g := (15, [some (.ref a0)], [.int ((8 : Int32)), .ref a0])) rfl ?_
  obtain ⟨a6, hh7, e8, H⟩ := am_bd2 H
  refine am_G.nA rfl e8 ?_
  obtain ⟨hh9, e10, H⟩ := am_bd H
  refine am_G.pF rfl e10 ?_
  obtain rfl := Option.some.inj H
  exact am_G.nd ⟨rfl, rfl⟩
def fX2_init (a0 : Nat) (h : am_H) : Option (am_H) :=
  am_b2 (am_nO h 5) fun a1 hh2 =>
  (fX6_init a1 hh2).bind fun hh5 =>
  (am_pF hh5 a0 2 0 (.ref a1)).bind fun hh6 =>
  am_b2 (am_nO hh6 4) fun a8 hh9 =>
  (fX5_init a8 hh9).bind fun hh12 =>
  (am_pF hh12 a0 2 1 (.ref a8)).bind fun hh13 =>
  some hh13
set_option maxHeartbeats 4000000 in
set_option maxRecDepth 100000 in
theorem lX2_init {sc : Nat × (Nat → Int32)} {a0 : Nat} {h : am_H} {h1 : am_H} (H : fX2_init a0 h = some h1) : am_Cl am_T am_N sc 3 11 [.ref a0] h none h1 := by
  unfold fX2_init at H
  refine am_mk (q := qX2_init) rfl (fun z => absurd z (by decide)) (fun _ => ⟨_, _, rfl⟩) (Nat.le_of_ble_eq_true rfl) rfl ?_
  show am_G sc (am_Cl am_T am_N sc 2) (am_at kX2_init) (fun t => t.2 = h1 ∧ am_ret 0 (am_at kX2_init) t.1 = some none) ((0, [some (.ref a0)], []), h)
  refine am_G.fr 1 (g := (1, [some (.ref a0)], [.ref a0])) rfl ?_
  refine am_G.oi rfl (Nat.le_of_ble_eq_true rfl) ?_
  refine am_G.fr 1 (g := (5, [some (.ref a0)], [.ref a0])) rfl ?_
  obtain ⟨a1, hh2, e3, H⟩ := am_bd2 H
  refine am_G.nO rfl e3 ?_
  refine am_G.fr 1 (g := (9, [some (.ref a0)], [.ref a1, .ref a1, .ref a0])) rfl ?_
  obtain ⟨hh5, e4, H⟩ := am_bd H
  refine am_G.cl [.ref a1] [.ref a1, .ref a0] (am_Cl.mono (by decide) (lX6_init e4)) rfl rfl rfl rfl (Nat.le_of_ble_eq_true rfl) ?_
  obtain ⟨hh6, e7, H⟩ := am_bd H
  refine am_G.pF rfl e7 ?_
  refine am_G.fr 1 (g := (16, [some (.ref a0)], [.ref a0])) rfl ?_
  obtain ⟨a8, hh9, e10, H⟩ := am_bd2 H
  refine am_G.nO rfl e10 ?_
  refine am_G.fr 1 (g := (20, [some (.ref a0)], [.ref a8, .ref a8, .ref a0])) rfl ?_
  obtain ⟨hh12, e11, H⟩ := am_bd H
  refine am_G.cl [.ref a8] [.ref a8, .ref a0] (am_Cl.mono (by decide) (lX5_init e11)) rfl rfl rfl rfl (Nat.le_of_ble_eq_true rfl) ?_
  obtain ⟨hh13, e14, H⟩ := am_bd H
  refine am_G.pF rfl e14 ?_
  obtain rfl := Option.some.inj H
  exact am_G.nd ⟨rfl, rfl⟩
def fX5_copyFrom (a0 : Nat) (a1 : Nat) (h : am_H) : Option (am_H) :=
  (am_isO h a0 4).bind fun _ =>
  (am_gR h a1 4 0).bind fun house1 =>
  (am_gR h a0 4 0).bind fun house3 =>
  (am_cp h house1 ((0 : Int32)) house3 ((0 : Int32)) ((8 : Int32))).bind fun hh5 =>
  (am_gR hh5 a1 4 1).bind fun behind7 =>
  (am_gR hh5 a0 4 1).bind fun behind9 =>
  (am_cp hh5 behind7 ((0 : Int32)) behind9 ((0 : Int32)) ((8 : Int32))).bind fun hh11 =>
  (am_gI hh11 a1 4 2).bind fun size13 =>
  (am_pF hh11 a0 4 2 (.int size13)).bind fun hh15 =>
  some hh15
set_option maxHeartbeats 4000000 in
set_option maxRecDepth 100000 in
theorem lX5_copyFrom {sc : Nat × (Nat → Int32)} {a0 : Nat} {a1 : Nat} {h : am_H} {h1 : am_H} (H : fX5_copyFrom a0 a1 h = some h1) : am_Cl am_T am_N sc 1 34 [.ref a0, .ref a1] h none h1 := by
  unfold fX5_copyFrom at H
  obtain ⟨_, hO, H⟩ := am_bd H
  obtain ⟨fs0, hO⟩ := am_isO_ok hO
  refine am_mk (q := qX5_copyFrom) rfl (fun _ => ⟨_, _, _, _, _, rfl, hO, rfl, rfl⟩) (fun z => absurd z (by decide)) (Nat.le_of_ble_eq_true rfl) rfl ?_
  show am_G sc (am_Cl am_T am_N sc 0) (am_at kX5_copyFrom) (fun t => t.2 = h1 ∧ am_ret 0 (am_at kX5_copyFrom) t.1 = some none) ((0, [some (.ref a0), some (.ref a1)], []), h)
  refine am_G.fr 1 (g := (1, [some (.ref a0), some (.ref a1)], [.ref a1])) rfl ?_
  obtain ⟨house1, e2, H⟩ := am_bd H
  refine am_G.gR rfl e2 ?_
  refine am_G.fr 2 (g := (6, [some (.ref a0), some (.ref a1)], [.ref a0, .int ((0 : Int32)), .ref house1])) rfl ?_
  obtain ⟨house3, e4, H⟩ := am_bd H
  refine am_G.gR rfl e4 ?_
  refine am_G.fr 2 (g := (12, [some (.ref a0), some (.ref a1)], [.int ((8 : Int32)), .int ((0 : Int32)), .ref house3, .int ((0 : Int32)), .ref house1])) rfl ?_
  obtain ⟨hh5, e6, H⟩ := am_bd H
  refine am_G.cp rfl (Nat.le_of_ble_eq_true rfl) e6 ?_
  refine am_G.fr 1 (g := (16, [some (.ref a0), some (.ref a1)], [.ref a1])) rfl ?_
  obtain ⟨behind7, e8, H⟩ := am_bd H
  refine am_G.gR rfl e8 ?_
  refine am_G.fr 2 (g := (21, [some (.ref a0), some (.ref a1)], [.ref a0, .int ((0 : Int32)), .ref behind7])) rfl ?_
  obtain ⟨behind9, e10, H⟩ := am_bd H
  refine am_G.gR rfl e10 ?_
  refine am_G.fr 2 (g := (27, [some (.ref a0), some (.ref a1)], [.int ((8 : Int32)), .int ((0 : Int32)), .ref behind9, .int ((0 : Int32)), .ref behind7])) rfl ?_
  obtain ⟨hh11, e12, H⟩ := am_bd H
  refine am_G.cp rfl (Nat.le_of_ble_eq_true rfl) e12 ?_
  refine am_G.fr 2 (g := (32, [some (.ref a0), some (.ref a1)], [.ref a1, .ref a0])) rfl ?_
  obtain ⟨size13, e14, H⟩ := am_bd H
  refine am_G.gI rfl e14 ?_
  obtain ⟨hh15, e16, H⟩ := am_bd H
  refine am_G.pF rfl e16 ?_
  obtain rfl := Option.some.inj H
  exact am_G.nd ⟨rfl, rfl⟩
def fX2_lay (a0 : Nat) (a1 : Nat) (a2 : Nat) (h : am_H) : Option (am_H) :=
  (am_isO h a0 2).bind fun _ =>
  (am_gR h a0 2 0).bind fun stand1 =>
  (fX6_copyFrom stand1 a1 h).bind fun hh4 =>
  (am_gR hh4 a0 2 1).bind fun seen5 =>
  (fX5_copyFrom seen5 a2 hh4).bind fun hh8 =>
  (am_pF hh8 a0 2 2 (.int ((1 : Int32)))).bind fun hh9 =>
  some hh9
set_option maxHeartbeats 4000000 in
set_option maxRecDepth 100000 in
theorem lX2_lay {sc : Nat × (Nat → Int32)} {a0 : Nat} {a1 : Nat} {a2 : Nat} {h : am_H} {h1 : am_H} (H : fX2_lay a0 a1 a2 h = some h1) : am_Cl am_T am_N sc 2 12 [.ref a0, .ref a1, .ref a2] h none h1 := by
  unfold fX2_lay at H
  obtain ⟨_, hO, H⟩ := am_bd H
  obtain ⟨fs0, hO⟩ := am_isO_ok hO
  refine am_mk (q := qX2_lay) rfl (fun _ => ⟨_, _, _, _, _, rfl, hO, rfl, rfl⟩) (fun z => absurd z (by decide)) (Nat.le_of_ble_eq_true rfl) rfl ?_
  show am_G sc (am_Cl am_T am_N sc 1) (am_at kX2_lay) (fun t => t.2 = h1 ∧ am_ret 0 (am_at kX2_lay) t.1 = some none) ((0, [some (.ref a0), some (.ref a1), some (.ref a2)], []), h)
  refine am_G.fr 1 (g := (1, [some (.ref a0), some (.ref a1), some (.ref a2)], [.ref a0])) rfl ?_
  obtain ⟨stand1, e2, H⟩ := am_bd H
  refine am_G.gR rfl e2 ?_
  refine am_G.fr 1 (g := (5, [some (.ref a0), some (.ref a1), some (.ref a2)], [.ref a1, .ref stand1])) rfl ?_
  obtain ⟨hh4, e3, H⟩ := am_bd H
  refine am_G.cl [.ref stand1, .ref a1] [] (am_Cl.mono (by decide) (lX6_copyFrom e3)) rfl rfl rfl rfl (Nat.le_of_ble_eq_true rfl) ?_
  refine am_G.fr 1 (g := (9, [some (.ref a0), some (.ref a1), some (.ref a2)], [.ref a0])) rfl ?_
  obtain ⟨seen5, e6, H⟩ := am_bd H
  refine am_G.gR rfl e6 ?_
  refine am_G.fr 1 (g := (13, [some (.ref a0), some (.ref a1), some (.ref a2)], [.ref a2, .ref seen5])) rfl ?_
  obtain ⟨hh8, e7, H⟩ := am_bd H
  refine am_G.cl [.ref seen5, .ref a2] [] (am_Cl.mono (by decide) (lX5_copyFrom e7)) rfl rfl rfl rfl (Nat.le_of_ble_eq_true rfl) ?_
  refine am_G.fr 2 (g := (18, [some (.ref a0), some (.ref a1), some (.ref a2)], [.int ((1 : Int32)), .ref a0])) rfl ?_
  obtain ⟨hh9, e10, H⟩ := am_bd H
  refine am_G.pF rfl e10 ?_
  obtain rfl := Option.some.inj H
  exact am_G.nd ⟨rfl, rfl⟩
def fX3_init (a0 : Nat) (h : am_H) : Option (am_H) :=
  am_b2 (am_nA h 0 ((40 : Int32))) fun a1 hh2 =>
  (am_pF hh2 a0 3 0 (.ref a1)).bind fun hh4 =>
  am_b2 (am_nA hh4 0 ((40 : Int32))) fun a6 hh7 =>
  (am_pF hh7 a0 3 1 (.ref a6)).bind fun hh9 =>
  am_b2 (am_nA hh9 0 ((40 : Int32))) fun a11 hh12 =>
  (am_pF hh12 a0 3 2 (.ref a11)).bind fun hh14 =>
  some hh14
set_option maxHeartbeats 4000000 in
set_option maxRecDepth 100000 in
theorem lX3_init {sc : Nat × (Nat → Int32)} {a0 : Nat} {h : am_H} {h1 : am_H} (H : fX3_init a0 h = some h1) : am_Cl am_T am_N sc 1 13 [.ref a0] h none h1 := by
  unfold fX3_init at H
  refine am_mk (q := qX3_init) rfl (fun z => absurd z (by decide)) (fun _ => ⟨_, _, rfl⟩) (Nat.le_of_ble_eq_true rfl) rfl ?_
  show am_G sc (am_Cl am_T am_N sc 0) (am_at kX3_init) (fun t => t.2 = h1 ∧ am_ret 0 (am_at kX3_init) t.1 = some none) ((0, [some (.ref a0)], []), h)
  refine am_G.fr 1 (g := (1, [some (.ref a0)], [.ref a0])) rfl ?_
  refine am_G.oi rfl (Nat.le_of_ble_eq_true rfl) ?_
  refine am_G.fr 2 (g := (7, [some (.ref a0)], [.int ((40 : Int32)), .ref a0])) rfl ?_
  obtain ⟨a1, hh2, e3, H⟩ := am_bd2 H
  refine am_G.nA rfl e3 ?_
  obtain ⟨hh4, e5, H⟩ := am_bd H
  refine am_G.pF rfl e5 ?_
  refine am_G.fr 2 (g := (15, [some (.ref a0)], [.int ((40 : Int32)), .ref a0])) rfl ?_
  obtain ⟨a6, hh7, e8, H⟩ := am_bd2 H
  refine am_G.nA rfl e8 ?_
  obtain ⟨hh9, e10, H⟩ := am_bd H
  refine am_G.pF rfl e10 ?_
  refine am_G.fr 2 (g := (23, [some (.ref a0)], [.int ((40 : Int32)), .ref a0])) rfl ?_
  obtain ⟨a11, hh12, e13, H⟩ := am_bd2 H
  refine am_G.nA rfl e13 ?_
  obtain ⟨hh14, e15, H⟩ := am_bd H
  refine am_G.pF rfl e15 ?_
  obtain rfl := Option.some.inj H
  exact am_G.nd ⟨rfl, rfl⟩
def fX3_add (a0 : Nat) (a1 : Int32) (a2 : Int32) (a3 : Int32) (h : am_H) : Option (am_H) :=
  (am_isO h a0 3).bind fun _ =>
  (am_gI h a0 3 3).bind fun lines1 =>
  Option.bind (
    if ((40 : Int32)) ≤ lines1 then
      some h
    else
      (am_gR h a0 3 0).bind fun act5 =>
      (am_gI h a0 3 3).bind fun lines7 =>
      (am_sI h 0 act5 lines7 a1).bind fun hh9 =>
      (am_gR hh9 a0 3 1).bind fun day11 =>
      (am_gI hh9 a0 3 3).bind fun lines13 =>
      (am_sI hh9 0 day11 lines13 a2).bind fun hh15 =>
      (am_gR hh15 a0 3 2).bind fun house17 =>
      (am_gI hh15 a0 3 3).bind fun lines19 =>
      (am_sI hh15 0 house17 lines19 a3).bind fun hh21 =>
      (am_gI hh21 a0 3 3).bind fun lines23 =>
      (am_pF hh21 a0 3 3 (.int (lines23 + ((1 : Int32))))).bind fun hh25 =>
      some hh25) fun hh3 =>
  some hh3
set_option maxHeartbeats 4000000 in
set_option maxRecDepth 100000 in
theorem lX3_add {sc : Nat × (Nat → Int32)} {a0 : Nat} {a1 : Int32} {a2 : Int32} {a3 : Int32} {h : am_H} {h1 : am_H} (H : fX3_add a0 a1 a2 a3 h = some h1) : am_Cl am_T am_N sc 1 14 [.ref a0, .int a1, .int a2, .int a3] h none h1 := by
  unfold fX3_add at H
  obtain ⟨_, hO, H⟩ := am_bd H
  obtain ⟨fs0, hO⟩ := am_isO_ok hO
  refine am_mk (q := qX3_add) rfl (fun _ => ⟨_, _, _, _, _, rfl, hO, rfl, rfl⟩) (fun z => absurd z (by decide)) (Nat.le_of_ble_eq_true rfl) rfl ?_
  show am_G sc (am_Cl am_T am_N sc 0) (am_at kX3_add) (fun t => t.2 = h1 ∧ am_ret 0 (am_at kX3_add) t.1 = some none) ((0, [some (.ref a0), some (.int a1), some (.int a2), some (.int a3)], []), h)
  refine am_G.fr 1 (g := (1, [some (.ref a0), some (.int a1), some (.int a2), some (.int a3)], [.ref a0])) rfl ?_
  obtain ⟨lines1, e2, H⟩ := am_bd H
  refine am_G.gI rfl e2 ?_
  refine am_G.fr 1 (g := (6, [some (.ref a0), some (.int a1), some (.int a2), some (.int a3)], [.int ((40 : Int32)), .int lines1])) rfl ?_
  obtain ⟨hh3, E27, H⟩ := am_bd H
  refine am_G.sq (t := ((49, [none, none, none, none], []), hh3)) ?_ ?_
  · clear H
    have H := E27
    clear E27
    by_cases c4 : ((40 : Int32)) ≤ lines1
    · rw [if_pos c4] at H
      refine am_G.br (tgt := 49) rfl rfl (if_pos c4) rfl ?_
      obtain rfl := Option.some.inj H
      refine am_G.fg [none, none, none, none] (by simp only [am_sub, and_self]) ?_
      exact am_G.nd rfl
    · rw [if_neg c4] at H
      refine am_G.br (tgt := 9) rfl rfl (if_neg c4) rfl ?_
      refine am_G.fr 1 (g := (10, [some (.ref a0), some (.int a1), some (.int a2), some (.int a3)], [.ref a0])) rfl ?_
      obtain ⟨act5, e6, H⟩ := am_bd H
      refine am_G.gR rfl e6 ?_
      refine am_G.fr 1 (g := (14, [some (.ref a0), some (.int a1), some (.int a2), some (.int a3)], [.ref a0, .ref act5])) rfl ?_
      obtain ⟨lines7, e8, H⟩ := am_bd H
      refine am_G.gI rfl e8 ?_
      refine am_G.fr 1 (g := (18, [some (.ref a0), some (.int a1), some (.int a2), some (.int a3)], [.int a1, .int lines7, .ref act5])) rfl ?_
      obtain ⟨hh9, e10, H⟩ := am_bd H
      refine am_G.sI rfl e10 ?_
      refine am_G.fr 1 (g := (20, [some (.ref a0), some (.int a1), some (.int a2), some (.int a3)], [.ref a0])) rfl ?_
      obtain ⟨day11, e12, H⟩ := am_bd H
      refine am_G.gR rfl e12 ?_
      refine am_G.fr 1 (g := (24, [some (.ref a0), some (.int a1), some (.int a2), some (.int a3)], [.ref a0, .ref day11])) rfl ?_
      obtain ⟨lines13, e14, H⟩ := am_bd H
      refine am_G.gI rfl e14 ?_
      refine am_G.fr 1 (g := (28, [some (.ref a0), some (.int a1), some (.int a2), some (.int a3)], [.int a2, .int lines13, .ref day11])) rfl ?_
      obtain ⟨hh15, e16, H⟩ := am_bd H
      refine am_G.sI rfl e16 ?_
      refine am_G.fr 1 (g := (30, [some (.ref a0), some (.int a1), some (.int a2), some (.int a3)], [.ref a0])) rfl ?_
      obtain ⟨house17, e18, H⟩ := am_bd H
      refine am_G.gR rfl e18 ?_
      refine am_G.fr 1 (g := (34, [some (.ref a0), some (.int a1), some (.int a2), some (.int a3)], [.ref a0, .ref house17])) rfl ?_
      obtain ⟨lines19, e20, H⟩ := am_bd H
      refine am_G.gI rfl e20 ?_
      refine am_G.fr 1 (g := (38, [some (.ref a0), some (.int a1), some (.int a2), some (.int a3)], [.int a3, .int lines19, .ref house17])) rfl ?_
      obtain ⟨hh21, e22, H⟩ := am_bd H
      refine am_G.sI rfl e22 ?_
      refine am_G.fr 2 (g := (41, [some (.ref a0), some (.int a1), some (.int a2), some (.int a3)], [.ref a0, .ref a0])) rfl ?_
      obtain ⟨lines23, e24, H⟩ := am_bd H
      refine am_G.gI rfl e24 ?_
      refine am_G.fr 2 (g := (46, [some (.ref a0), some (.int a1), some (.int a2), some (.int a3)], [.int (lines23 + ((1 : Int32))), .ref a0])) rfl ?_
      obtain ⟨hh25, e26, H⟩ := am_bd H
      refine am_G.pF rfl e26 ?_
      obtain rfl := Option.some.inj H
      refine am_G.fg [none, none, none, none] (by simp only [am_sub, and_self]) ?_
      exact am_G.nd rfl
  · clear E27
    obtain rfl := Option.some.inj H
    exact am_G.nd ⟨rfl, rfl⟩
def fX6_freeBeds_L10 : Nat → Nat → Nat → Int32 → Int32 → Int32 → am_H → Option (Int32)
  | 0, _, _, _, _, _, _ => none
  | n + 1, v0, v1, v2, v3, v4, h =>
    (am_gI h v1 7 12).bind fun days5 =>
    if days5 ≤ v4 then
      some v3
    else
      (am_gR h v0 5 3).bind fun at8 =>
      (am_aI h 0 at8 v4).bind fun x10 =>
      Option.bind (
        if ¬ x10 = v2 then
          some v3
        else
          (am_gR h v1 7 9).bind fun wants14 =>
          (am_aI h 0 wants14 v4).bind fun x16 =>
          some (v3 - x16)) fun jv12 =>
      fX6_freeBeds_L10 n v0 v1 v2 jv12 (v4 + (1 : Int32)) h
def fX6_freeBeds (a0 : Nat) (a1 : Nat) (a2 : Int32) (h : am_H) : Option (Int32) :=
  (am_isO h a0 5).bind fun _ =>
  (am_gR h a0 5 0).bind fun beds1 =>
  (am_aI h 0 beds1 a2).bind fun x3 =>
  Option.bind (fX6_freeBeds_L10 4000 a0 a1 a2 x3 ((0 : Int32)) h) fun lw19 =>
  some lw19
set_option maxHeartbeats 4000000 in
set_option maxRecDepth 100000 in
theorem lX6_freeBeds_L10 {sc : Nat × (Nat → Int32)} : ∀ (n : Nat) (v0 : Nat) (v1 : Nat) (v2 : Int32) (v3 : Int32) (v4 : Int32) (h : am_H) (w3 : Int32), fX6_freeBeds_L10 n v0 v1 v2 v3 v4 h = some w3 → am_G sc (am_Cl am_T am_N sc 0) (am_at kX6_freeBeds) (fun t => t = ((46, [none, none, none, some (.int w3), none], []), h)) ((10, [some (.ref v0), some (.ref v1), some (.int v2), some (.int v3), some (.int v4)], []), h) := by
  intro n
  induction n with
  | zero => intro _ _ _ _ _ _ _ H; cases H
  | succ n ih =>
    intro v0 v1 v2 v3 v4 h w3 H
    rw [fX6_freeBeds_L10] at H
    refine am_G.fr 2 (g := (13, [some (.ref v0), some (.ref v1), some (.int v2), some (.int v3), some (.int v4)], [.ref v1, .int v4])) rfl ?_
    obtain ⟨days5, e6, H⟩ := am_bd H
    refine am_G.gI rfl e6 ?_
    by_cases c7 : days5 ≤ v4
    · rw [if_pos c7] at H
      refine am_G.br (tgt := 46) rfl rfl (if_pos c7) rfl ?_
      obtain rfl := Option.some.inj H
      refine am_G.fg [none, none, none, some (.int v3), none] (by simp only [am_sub, and_self]) ?_
      exact am_G.nd rfl
    · rw [if_neg c7] at H
      refine am_G.br (tgt := 19) rfl rfl (if_neg c7) rfl ?_
      refine am_G.fr 1 (g := (20, [some (.ref v0), some (.ref v1), some (.int v2), some (.int v3), some (.int v4)], [.ref v0])) rfl ?_
      obtain ⟨at8, e9, H⟩ := am_bd H
      refine am_G.gR rfl e9 ?_
      refine am_G.fr 1 (g := (25, [some (.ref v0), some (.ref v1), some (.int v2), some (.int v3), some (.int v4)], [.int v4, .ref at8])) rfl ?_
      obtain ⟨x10, e11, H⟩ := am_bd H
      refine am_G.aI rfl e11 ?_
      refine am_G.fr 1 (g := (27, [some (.ref v0), some (.ref v1), some (.int v2), some (.int v3), some (.int v4)], [.int v2, .int x10])) rfl ?_
      obtain ⟨jv12, E18, H⟩ := am_bd H
      refine am_G.sq (t := ((40, [some (.ref v0), some (.ref v1), some (.int v2), some (.int jv12), some (.int v4)], []), h)) ?_ ?_
      · clear H
        have H := E18
        clear E18
        by_cases c13 : ¬ x10 = v2
        · rw [if_pos c13] at H
          refine am_G.br (tgt := 40) rfl rfl (if_pos c13) rfl ?_
          obtain rfl := Option.some.inj H
          exact am_G.nd rfl
        · rw [if_neg c13] at H
          refine am_G.br (tgt := 30) rfl rfl (if_neg c13) rfl ?_
          refine am_G.fr 2 (g := (32, [some (.ref v0), some (.ref v1), some (.int v2), some (.int v3), some (.int v4)], [.ref v1, .int v3])) rfl ?_
          obtain ⟨wants14, e15, H⟩ := am_bd H
          refine am_G.gR rfl e15 ?_
          refine am_G.fr 1 (g := (37, [some (.ref v0), some (.ref v1), some (.int v2), some (.int v3), some (.int v4)], [.int v4, .ref wants14, .int v3])) rfl ?_
          obtain ⟨x16, e17, H⟩ := am_bd H
          refine am_G.aI rfl e17 ?_
          refine am_G.fr 2 (g := (40, [some (.ref v0), some (.ref v1), some (.int v2), some (.int (v3 - x16)), some (.int v4)], [])) rfl ?_
          obtain rfl := Option.some.inj H
          exact am_G.nd rfl
      · clear E18
        refine am_G.fr 2 (g := (10, [some (.ref v0), some (.ref v1), some (.int v2), some (.int jv12), some (.int (v4 + (1 : Int32)))], [])) rfl ?_
        exact ih _ _ _ _ _ _ _ H
set_option maxHeartbeats 4000000 in
set_option maxRecDepth 100000 in
theorem lX6_freeBeds {sc : Nat × (Nat → Int32)} {a0 : Nat} {a1 : Nat} {a2 : Int32} {h : am_H} {r : Int32} (H : fX6_freeBeds a0 a1 a2 h = some r) : am_Cl am_T am_N sc 1 48 [.ref a0, .ref a1, .int a2] h (some (.int r)) h := by
  unfold fX6_freeBeds at H
  obtain ⟨_, hO, H⟩ := am_bd H
  obtain ⟨fs0, hO⟩ := am_isO_ok hO
  refine am_mk (q := qX6_freeBeds) rfl (fun _ => ⟨_, _, _, _, _, rfl, hO, rfl, rfl⟩) (fun z => absurd z (by decide)) (Nat.le_of_ble_eq_true rfl) rfl ?_
  show am_G sc (am_Cl am_T am_N sc 0) (am_at kX6_freeBeds) (fun t => t.2 = h ∧ am_ret 1 (am_at kX6_freeBeds) t.1 = some (some (.int r))) ((0, [some (.ref a0), some (.ref a1), some (.int a2), none, none], []), h)
  refine am_G.fr 1 (g := (1, [some (.ref a0), some (.ref a1), some (.int a2), none, none], [.ref a0])) rfl ?_
  obtain ⟨beds1, e2, H⟩ := am_bd H
  refine am_G.gR rfl e2 ?_
  refine am_G.fr 1 (g := (5, [some (.ref a0), some (.ref a1), some (.int a2), none, none], [.int a2, .ref beds1])) rfl ?_
  obtain ⟨x3, e4, H⟩ := am_bd H
  refine am_G.aI rfl e4 ?_
  refine am_G.fr 3 (g := (10, [some (.ref a0), some (.ref a1), some (.int a2), some (.int x3), some (.int ((0 : Int32)))], [])) rfl ?_
  obtain ⟨lw19, E20, H⟩ := am_bd H
  refine am_G.sq (lX6_freeBeds_L10 _ _ _ _ _ _ _ _ E20) ?_
  clear E20
  refine am_G.fr 1 (g := (47, [none, none, none, some (.int lw19), none], [.int lw19])) rfl ?_
  obtain rfl := Option.some.inj H
  exact am_G.nd ⟨rfl, rfl⟩
def fX6_guests_L5 : Nat → Nat → Nat → Int32 → Int32 → Int32 → am_H → Option (Int32)
  | 0, _, _, _, _, _, _ => none
  | n + 1, v0, v1, v2, v3, v4, h =>
    (am_gI h v1 7 12).bind fun days1 =>
    if days1 ≤ v4 then
      some v3
    else
      (am_gR h v0 5 3).bind fun at4 =>
      (am_aI h 0 at4 v4).bind fun x6 =>
      Option.bind (
        if ¬ x6 = v2 then
          some v3
        else
          some (v3 ||| (((1 : Int32)) <<< (v4 &&& 31)))) fun jv8 =>
      fX6_guests_L5 n v0 v1 v2 jv8 (v4 + (1 : Int32)) h
def fX6_guests (a0 : Nat) (a1 : Nat) (a2 : Int32) (h : am_H) : Option (Int32) :=
  (am_isO h a0 5).bind fun _ =>
  Option.bind (fX6_guests_L5 4000 a0 a1 a2 ((0 : Int32)) ((0 : Int32)) h) fun lw11 =>
  some lw11
set_option maxHeartbeats 4000000 in
set_option maxRecDepth 100000 in
theorem lX6_guests_L5 {sc : Nat × (Nat → Int32)} : ∀ (n : Nat) (v0 : Nat) (v1 : Nat) (v2 : Int32) (v3 : Int32) (v4 : Int32) (h : am_H) (w3 : Int32), fX6_guests_L5 n v0 v1 v2 v3 v4 h = some w3 → am_G sc (am_Cl am_T am_N sc 0) (am_at kX6_guests) (fun t => t = ((38, [none, none, none, some (.int w3), none], []), h)) ((5, [some (.ref v0), some (.ref v1), some (.int v2), some (.int v3), some (.int v4)], []), h) := by
  intro n
  induction n with
  | zero => intro _ _ _ _ _ _ _ H; cases H
  | succ n ih =>
    intro v0 v1 v2 v3 v4 h w3 H
    rw [fX6_guests_L5] at H
    refine am_G.fr 2 (g := (8, [some (.ref v0), some (.ref v1), some (.int v2), some (.int v3), some (.int v4)], [.ref v1, .int v4])) rfl ?_
    obtain ⟨days1, e2, H⟩ := am_bd H
    refine am_G.gI rfl e2 ?_
    by_cases c3 : days1 ≤ v4
    · rw [if_pos c3] at H
      refine am_G.br (tgt := 38) rfl rfl (if_pos c3) rfl ?_
      obtain rfl := Option.some.inj H
      refine am_G.fg [none, none, none, some (.int v3), none] (by simp only [am_sub, and_self]) ?_
      exact am_G.nd rfl
    · rw [if_neg c3] at H
      refine am_G.br (tgt := 14) rfl rfl (if_neg c3) rfl ?_
      refine am_G.fr 1 (g := (15, [some (.ref v0), some (.ref v1), some (.int v2), some (.int v3), some (.int v4)], [.ref v0])) rfl ?_
      obtain ⟨at4, e5, H⟩ := am_bd H
      refine am_G.gR rfl e5 ?_
      refine am_G.fr 1 (g := (20, [some (.ref v0), some (.ref v1), some (.int v2), some (.int v3), some (.int v4)], [.int v4, .ref at4])) rfl ?_
      obtain ⟨x6, e7, H⟩ := am_bd H
      refine am_G.aI rfl e7 ?_
      refine am_G.fr 1 (g := (22, [some (.ref v0), some (.ref v1), some (.int v2), some (.int v3), some (.int v4)], [.int v2, .int x6])) rfl ?_
      obtain ⟨jv8, E10, H⟩ := am_bd H
      refine am_G.sq (t := ((32, [some (.ref v0), some (.ref v1), some (.int v2), some (.int jv8), some (.int v4)], []), h)) ?_ ?_
      · clear H
        have H := E10
        clear E10
        by_cases c9 : ¬ x6 = v2
        · rw [if_pos c9] at H
          refine am_G.br (tgt := 32) rfl rfl (if_pos c9) rfl ?_
          obtain rfl := Option.some.inj H
          exact am_G.nd rfl
        · rw [if_neg c9] at H
          refine am_G.br (tgt := 25) rfl rfl (if_neg c9) rfl ?_
          refine am_G.fr 6 (g := (32, [some (.ref v0), some (.ref v1), some (.int v2), some (.int (v3 ||| (((1 : Int32)) <<< (v4 &&& 31)))), some (.int v4)], [])) rfl ?_
          obtain rfl := Option.some.inj H
          exact am_G.nd rfl
      · clear E10
        refine am_G.fr 2 (g := (5, [some (.ref v0), some (.ref v1), some (.int v2), some (.int jv8), some (.int (v4 + (1 : Int32)))], [])) rfl ?_
        exact ih _ _ _ _ _ _ _ H
set_option maxHeartbeats 4000000 in
set_option maxRecDepth 100000 in
theorem lX6_guests {sc : Nat × (Nat → Int32)} {a0 : Nat} {a1 : Nat} {a2 : Int32} {h : am_H} {r : Int32} (H : fX6_guests a0 a1 a2 h = some r) : am_Cl am_T am_N sc 1 49 [.ref a0, .ref a1, .int a2] h (some (.int r)) h := by
  unfold fX6_guests at H
  obtain ⟨_, hO, H⟩ := am_bd H
  obtain ⟨fs0, hO⟩ := am_isO_ok hO
  refine am_mk (q := qX6_guests) rfl (fun _ => ⟨_, _, _, _, _, rfl, hO, rfl, rfl⟩) (fun z => absurd z (by decide)) (Nat.le_of_ble_eq_true rfl) rfl ?_
  show am_G sc (am_Cl am_T am_N sc 0) (am_at kX6_guests) (fun t => t.2 = h ∧ am_ret 1 (am_at kX6_guests) t.1 = some (some (.int r))) ((0, [some (.ref a0), some (.ref a1), some (.int a2), none, none], []), h)
  refine am_G.fr 4 (g := (5, [some (.ref a0), some (.ref a1), some (.int a2), some (.int ((0 : Int32))), some (.int ((0 : Int32)))], [])) rfl ?_
  obtain ⟨lw11, E12, H⟩ := am_bd H
  refine am_G.sq (lX6_guests_L5 _ _ _ _ _ _ _ _ E12) ?_
  clear E12
  refine am_G.fr 1 (g := (39, [none, none, none, some (.int lw11), none], [.int lw11])) rfl ?_
  obtain rfl := Option.some.inj H
  exact am_G.nd ⟨rfl, rfl⟩
def fX6_holds (a0 : Nat) (a1 : Nat) (a2 : Int32) (a3 : Int32) (h : am_H) : Option (Int32) :=
  (am_isO h a0 5).bind fun _ =>
  (fX6_freeBeds a0 a1 a2 h).bind fun x2 =>
  (am_gR h a1 7 9).bind fun wants3 =>
  (am_aI h 0 wants3 a3).bind fun x5 =>
  Option.bind (
    if x2 < x5 then
      some ((0 : Int32))
    else
      (fX6_guests a0 a1 a2 h).bind fun x10 =>
      (am_gR h a1 7 8).bind fun foes11 =>
      (am_aI h 0 foes11 a3).bind fun x13 =>
      if ¬ (x10 &&& x13) = 0 then
        some ((0 : Int32))
      else
        some ((1 : Int32))) fun js7 =>
  (am_z01 js7).bind fun b16 =>
  some b16
set_option maxHeartbeats 4000000 in
set_option maxRecDepth 100000 in
theorem lX6_holds {sc : Nat × (Nat → Int32)} {a0 : Nat} {a1 : Nat} {a2 : Int32} {a3 : Int32} {h : am_H} {r : Int32} (H : fX6_holds a0 a1 a2 a3 h = some r) : am_Cl am_T am_N sc 2 45 [.ref a0, .ref a1, .int a2, .int a3] h (some (.int r)) h := by
  unfold fX6_holds at H
  obtain ⟨_, hO, H⟩ := am_bd H
  obtain ⟨fs0, hO⟩ := am_isO_ok hO
  refine am_mk (q := qX6_holds) rfl (fun _ => ⟨_, _, _, _, _, rfl, hO, rfl, rfl⟩) (fun z => absurd z (by decide)) (Nat.le_of_ble_eq_true rfl) rfl ?_
  show am_G sc (am_Cl am_T am_N sc 1) (am_at kX6_holds) (fun t => t.2 = h ∧ am_ret 2 (am_at kX6_holds) t.1 = some (some (.int r))) ((0, [some (.ref a0), some (.ref a1), some (.int a2), some (.int a3)], []), h)
  refine am_G.fr 3 (g := (3, [some (.ref a0), some (.ref a1), some (.int a2), some (.int a3)], [.int a2, .ref a1, .ref a0])) rfl ?_
  obtain ⟨x2, e1, H⟩ := am_bd H
  refine am_G.cl [.ref a0, .ref a1, .int a2] [] (am_Cl.mono (by decide) (lX6_freeBeds e1)) rfl rfl rfl rfl (Nat.le_of_ble_eq_true rfl) ?_
  refine am_G.fr 1 (g := (7, [some (.ref a0), some (.ref a1), some (.int a2), some (.int a3)], [.ref a1, .int x2])) rfl ?_
  obtain ⟨wants3, e4, H⟩ := am_bd H
  refine am_G.gR rfl e4 ?_
  refine am_G.fr 1 (g := (11, [some (.ref a0), some (.ref a1), some (.int a2), some (.int a3)], [.int a3, .ref wants3, .int x2])) rfl ?_
  obtain ⟨x5, e6, H⟩ := am_bd H
  refine am_G.aI rfl e6 ?_
  obtain ⟨js7, E18, H⟩ := am_bd H
  refine am_G.sq (t := ((36, [none, none, none, none], [.int js7]), h)) ?_ ?_
  · clear H
    have H := E18
    clear E18
    by_cases c8 : x2 < x5
    · rw [if_pos c8] at H
      refine am_G.br (tgt := 35) rfl rfl (if_pos c8) rfl ?_
      refine am_G.fr 1 (g := (36, [some (.ref a0), some (.ref a1), some (.int a2), some (.int a3)], [.int ((0 : Int32))])) rfl ?_
      obtain rfl := Option.some.inj H
      refine am_G.fg [none, none, none, none] (by simp only [am_sub, and_self]) ?_
      exact am_G.nd rfl
    · rw [if_neg c8] at H
      refine am_G.br (tgt := 15) rfl rfl (if_neg c8) rfl ?_
      refine am_G.fr 3 (g := (18, [some (.ref a0), some (.ref a1), some (.int a2), some (.int a3)], [.int a2, .ref a1, .ref a0])) rfl ?_
      obtain ⟨x10, e9, H⟩ := am_bd H
      refine am_G.cl [.ref a0, .ref a1, .int a2] [] (am_Cl.mono (by decide) (lX6_guests e9)) rfl rfl rfl rfl (Nat.le_of_ble_eq_true rfl) ?_
      refine am_G.fr 1 (g := (22, [some (.ref a0), some (.ref a1), some (.int a2), some (.int a3)], [.ref a1, .int x10])) rfl ?_
      obtain ⟨foes11, e12, H⟩ := am_bd H
      refine am_G.gR rfl e12 ?_
      refine am_G.fr 1 (g := (26, [some (.ref a0), some (.ref a1), some (.int a2), some (.int a3)], [.int a3, .ref foes11, .int x10])) rfl ?_
      obtain ⟨x13, e14, H⟩ := am_bd H
      refine am_G.aI rfl e14 ?_
      refine am_G.fr 1 (g := (28, [some (.ref a0), some (.ref a1), some (.int a2), some (.int a3)], [.int (x10 &&& x13)])) rfl ?_
      by_cases c15 : ¬ (x10 &&& x13) = 0
      · rw [if_pos c15] at H
        refine am_G.br (tgt := 35) rfl rfl (if_pos c15) rfl ?_
        refine am_G.fr 1 (g := (36, [some (.ref a0), some (.ref a1), some (.int a2), some (.int a3)], [.int ((0 : Int32))])) rfl ?_
        obtain rfl := Option.some.inj H
        refine am_G.fg [none, none, none, none] (by simp only [am_sub, and_self]) ?_
        exact am_G.nd rfl
      · rw [if_neg c15] at H
        refine am_G.br (tgt := 31) rfl rfl (if_neg c15) rfl ?_
        refine am_G.fr 2 (g := (36, [some (.ref a0), some (.ref a1), some (.int a2), some (.int a3)], [.int ((1 : Int32))])) rfl ?_
        obtain rfl := Option.some.inj H
        refine am_G.fg [none, none, none, none] (by simp only [am_sub, and_self]) ?_
        exact am_G.nd rfl
  · clear E18
    obtain ⟨b16, e17, H⟩ := am_bd H
    obtain rfl := Option.some.inj H
    exact am_G.nd ⟨rfl, am_ret2 rfl e17⟩
def fX6_canShift (a0 : Nat) (a1 : Nat) (a2 : Int32) (a3 : Int32) (h : am_H) : Option (Int32) :=
  (am_isO h a0 5).bind fun _ =>
  (am_gR h a0 5 3).bind fun at1 =>
  (am_aI h 0 at1 a2).bind fun x3 =>
  Option.bind (
    if x3 = ((-1 : Int32)) then
      some ((0 : Int32))
    else
      (am_gR h a0 5 3).bind fun at7 =>
      (am_aI h 0 at7 a2).bind fun x9 =>
      if x9 = a3 then
        some ((0 : Int32))
      else
        (fX6_holds a0 a1 a3 a2 h).bind fun x13 =>
        if x13 = 0 then
          some ((0 : Int32))
        else
          some ((1 : Int32))) fun js5 =>
  (am_z01 js5).bind fun b15 =>
  some b15
set_option maxHeartbeats 4000000 in
set_option maxRecDepth 100000 in
theorem lX6_canShift {sc : Nat × (Nat → Int32)} {a0 : Nat} {a1 : Nat} {a2 : Int32} {a3 : Int32} {h : am_H} {r : Int32} (H : fX6_canShift a0 a1 a2 a3 h = some r) : am_Cl am_T am_N sc 3 46 [.ref a0, .ref a1, .int a2, .int a3] h (some (.int r)) h := by
  unfold fX6_canShift at H
  obtain ⟨_, hO, H⟩ := am_bd H
  obtain ⟨fs0, hO⟩ := am_isO_ok hO
  refine am_mk (q := qX6_canShift) rfl (fun _ => ⟨_, _, _, _, _, rfl, hO, rfl, rfl⟩) (fun z => absurd z (by decide)) (Nat.le_of_ble_eq_true rfl) rfl ?_
  show am_G sc (am_Cl am_T am_N sc 2) (am_at kX6_canShift) (fun t => t.2 = h ∧ am_ret 2 (am_at kX6_canShift) t.1 = some (some (.int r))) ((0, [some (.ref a0), some (.ref a1), some (.int a2), some (.int a3)], []), h)
  refine am_G.fr 1 (g := (1, [some (.ref a0), some (.ref a1), some (.int a2), some (.int a3)], [.ref a0])) rfl ?_
  obtain ⟨at1, e2, H⟩ := am_bd H
  refine am_G.gR rfl e2 ?_
  refine am_G.fr 1 (g := (5, [some (.ref a0), some (.ref a1), some (.int a2), some (.int a3)], [.int a2, .ref at1])) rfl ?_
  obtain ⟨x3, e4, H⟩ := am_bd H
  refine am_G.aI rfl e4 ?_
  refine am_G.fr 1 (g := (7, [some (.ref a0), some (.ref a1), some (.int a2), some (.int a3)], [.int ((-1 : Int32)), .int x3])) rfl ?_
  obtain ⟨js5, E17, H⟩ := am_bd H
  refine am_G.sq (t := ((35, [none, none, none, none], [.int js5]), h)) ?_ ?_
  · clear H
    have H := E17
    clear E17
    by_cases c6 : x3 = ((-1 : Int32))
    · rw [if_pos c6] at H
      refine am_G.br (tgt := 34) rfl rfl (if_pos c6) rfl ?_
      refine am_G.fr 1 (g := (35, [some (.ref a0), some (.ref a1), some (.int a2), some (.int a3)], [.int ((0 : Int32))])) rfl ?_
      obtain rfl := Option.some.inj H
      refine am_G.fg [none, none, none, none] (by simp only [am_sub, and_self]) ?_
      exact am_G.nd rfl
    · rw [if_neg c6] at H
      refine am_G.br (tgt := 10) rfl rfl (if_neg c6) rfl ?_
      refine am_G.fr 1 (g := (11, [some (.ref a0), some (.ref a1), some (.int a2), some (.int a3)], [.ref a0])) rfl ?_
      obtain ⟨at7, e8, H⟩ := am_bd H
      refine am_G.gR rfl e8 ?_
      refine am_G.fr 1 (g := (15, [some (.ref a0), some (.ref a1), some (.int a2), some (.int a3)], [.int a2, .ref at7])) rfl ?_
      obtain ⟨x9, e10, H⟩ := am_bd H
      refine am_G.aI rfl e10 ?_
      refine am_G.fr 1 (g := (17, [some (.ref a0), some (.ref a1), some (.int a2), some (.int a3)], [.int a3, .int x9])) rfl ?_
      by_cases c11 : x9 = a3
      · rw [if_pos c11] at H
        refine am_G.br (tgt := 34) rfl rfl (if_pos c11) rfl ?_
        refine am_G.fr 1 (g := (35, [some (.ref a0), some (.ref a1), some (.int a2), some (.int a3)], [.int ((0 : Int32))])) rfl ?_
        obtain rfl := Option.some.inj H
        refine am_G.fg [none, none, none, none] (by simp only [am_sub, and_self]) ?_
        exact am_G.nd rfl
      · rw [if_neg c11] at H
        refine am_G.br (tgt := 20) rfl rfl (if_neg c11) rfl ?_
        refine am_G.fr 4 (g := (24, [some (.ref a0), some (.ref a1), some (.int a2), some (.int a3)], [.int a2, .int a3, .ref a1, .ref a0])) rfl ?_
        obtain ⟨x13, e12, H⟩ := am_bd H
        refine am_G.cl [.ref a0, .ref a1, .int a3, .int a2] [] (am_Cl.mono (by decide) (lX6_holds e12)) rfl rfl rfl rfl (Nat.le_of_ble_eq_true rfl) ?_
        by_cases c14 : x13 = 0
        · rw [if_pos c14] at H
          refine am_G.br (tgt := 34) rfl rfl (if_pos c14) rfl ?_
          refine am_G.fr 1 (g := (35, [some (.ref a0), some (.ref a1), some (.int a2), some (.int a3)], [.int ((0 : Int32))])) rfl ?_
          obtain rfl := Option.some.inj H
          refine am_G.fg [none, none, none, none] (by simp only [am_sub, and_self]) ?_
          exact am_G.nd rfl
        · rw [if_neg c14] at H
          refine am_G.br (tgt := 30) rfl rfl (if_neg c14) rfl ?_
          refine am_G.fr 2 (g := (35, [some (.ref a0), some (.ref a1), some (.int a2), some (.int a3)], [.int ((1 : Int32))])) rfl ?_
          obtain rfl := Option.some.inj H
          refine am_G.fg [none, none, none, none] (by simp only [am_sub, and_self]) ?_
          exact am_G.nd rfl
  · clear E17
    obtain ⟨b15, e16, H⟩ := am_bd H
    obtain rfl := Option.some.inj H
    exact am_G.nd ⟨rfl, am_ret2 rfl e16⟩
def fX6_leave (a0 : Nat) (a1 : Int32) (h : am_H) : Option (am_H) :=
  (am_isO h a0 5).bind fun _ =>
  (am_gR h a0 5 3).bind fun at1 =>
  (am_sI h 0 at1 a1 ((-1 : Int32))).bind fun hh3 =>
  (am_gR hh3 a0 5 4).bind fun been5 =>
  (am_sI hh3 0 been5 a1 ((0 : Int32))).bind fun hh7 =>
  some hh7
set_option maxHeartbeats 4000000 in
set_option maxRecDepth 100000 in
theorem lX6_leave {sc : Nat × (Nat → Int32)} {a0 : Nat} {a1 : Int32} {h : am_H} {h1 : am_H} (H : fX6_leave a0 a1 h = some h1) : am_Cl am_T am_N sc 1 40 [.ref a0, .int a1] h none h1 := by
  unfold fX6_leave at H
  obtain ⟨_, hO, H⟩ := am_bd H
  obtain ⟨fs0, hO⟩ := am_isO_ok hO
  refine am_mk (q := qX6_leave) rfl (fun _ => ⟨_, _, _, _, _, rfl, hO, rfl, rfl⟩) (fun z => absurd z (by decide)) (Nat.le_of_ble_eq_true rfl) rfl ?_
  show am_G sc (am_Cl am_T am_N sc 0) (am_at kX6_leave) (fun t => t.2 = h1 ∧ am_ret 0 (am_at kX6_leave) t.1 = some none) ((0, [some (.ref a0), some (.int a1)], []), h)
  refine am_G.fr 1 (g := (1, [some (.ref a0), some (.int a1)], [.ref a0])) rfl ?_
  obtain ⟨at1, e2, H⟩ := am_bd H
  refine am_G.gR rfl e2 ?_
  refine am_G.fr 2 (g := (6, [some (.ref a0), some (.int a1)], [.int ((-1 : Int32)), .int a1, .ref at1])) rfl ?_
  obtain ⟨hh3, e4, H⟩ := am_bd H
  refine am_G.sI rfl e4 ?_
  refine am_G.fr 1 (g := (8, [some (.ref a0), some (.int a1)], [.ref a0])) rfl ?_
  obtain ⟨been5, e6, H⟩ := am_bd H
  refine am_G.gR rfl e6 ?_
  refine am_G.fr 2 (g := (13, [some (.ref a0), some (.int a1)], [.int ((0 : Int32)), .int a1, .ref been5])) rfl ?_
  obtain ⟨hh7, e8, H⟩ := am_bd H
  refine am_G.sI rfl e8 ?_
  obtain rfl := Option.some.inj H
  exact am_G.nd ⟨rfl, rfl⟩
def fX9_has (a0 : Int32) (a1 : Int32) (h : am_H) : Option (Int32) :=
  Option.bind (
    if ((a0 >>> (a1 &&& 31)) &&& ((1 : Int32))) = 0 then
      some ((0 : Int32))
    else
      some ((1 : Int32))) fun js1 =>
  (am_z01 js1).bind fun b3 =>
  some b3
set_option maxHeartbeats 4000000 in
set_option maxRecDepth 100000 in
theorem lX9_has {sc : Nat × (Nat → Int32)} {a0 : Int32} {a1 : Int32} {h : am_H} {r : Int32} (H : fX9_has a0 a1 h = some r) : am_Cl am_T am_N sc 1 132 [.int a0, .int a1] h (some (.int r)) h := by
  unfold fX9_has at H
  refine am_mk (q := qX9_has) rfl (fun z => absurd z (by decide)) (fun z => absurd z (by decide)) (Nat.le_of_ble_eq_true rfl) rfl ?_
  show am_G sc (am_Cl am_T am_N sc 0) (am_at kX9_has) (fun t => t.2 = h ∧ am_ret 2 (am_at kX9_has) t.1 = some (some (.int r))) ((0, [some (.int a0), some (.int a1)], []), h)
  refine am_G.fr 5 (g := (5, [some (.int a0), some (.int a1)], [.int ((a0 >>> (a1 &&& 31)) &&& ((1 : Int32)))])) rfl ?_
  obtain ⟨js1, E5, H⟩ := am_bd H
  refine am_G.sq (t := ((13, [none, none], [.int js1]), h)) ?_ ?_
  · clear H
    have H := E5
    clear E5
    by_cases c2 : ((a0 >>> (a1 &&& 31)) &&& ((1 : Int32))) = 0
    · rw [if_pos c2] at H
      refine am_G.br (tgt := 12) rfl rfl (if_pos c2) rfl ?_
      refine am_G.fr 1 (g := (13, [some (.int a0), some (.int a1)], [.int ((0 : Int32))])) rfl ?_
      obtain rfl := Option.some.inj H
      refine am_G.fg [none, none] (by simp only [am_sub, and_self]) ?_
      exact am_G.nd rfl
    · rw [if_neg c2] at H
      refine am_G.br (tgt := 8) rfl rfl (if_neg c2) rfl ?_
      refine am_G.fr 2 (g := (13, [some (.int a0), some (.int a1)], [.int ((1 : Int32))])) rfl ?_
      obtain rfl := Option.some.inj H
      refine am_G.fg [none, none] (by simp only [am_sub, and_self]) ?_
      exact am_G.nd rfl
  · clear E5
    obtain ⟨b3, e4, H⟩ := am_bd H
    obtain rfl := Option.some.inj H
    exact am_G.nd ⟨rfl, am_ret2 rfl e4⟩
def fX6_hostOf_L22 : Nat → Nat → Nat → Int32 → Int32 → Int32 → am_H → Option ((Unit) ⊕ (Int32))
  | 0, _, _, _, _, _, _ => none
  | n + 1, v0, v1, v2, v3, v4, h =>
    (am_gI h v1 7 11).bind fun houses8 =>
    if houses8 ≤ v4 then
      some (.inl ())
    else
      (am_gR h v1 7 2).bind fun lenders11 =>
      (am_aI h 0 lenders11 v3).bind fun x13 =>
      (fX9_has x13 v4 h).bind fun x16 =>
      if x16 = 0 then
        fX6_hostOf_L22 n v0 v1 v2 v3 (v4 + (1 : Int32)) h
      else
        (fX6_holds v0 v1 v4 v2 h).bind fun x19 =>
        if x19 = 0 then
          fX6_hostOf_L22 n v0 v1 v2 v3 (v4 + (1 : Int32)) h
        else
          some (.inr v4)
def fX6_hostOf (a0 : Nat) (a1 : Nat) (a2 : Int32) (h : am_H) : Option (Int32) :=
  (am_isO h a0 5).bind fun _ =>
  (am_gR h a1 7 5).bind fun home1 =>
  (am_aI h 0 home1 a2).bind fun x3 =>
  (fX6_holds a0 a1 x3 a2 h).bind fun x6 =>
  if x6 = 0 then
    (fX6_hostOf_L22 4000 a0 a1 a2 x3 ((0 : Int32)) h).bind fun o22 => match o22 with
      | .inl _ =>
        some ((-1 : Int32))
      | .inr y23 => some y23
  else
    some x3
set_option maxHeartbeats 4000000 in
set_option maxRecDepth 100000 in
theorem lX6_hostOf_L22 {sc : Nat × (Nat → Int32)} : ∀ (n : Nat) (v0 : Nat) (v1 : Nat) (v2 : Int32) (v3 : Int32) (v4 : Int32) (h : am_H) (o : (Unit) ⊕ (Int32)), fX6_hostOf_L22 n v0 v1 v2 v3 v4 h = some o → am_G sc (am_Cl am_T am_N sc 2) (am_at kX6_hostOf) (fun t => match o with
    | .inl _ => t = ((65, [none, none, none, none, none], []), h)
    | .inr y => t.2 = h ∧ am_ret 1 (am_at kX6_hostOf) t.1 = some (some (.int y))) ((22, [some (.ref v0), some (.ref v1), some (.int v2), some (.int v3), some (.int v4)], []), h) := by
  intro n
  induction n with
  | zero => intro _ _ _ _ _ _ _ H; cases H
  | succ n ih =>
    intro v0 v1 v2 v3 v4 h o H
    rw [fX6_hostOf_L22] at H
    refine am_G.fr 2 (g := (25, [some (.ref v0), some (.ref v1), some (.int v2), some (.int v3), some (.int v4)], [.ref v1, .int v4])) rfl ?_
    obtain ⟨houses8, e9, H⟩ := am_bd H
    refine am_G.gI rfl e9 ?_
    by_cases c10 : houses8 ≤ v4
    · rw [if_pos c10] at H
      refine am_G.br (tgt := 65) rfl rfl (if_pos c10) rfl ?_
      obtain rfl := Option.some.inj H
      refine am_G.fg [none, none, none, none, none] (by simp only [am_sub, and_self]) ?_
      exact am_G.nd rfl
    · rw [if_neg c10] at H
      refine am_G.br (tgt := 31) rfl rfl (if_neg c10) rfl ?_
      refine am_G.fr 1 (g := (32, [some (.ref v0), some (.ref v1), some (.int v2), some (.int v3), some (.int v4)], [.ref v1])) rfl ?_
      obtain ⟨lenders11, e12, H⟩ := am_bd H
      refine am_G.gR rfl e12 ?_
      refine am_G.fr 1 (g := (36, [some (.ref v0), some (.ref v1), some (.int v2), some (.int v3), some (.int v4)], [.int v3, .ref lenders11])) rfl ?_
      obtain ⟨x13, e14, H⟩ := am_bd H
      refine am_G.aI rfl e14 ?_
      refine am_G.fr 1 (g := (39, [some (.ref v0), some (.ref v1), some (.int v2), some (.int v3), some (.int v4)], [.int v4, .int x13])) rfl ?_
      obtain ⟨x16, e15, H⟩ := am_bd H
      refine am_G.cl [.int x13, .int v4] [] (am_Cl.mono (by decide) (lX9_has e15)) rfl rfl rfl rfl (Nat.le_of_ble_eq_true rfl) ?_
      by_cases c17 : x16 = 0
      · rw [if_pos c17] at H
        refine am_G.br (tgt := 59) rfl rfl (if_pos c17) rfl ?_
        refine am_G.fr 2 (g := (22, [some (.ref v0), some (.ref v1), some (.int v2), some (.int v3), some (.int (v4 + (1 : Int32)))], [])) rfl ?_
        exact ih _ _ _ _ _ _ _ H
      · rw [if_neg c17] at H
        refine am_G.br (tgt := 45) rfl rfl (if_neg c17) rfl ?_
        refine am_G.fr 4 (g := (50, [some (.ref v0), some (.ref v1), some (.int v2), some (.int v3), some (.int v4)], [.int v2, .int v4, .ref v1, .ref v0])) rfl ?_
        obtain ⟨x19, e18, H⟩ := am_bd H
        refine am_G.cl [.ref v0, .ref v1, .int v4, .int v2] [] (am_Cl.mono (by decide) (lX6_holds e18)) rfl rfl rfl rfl (Nat.le_of_ble_eq_true rfl) ?_
        by_cases c20 : x19 = 0
        · rw [if_pos c20] at H
          refine am_G.br (tgt := 59) rfl rfl (if_pos c20) rfl ?_
          refine am_G.fr 2 (g := (22, [some (.ref v0), some (.ref v1), some (.int v2), some (.int v3), some (.int (v4 + (1 : Int32)))], [])) rfl ?_
          exact ih _ _ _ _ _ _ _ H
        · rw [if_neg c20] at H
          refine am_G.br (tgt := 56) rfl rfl (if_neg c20) rfl ?_
          refine am_G.fr 1 (g := (58, [some (.ref v0), some (.ref v1), some (.int v2), some (.int v3), some (.int v4)], [.int v4])) rfl ?_
          obtain rfl := Option.some.inj H
          exact am_G.nd ⟨rfl, rfl⟩
set_option maxHeartbeats 4000000 in
set_option maxRecDepth 100000 in
theorem lX6_hostOf {sc : Nat × (Nat → Int32)} {a0 : Nat} {a1 : Nat} {a2 : Int32} {h : am_H} {r : Int32} (H : fX6_hostOf a0 a1 a2 h = some r) : am_Cl am_T am_N sc 3 44 [.ref a0, .ref a1, .int a2] h (some (.int r)) h := by
  unfold fX6_hostOf at H
  obtain ⟨_, hO, H⟩ := am_bd H
  obtain ⟨fs0, hO⟩ := am_isO_ok hO
  refine am_mk (q := qX6_hostOf) rfl (fun _ => ⟨_, _, _, _, _, rfl, hO, rfl, rfl⟩) (fun z => absurd z (by decide)) (Nat.le_of_ble_eq_true rfl) rfl ?_
  show am_G sc (am_Cl am_T am_N sc 2) (am_at kX6_hostOf) (fun t => t.2 = h ∧ am_ret 1 (am_at kX6_hostOf) t.1 = some (some (.int r))) ((0, [some (.ref a0), some (.ref a1), some (.int a2), none, none], []), h)
  refine am_G.fr 1 (g := (1, [some (.ref a0), some (.ref a1), some (.int a2), none, none], [.ref a1])) rfl ?_
  obtain ⟨home1, e2, H⟩ := am_bd H
  refine am_G.gR rfl e2 ?_
  refine am_G.fr 1 (g := (5, [some (.ref a0), some (.ref a1), some (.int a2), none, none], [.int a2, .ref home1])) rfl ?_
  obtain ⟨x3, e4, H⟩ := am_bd H
  refine am_G.aI rfl e4 ?_
  refine am_G.fr 5 (g := (11, [some (.ref a0), some (.ref a1), some (.int a2), some (.int x3), none], [.int a2, .int x3, .ref a1, .ref a0])) rfl ?_
  obtain ⟨x6, e5, H⟩ := am_bd H
  refine am_G.cl [.ref a0, .ref a1, .int x3, .int a2] [] (am_Cl.mono (by decide) (lX6_holds e5)) rfl rfl rfl rfl (Nat.le_of_ble_eq_true rfl) ?_
  by_cases c7 : x6 = 0
  · rw [if_pos c7] at H
    refine am_G.br (tgt := 19) rfl rfl (if_pos c7) rfl ?_
    refine am_G.fr 2 (g := (22, [some (.ref a0), some (.ref a1), some (.int a2), some (.int x3), some (.int ((0 : Int32)))], [])) rfl ?_
    obtain ⟨o22, E21, H⟩ := am_bd H
    have hL := lX6_hostOf_L22 (sc := sc) _ _ _ _ _ _ _ _ E21
    clear E21
    rcases o22 with _ | y23
    · dsimp only at H
      refine am_G.sq hL ?_
      refine am_G.fr 1 (g := (66, [none, none, none, none, none], [.int ((-1 : Int32))])) rfl ?_
      obtain rfl := Option.some.inj H
      exact am_G.nd ⟨rfl, rfl⟩
    · dsimp only at H
      obtain rfl := Option.some.inj H
      exact hL
  · rw [if_neg c7] at H
    refine am_G.br (tgt := 17) rfl rfl (if_neg c7) rfl ?_
    refine am_G.fr 1 (g := (18, [some (.ref a0), some (.ref a1), some (.int a2), some (.int x3), none], [.int x3])) rfl ?_
    obtain rfl := Option.some.inj H
    exact am_G.nd ⟨rfl, rfl⟩
def fX6_isDue (a0 : Nat) (a1 : Nat) (a2 : Int32) (h : am_H) : Option (Int32) :=
  (am_isO h a0 5).bind fun _ =>
  (am_gR h a0 5 3).bind fun at1 =>
  (am_aI h 0 at1 a2).bind fun x3 =>
  if ¬ x3 = ((-1 : Int32)) then
    some ((0 : Int32))
  else
    (am_gR h a0 5 2).bind fun says6 =>
    (am_aI h 0 says6 a2).bind fun x8 =>
    if ¬ x8 = 0 then
      (am_gR h a1 7 4).bind fun kind11 =>
      (am_aI h 0 kind11 a2).bind fun x13 =>
      if ¬ x13 = ((3 : Int32)) then
        Option.bind (
          if ¬ x13 = ((2 : Int32)) then
            (am_gR h a0 5 1).bind fun on18 =>
            (am_aI h 0 on18 a2).bind fun x20 =>
            some x20
          else
            (am_gR h a0 5 1).bind fun on22 =>
            (am_aI h 0 on22 a2).bind fun x24 =>
            (am_rm' ((x24 + ((12 : Int32))) - ((1 : Int32))) ((12 : Int32))).bind fun q26 =>
            some q26) fun js16 =>
        (am_gI h a0 5 6).bind fun date28 =>
        Option.bind (
          if ¬ date28 = js16 then
            some ((0 : Int32))
          else
            some ((1 : Int32))) fun js30 =>
        (am_z01 js30).bind fun b32 =>
        some b32
      else
        (am_gI h a0 5 7).bind fun year36 =>
        (am_rm' year36 ((4 : Int32))).bind fun q38 =>
        if q38 = 0 then
          Option.bind (
            if ¬ x13 = ((2 : Int32)) then
              (am_gR h a0 5 1).bind fun on43 =>
              (am_aI h 0 on43 a2).bind fun x45 =>
              some x45
            else
              (am_gR h a0 5 1).bind fun on47 =>
              (am_aI h 0 on47 a2).bind fun x49 =>
              (am_rm' ((x49 + ((12 : Int32))) - ((1 : Int32))) ((12 : Int32))).bind fun q51 =>
              some q51) fun js41 =>
          (am_gI h a0 5 6).bind fun date53 =>
          Option.bind (
            if ¬ date53 = js41 then
              some ((0 : Int32))
            else
              some ((1 : Int32))) fun js55 =>
          (am_z01 js55).bind fun b57 =>
          some b57
        else
          some ((0 : Int32))
    else
      some ((0 : Int32))
set_option maxHeartbeats 4000000 in
set_option maxRecDepth 100000 in
theorem lX6_isDue {sc : Nat × (Nat → Int32)} {a0 : Nat} {a1 : Nat} {a2 : Int32} {h : am_H} {r : Int32} (H : fX6_isDue a0 a1 a2 h = some r) : am_Cl am_T am_N sc 1 42 [.ref a0, .ref a1, .int a2] h (some (.int r)) h := by
  unfold fX6_isDue at H
  obtain ⟨_, hO, H⟩ := am_bd H
  obtain ⟨fs0, hO⟩ := am_isO_ok hO
  refine am_mk (q := qX6_isDue) rfl (fun _ => ⟨_, _, _, _, _, rfl, hO, rfl, rfl⟩) (fun z => absurd z (by decide)) (Nat.le_of_ble_eq_true rfl) rfl ?_
  show am_G sc (am_Cl am_T am_N sc 0) (am_at kX6_isDue) (fun t => t.2 = h ∧ am_ret 2 (am_at kX6_isDue) t.1 = some (some (.int r))) ((0, [some (.ref a0), some (.ref a1), some (.int a2), none, none], []), h)
  refine am_G.fr 1 (g := (1, [some (.ref a0), some (.ref a1), some (.int a2), none, none], [.ref a0])) rfl ?_
  obtain ⟨at1, e2, H⟩ := am_bd H
  refine am_G.gR rfl e2 ?_
  refine am_G.fr 1 (g := (5, [some (.ref a0), some (.ref a1), some (.int a2), none, none], [.int a2, .ref at1])) rfl ?_
  obtain ⟨x3, e4, H⟩ := am_bd H
  refine am_G.aI rfl e4 ?_
  refine am_G.fr 1 (g := (7, [some (.ref a0), some (.ref a1), some (.int a2), none, none], [.int ((-1 : Int32)), .int x3])) rfl ?_
  by_cases c5 : ¬ x3 = ((-1 : Int32))
  · rw [if_pos c5] at H
    refine am_G.br (tgt := 19) rfl rfl (if_pos c5) rfl ?_
    refine am_G.fr 1 (g := (20, [some (.ref a0), some (.ref a1), some (.int a2), none, none], [.int ((0 : Int32))])) rfl ?_
    obtain rfl := Option.some.inj H
    exact am_G.nd ⟨rfl, am_ret2 rfl (if_pos (by decide))⟩
  · rw [if_neg c5] at H
    refine am_G.br (tgt := 10) rfl rfl (if_neg c5) rfl ?_
    refine am_G.fr 1 (g := (11, [some (.ref a0), some (.ref a1), some (.int a2), none, none], [.ref a0])) rfl ?_
    obtain ⟨says6, e7, H⟩ := am_bd H
    refine am_G.gR rfl e7 ?_
    refine am_G.fr 1 (g := (15, [some (.ref a0), some (.ref a1), some (.int a2), none, none], [.int a2, .ref says6])) rfl ?_
    obtain ⟨x8, e9, H⟩ := am_bd H
    refine am_G.aI rfl e9 ?_
    by_cases c10 : ¬ x8 = 0
    · rw [if_pos c10] at H
      refine am_G.br (tgt := 21) rfl rfl (if_pos c10) rfl ?_
      refine am_G.fr 1 (g := (22, [some (.ref a0), some (.ref a1), some (.int a2), none, none], [.ref a1])) rfl ?_
      obtain ⟨kind11, e12, H⟩ := am_bd H
      refine am_G.gR rfl e12 ?_
      refine am_G.fr 1 (g := (26, [some (.ref a0), some (.ref a1), some (.int a2), none, none], [.int a2, .ref kind11])) rfl ?_
      obtain ⟨x13, e14, H⟩ := am_bd H
      refine am_G.aI rfl e14 ?_
      refine am_G.fr 3 (g := (30, [some (.ref a0), some (.ref a1), some (.int a2), some (.int x13), none], [.int ((3 : Int32)), .int x13])) rfl ?_
      by_cases c15 : ¬ x13 = ((3 : Int32))
      · rw [if_pos c15] at H
        refine am_G.br (tgt := 44) rfl rfl (if_pos c15) rfl ?_
        refine am_G.fr 2 (g := (46, [some (.ref a0), some (.ref a1), some (.int a2), some (.int x13), none], [.int ((2 : Int32)), .int x13])) rfl ?_
        obtain ⟨js16, E35, H⟩ := am_bd H
        refine am_G.sq (t := ((72, [some (.ref a0), none, none, none, none], [.int js16]), h)) ?_ ?_
        · clear H
          have H := E35
          clear E35
          by_cases c17 : ¬ x13 = ((2 : Int32))
          · rw [if_pos c17] at H
            refine am_G.br (tgt := 66) rfl rfl (if_pos c17) rfl ?_
            refine am_G.fr 1 (g := (67, [some (.ref a0), some (.ref a1), some (.int a2), some (.int x13), none], [.ref a0])) rfl ?_
            obtain ⟨on18, e19, H⟩ := am_bd H
            refine am_G.gR rfl e19 ?_
            refine am_G.fr 1 (g := (71, [some (.ref a0), some (.ref a1), some (.int a2), some (.int x13), none], [.int a2, .ref on18])) rfl ?_
            obtain ⟨x20, e21, H⟩ := am_bd H
            refine am_G.aI rfl e21 ?_
            obtain rfl := Option.some.inj H
            refine am_G.fg [some (.ref a0), none, none, none, none] (by simp only [am_sub, and_self]) ?_
            exact am_G.nd rfl
          · rw [if_neg c17] at H
            refine am_G.br (tgt := 49) rfl rfl (if_neg c17) rfl ?_
            refine am_G.fr 1 (g := (50, [some (.ref a0), some (.ref a1), some (.int a2), some (.int x13), none], [.ref a0])) rfl ?_
            obtain ⟨on22, e23, H⟩ := am_bd H
            refine am_G.gR rfl e23 ?_
            refine am_G.fr 1 (g := (54, [some (.ref a0), some (.ref a1), some (.int a2), some (.int x13), none], [.int a2, .ref on22])) rfl ?_
            obtain ⟨x24, e25, H⟩ := am_bd H
            refine am_G.aI rfl e25 ?_
            refine am_G.fr 5 (g := (62, [some (.ref a0), some (.ref a1), some (.int a2), some (.int x13), none], [.int ((12 : Int32)), .int ((x24 + ((12 : Int32))) - ((1 : Int32)))])) rfl ?_
            obtain ⟨q26, e27, H⟩ := am_bd H
            refine am_G.rm rfl e27 ?_
            refine am_G.fr 1 (g := (72, [some (.ref a0), some (.ref a1), some (.int a2), some (.int x13), none], [.int q26])) rfl ?_
            obtain rfl := Option.some.inj H
            refine am_G.fg [some (.ref a0), none, none, none, none] (by simp only [am_sub, and_self]) ?_
            exact am_G.nd rfl
        · clear E35
          refine am_G.fr 2 (g := (75, [some (.ref a0), none, none, none, some (.int js16)], [.ref a0])) rfl ?_
          obtain ⟨date28, e29, H⟩ := am_bd H
          refine am_G.gI rfl e29 ?_
          refine am_G.fr 1 (g := (80, [some (.ref a0), none, none, none, some (.int js16)], [.int js16, .int date28])) rfl ?_
          obtain ⟨js30, E34, H⟩ := am_bd H
          refine am_G.sq (t := ((88, [none, none, none, none, none], [.int js30]), h)) ?_ ?_
          · clear H
            have H := E34
            clear E34
            by_cases c31 : ¬ date28 = js16
            · rw [if_pos c31] at H
              refine am_G.br (tgt := 87) rfl rfl (if_pos c31) rfl ?_
              refine am_G.fr 1 (g := (88, [some (.ref a0), none, none, none, some (.int js16)], [.int ((0 : Int32))])) rfl ?_
              obtain rfl := Option.some.inj H
              refine am_G.fg [none, none, none, none, none] (by simp only [am_sub, and_self]) ?_
              exact am_G.nd rfl
            · rw [if_neg c31] at H
              refine am_G.br (tgt := 83) rfl rfl (if_neg c31) rfl ?_
              refine am_G.fr 2 (g := (88, [some (.ref a0), none, none, none, some (.int js16)], [.int ((1 : Int32))])) rfl ?_
              obtain rfl := Option.some.inj H
              refine am_G.fg [none, none, none, none, none] (by simp only [am_sub, and_self]) ?_
              exact am_G.nd rfl
          · clear E34
            obtain ⟨b32, e33, H⟩ := am_bd H
            obtain rfl := Option.some.inj H
            exact am_G.nd ⟨rfl, am_ret2 rfl e33⟩
      · rw [if_neg c15] at H
        refine am_G.br (tgt := 33) rfl rfl (if_neg c15) rfl ?_
        refine am_G.fr 1 (g := (34, [some (.ref a0), some (.ref a1), some (.int a2), some (.int x13), none], [.ref a0])) rfl ?_
        obtain ⟨year36, e37, H⟩ := am_bd H
        refine am_G.gI rfl e37 ?_
        refine am_G.fr 1 (g := (38, [some (.ref a0), some (.ref a1), some (.int a2), some (.int x13), none], [.int ((4 : Int32)), .int year36])) rfl ?_
        obtain ⟨q38, e39, H⟩ := am_bd H
        refine am_G.rm rfl e39 ?_
        by_cases c40 : q38 = 0
        · rw [if_pos c40] at H
          refine am_G.br (tgt := 44) rfl rfl (if_pos c40) rfl ?_
          refine am_G.fr 2 (g := (46, [some (.ref a0), some (.ref a1), some (.int a2), some (.int x13), none], [.int ((2 : Int32)), .int x13])) rfl ?_
          obtain ⟨js41, E60, H⟩ := am_bd H
          refine am_G.sq (t := ((72, [some (.ref a0), none, none, none, none], [.int js41]), h)) ?_ ?_
          · clear H
            have H := E60
            clear E60
            by_cases c42 : ¬ x13 = ((2 : Int32))
            · rw [if_pos c42] at H
              refine am_G.br (tgt := 66) rfl rfl (if_pos c42) rfl ?_
              refine am_G.fr 1 (g := (67, [some (.ref a0), some (.ref a1), some (.int a2), some (.int x13), none], [.ref a0])) rfl ?_
              obtain ⟨on43, e44, H⟩ := am_bd H
              refine am_G.gR rfl e44 ?_
              refine am_G.fr 1 (g := (71, [some (.ref a0), some (.ref a1), some (.int a2), some (.int x13), none], [.int a2, .ref on43])) rfl ?_
              obtain ⟨x45, e46, H⟩ := am_bd H
              refine am_G.aI rfl e46 ?_
              obtain rfl := Option.some.inj H
              refine am_G.fg [some (.ref a0), none, none, none, none] (by simp only [am_sub, and_self]) ?_
              exact am_G.nd rfl
            · rw [if_neg c42] at H
              refine am_G.br (tgt := 49) rfl rfl (if_neg c42) rfl ?_
              refine am_G.fr 1 (g := (50, [some (.ref a0), some (.ref a1), some (.int a2), some (.int x13), none], [.ref a0])) rfl ?_
              obtain ⟨on47, e48, H⟩ := am_bd H
              refine am_G.gR rfl e48 ?_
              refine am_G.fr 1 (g := (54, [some (.ref a0), some (.ref a1), some (.int a2), some (.int x13), none], [.int a2, .ref on47])) rfl ?_
              obtain ⟨x49, e50, H⟩ := am_bd H
              refine am_G.aI rfl e50 ?_
              refine am_G.fr 5 (g := (62, [some (.ref a0), some (.ref a1), some (.int a2), some (.int x13), none], [.int ((12 : Int32)), .int ((x49 + ((12 : Int32))) - ((1 : Int32)))])) rfl ?_
              obtain ⟨q51, e52, H⟩ := am_bd H
              refine am_G.rm rfl e52 ?_
              refine am_G.fr 1 (g := (72, [some (.ref a0), some (.ref a1), some (.int a2), some (.int x13), none], [.int q51])) rfl ?_
              obtain rfl := Option.some.inj H
              refine am_G.fg [some (.ref a0), none, none, none, none] (by simp only [am_sub, and_self]) ?_
              exact am_G.nd rfl
          · clear E60
            refine am_G.fr 2 (g := (75, [some (.ref a0), none, none, none, some (.int js41)], [.ref a0])) rfl ?_
            obtain ⟨date53, e54, H⟩ := am_bd H
            refine am_G.gI rfl e54 ?_
            refine am_G.fr 1 (g := (80, [some (.ref a0), none, none, none, some (.int js41)], [.int js41, .int date53])) rfl ?_
            obtain ⟨js55, E59, H⟩ := am_bd H
            refine am_G.sq (t := ((88, [none, none, none, none, none], [.int js55]), h)) ?_ ?_
            · clear H
              have H := E59
              clear E59
              by_cases c56 : ¬ date53 = js41
              · rw [if_pos c56] at H
                refine am_G.br (tgt := 87) rfl rfl (if_pos c56) rfl ?_
                refine am_G.fr 1 (g := (88, [some (.ref a0), none, none, none, some (.int js41)], [.int ((0 : Int32))])) rfl ?_
                obtain rfl := Option.some.inj H
                refine am_G.fg [none, none, none, none, none] (by simp only [am_sub, and_self]) ?_
                exact am_G.nd rfl
              · rw [if_neg c56] at H
                refine am_G.br (tgt := 83) rfl rfl (if_neg c56) rfl ?_
                refine am_G.fr 2 (g := (88, [some (.ref a0), none, none, none, some (.int js41)], [.int ((1 : Int32))])) rfl ?_
                obtain rfl := Option.some.inj H
                refine am_G.fg [none, none, none, none, none] (by simp only [am_sub, and_self]) ?_
                exact am_G.nd rfl
            · clear E59
              obtain ⟨b57, e58, H⟩ := am_bd H
              obtain rfl := Option.some.inj H
              exact am_G.nd ⟨rfl, am_ret2 rfl e58⟩
        · rw [if_neg c40] at H
          refine am_G.br (tgt := 42) rfl rfl (if_neg c40) rfl ?_
          refine am_G.fr 1 (g := (43, [some (.ref a0), some (.ref a1), some (.int a2), some (.int x13), none], [.int ((0 : Int32))])) rfl ?_
          obtain rfl := Option.some.inj H
          exact am_G.nd ⟨rfl, am_ret2 rfl (if_pos (by decide))⟩
    · rw [if_neg c10] at H
      refine am_G.br (tgt := 19) rfl rfl (if_neg c10) rfl ?_
      refine am_G.fr 1 (g := (20, [some (.ref a0), some (.ref a1), some (.int a2), none, none], [.int ((0 : Int32))])) rfl ?_
      obtain rfl := Option.some.inj H
      exact am_G.nd ⟨rfl, am_ret2 rfl (if_pos (by decide))⟩
def fJ6_bitCount_0f7a4 (a0 : Int32) (h : am_H) : Option (Int32) :=
  some ((((((((a0 - (((a0.toUInt32 >>> (((1 : Int32)).toUInt32 &&& Int32.toUInt32 31)).toInt32) &&& ((1431655765 : Int32)))) &&& ((858993459 : Int32))) + ((((a0 - (((a0.toUInt32 >>> (((1 : Int32)).toUInt32 &&& Int32.toUInt32 31)).toInt32) &&& ((1431655765 : Int32)))).toUInt32 >>> (((2 : Int32)).toUInt32 &&& Int32.toUInt32 31)).toInt32) &&& ((858993459 : Int32)))) + (((((a0 - (((a0.toUInt32 >>> (((1 : Int32)).toUInt32 &&& Int32.toUInt32 31)).toInt32) &&& ((1431655765 : Int32)))) &&& ((858993459 : Int32))) + ((((a0 - (((a0.toUInt32 >>> (((1 : Int32)).toUInt32 &&& Int32.toUInt32 31)).toInt32) &&& ((1431655765 : Int32)))).toUInt32 >>> (((2 : Int32)).toUInt32 &&& Int32.toUInt32 31)).toInt32) &&& ((858993459 : Int32)))).toUInt32 >>> (((4 : Int32)).toUInt32 &&& Int32.toUInt32 31)).toInt32)) &&& ((252645135 : Int32))) + (((((((a0 - (((a0.toUInt32 >>> (((1 : Int32)).toUInt32 &&& Int32.toUInt32 31)).toInt32) &&& ((1431655765 : Int32)))) &&& ((858993459 : Int32))) + ((((a0 - (((a0.toUInt32 >>> (((1 : Int32)).toUInt32 &&& Int32.toUInt32 31)).toInt32) &&& ((1431655765 : Int32)))).toUInt32 >>> (((2 : Int32)).toUInt32 &&& Int32.toUInt32 31)).toInt32) &&& ((858993459 : Int32)))) + (((((a0 - (((a0.toUInt32 >>> (((1 : Int32)).toUInt32 &&& Int32.toUInt32 31)).toInt32) &&& ((1431655765 : Int32)))) &&& ((858993459 : Int32))) + ((((a0 - (((a0.toUInt32 >>> (((1 : Int32)).toUInt32 &&& Int32.toUInt32 31)).toInt32) &&& ((1431655765 : Int32)))).toUInt32 >>> (((2 : Int32)).toUInt32 &&& Int32.toUInt32 31)).toInt32) &&& ((858993459 : Int32)))).toUInt32 >>> (((4 : Int32)).toUInt32 &&& Int32.toUInt32 31)).toInt32)) &&& ((252645135 : Int32))).toUInt32 >>> (((8 : Int32)).toUInt32 &&& Int32.toUInt32 31)).toInt32)) + ((((((((a0 - (((a0.toUInt32 >>> (((1 : Int32)).toUInt32 &&& Int32.toUInt32 31)).toInt32) &&& ((1431655765 : Int32)))) &&& ((858993459 : Int32))) + ((((a0 - (((a0.toUInt32 >>> (((1 : Int32)).toUInt32 &&& Int32.toUInt32 31)).toInt32) &&& ((1431655765 : Int32)))).toUInt32 >>> (((2 : Int32)).toUInt32 &&& Int32.toUInt32 31)).toInt32) &&& ((858993459 : Int32)))) + (((((a0 - (((a0.toUInt32 >>> (((1 : Int32)).toUInt32 &&& Int32.toUInt32 31)).toInt32) &&& ((1431655765 : Int32)))) &&& ((858993459 : Int32))) + ((((a0 - (((a0.toUInt32 >>> (((1 : Int32)).toUInt32 &&& Int32.toUInt32 31)).toInt32) &&& ((1431655765 : Int32)))).toUInt32 >>> (((2 : Int32)).toUInt32 &&& Int32.toUInt32 31)).toInt32) &&& ((858993459 : Int32)))).toUInt32 >>> (((4 : Int32)).toUInt32 &&& Int32.toUInt32 31)).toInt32)) &&& ((252645135 : Int32))) + (((((((a0 - (((a0.toUInt32 >>> (((1 : Int32)).toUInt32 &&& Int32.toUInt32 31)).toInt32) &&& ((1431655765 : Int32)))) &&& ((858993459 : Int32))) + ((((a0 - (((a0.toUInt32 >>> (((1 : Int32)).toUInt32 &&& Int32.toUInt32 31)).toInt32) &&& ((1431655765 : Int32)))).toUInt32 >>> (((2 : Int32)).toUInt32 &&& Int32.toUInt32 31)).toInt32) &&& ((858993459 : Int32)))) + (((((a0 - (((a0.toUInt32 >>> (((1 : Int32)).toUInt32 &&& Int32.toUInt32 31)).toInt32) &&& ((1431655765 : Int32)))) &&& ((858993459 : Int32))) + ((((a0 - (((a0.toUInt32 >>> (((1 : Int32)).toUInt32 &&& Int32.toUInt32 31)).toInt32) &&& ((1431655765 : Int32)))).toUInt32 >>> (((2 : Int32)).toUInt32 &&& Int32.toUInt32 31)).toInt32) &&& ((858993459 : Int32)))).toUInt32 >>> (((4 : Int32)).toUInt32 &&& Int32.toUInt32 31)).toInt32)) &&& ((252645135 : Int32))).toUInt32 >>> (((8 : Int32)).toUInt32 &&& Int32.toUInt32 31)).toInt32)).toUInt32 >>> (((16 : Int32)).toUInt32 &&& Int32.toUInt32 31)).toInt32)) &&& ((63 : Int32)))
set_option maxHeartbeats 4000000 in
set_option maxRecDepth 100000 in
theorem lJ6_bitCount_0f7a4 {sc : Nat × (Nat → Int32)} {a0 : Int32} {h : am_H} {r : Int32} (H : fJ6_bitCount_0f7a4 a0 h = some r) : am_Cl am_T am_N sc 1 242 [.int a0] h (some (.int r)) h := by
  unfold fJ6_bitCount_0f7a4 at H
  refine am_mk (q := qJ6_bitCount_0f7a4) rfl (fun z => absurd z (by decide)) (fun z => absurd z (by decide)) (Nat.le_of_ble_eq_true rfl) rfl ?_
  show am_G sc (am_Cl am_T am_N sc 0) (am_at kJ6_bitCount_0f7a4) (fun t => t.2 = h ∧ am_ret 1 (am_at kJ6_bitCount_0f7a4) t.1 = some (some (.int r))) ((0, [some (.int a0)], []), h)
  refine am_G.fr 41 (g := (52, [some (.int (((((((a0 - (((a0.toUInt32 >>> (((1 : Int32)).toUInt32 &&& Int32.toUInt32 31)).toInt32) &&& ((1431655765 : Int32)))) &&& ((858993459 : Int32))) + ((((a0 - (((a0.toUInt32 >>> (((1 : Int32)).toUInt32 &&& Int32.toUInt32 31)).toInt32) &&& ((1431655765 : Int32)))).toUInt32 >>> (((2 : Int32)).toUInt32 &&& Int32.toUInt32 31)).toInt32) &&& ((858993459 : Int32)))) + (((((a0 - (((a0.toUInt32 >>> (((1 : Int32)).toUInt32 &&& Int32.toUInt32 31)).toInt32) &&& ((1431655765 : Int32)))) &&& ((858993459 : Int32))) + ((((a0 - (((a0.toUInt32 >>> (((1 : Int32)).toUInt32 &&& Int32.toUInt32 31)).toInt32) &&& ((1431655765 : Int32)))).toUInt32 >>> (((2 : Int32)).toUInt32 &&& Int32.toUInt32 31)).toInt32) &&& ((858993459 : Int32)))).toUInt32 >>> (((4 : Int32)).toUInt32 &&& Int32.toUInt32 31)).toInt32)) &&& ((252645135 : Int32))) + (((((((a0 - (((a0.toUInt32 >>> (((1 : Int32)).toUInt32 &&& Int32.toUInt32 31)).toInt32) &&& ((1431655765 : Int32)))) &&& ((858993459 : Int32))) + ((((a0 - (((a0.toUInt32 >>> (((1 : Int32)).toUInt32 &&& Int32.toUInt32 31)).toInt32) &&& ((1431655765 : Int32)))).toUInt32 >>> (((2 : Int32)).toUInt32 &&& Int32.toUInt32 31)).toInt32) &&& ((858993459 : Int32)))) + (((((a0 - (((a0.toUInt32 >>> (((1 : Int32)).toUInt32 &&& Int32.toUInt32 31)).toInt32) &&& ((1431655765 : Int32)))) &&& ((858993459 : Int32))) + ((((a0 - (((a0.toUInt32 >>> (((1 : Int32)).toUInt32 &&& Int32.toUInt32 31)).toInt32) &&& ((1431655765 : Int32)))).toUInt32 >>> (((2 : Int32)).toUInt32 &&& Int32.toUInt32 31)).toInt32) &&& ((858993459 : Int32)))).toUInt32 >>> (((4 : Int32)).toUInt32 &&& Int32.toUInt32 31)).toInt32)) &&& ((252645135 : Int32))).toUInt32 >>> (((8 : Int32)).toUInt32 &&& Int32.toUInt32 31)).toInt32)) + ((((((((a0 - (((a0.toUInt32 >>> (((1 : Int32)).toUInt32 &&& Int32.toUInt32 31)).toInt32) &&& ((1431655765 : Int32)))) &&& ((858993459 : Int32))) + ((((a0 - (((a0.toUInt32 >>> (((1 : Int32)).toUInt32 &&& Int32.toUInt32 31)).toInt32) &&& ((1431655765 : Int32)))).toUInt32 >>> (((2 : Int32)).toUInt32 &&& Int32.toUInt32 31)).toInt32) &&& ((858993459 : Int32)))) + (((((a0 - (((a0.toUInt32 >>> (((1 : Int32)).toUInt32 &&& Int32.toUInt32 31)).toInt32) &&& ((1431655765 : Int32)))) &&& ((858993459 : Int32))) + ((((a0 - (((a0.toUInt32 >>> (((1 : Int32)).toUInt32 &&& Int32.toUInt32 31)).toInt32) &&& ((1431655765 : Int32)))).toUInt32 >>> (((2 : Int32)).toUInt32 &&& Int32.toUInt32 31)).toInt32) &&& ((858993459 : Int32)))).toUInt32 >>> (((4 : Int32)).toUInt32 &&& Int32.toUInt32 31)).toInt32)) &&& ((252645135 : Int32))) + (((((((a0 - (((a0.toUInt32 >>> (((1 : Int32)).toUInt32 &&& Int32.toUInt32 31)).toInt32) &&& ((1431655765 : Int32)))) &&& ((858993459 : Int32))) + ((((a0 - (((a0.toUInt32 >>> (((1 : Int32)).toUInt32 &&& Int32.toUInt32 31)).toInt32) &&& ((1431655765 : Int32)))).toUInt32 >>> (((2 : Int32)).toUInt32 &&& Int32.toUInt32 31)).toInt32) &&& ((858993459 : Int32)))) + (((((a0 - (((a0.toUInt32 >>> (((1 : Int32)).toUInt32 &&& Int32.toUInt32 31)).toInt32) &&& ((1431655765 : Int32)))) &&& ((858993459 : Int32))) + ((((a0 - (((a0.toUInt32 >>> (((1 : Int32)).toUInt32 &&& Int32.toUInt32 31)).toInt32) &&& ((1431655765 : Int32)))).toUInt32 >>> (((2 : Int32)).toUInt32 &&& Int32.toUInt32 31)).toInt32) &&& ((858993459 : Int32)))).toUInt32 >>> (((4 : Int32)).toUInt32 &&& Int32.toUInt32 31)).toInt32)) &&& ((252645135 : Int32))).toUInt32 >>> (((8 : Int32)).toUInt32 &&& Int32.toUInt32 31)).toInt32)).toUInt32 >>> (((16 : Int32)).toUInt32 &&& Int32.toUInt32 31)).toInt32)))], [.int ((((((((a0 - (((a0.toUInt32 >>> (((1 : Int32)).toUInt32 &&& Int32.toUInt32 31)).toInt32) &&& ((1431655765 : Int32)))) &&& ((858993459 : Int32))) + ((((a0 - (((a0.toUInt32 >>> (((1 : Int32)).toUInt32 &&& Int32.toUInt32 31)).toInt32) &&& ((1431655765 : Int32)))).toUInt32 >>> (((2 : Int32)).toUInt32 &&& Int32.toUInt32 31)).toInt32) &&& ((858993459 : Int32)))) + (((((a0 - (((a0.toUInt32 >>> (((1 : Int32)).toUInt32 &&& Int32.toUInt32 31)).toInt32) &&& ((1431655765 : Int32)))) &&& ((858993459 : Int32))) + ((((a0 - (((a0.toUInt32 >>> (((1 : Int32)).toUInt32 &&& Int32.toUInt32 31)).toInt32) &&& ((1431655765 : Int32)))).toUInt32 >>> (((2 : Int32)).toUInt32 &&& Int32.toUInt32 31)).toInt32) &&& ((858993459 : Int32)))).toUInt32 >>> (((4 : Int32)).toUInt32 &&& Int32.toUInt32 31)).toInt32)) &&& ((252645135 : Int32))) + (((((((a0 - (((a0.toUInt32 >>> (((1 : Int32)).toUInt32 &&& Int32.toUInt32 31)).toInt32) &&& ((1431655765 : Int32)))) &&& ((858993459 : Int32))) + ((((a0 - (((a0.toUInt32 >>> (((1 : Int32)).toUInt32 &&& Int32.toUInt32 31)).toInt32) &&& ((1431655765 : Int32)))).toUInt32 >>> (((2 : Int32)).toUInt32 &&& Int32.toUInt32 31)).toInt32) &&& ((858993459 : Int32)))) + (((((a0 - (((a0.toUInt32 >>> (((1 : Int32)).toUInt32 &&& Int32.toUInt32 31)).toInt32) &&& ((1431655765 : Int32)))) &&& ((858993459 : Int32))) + ((((a0 - (((a0.toUInt32 >>> (((1 : Int32)).toUInt32 &&& Int32.toUInt32 31)).toInt32) &&& ((1431655765 : Int32)))).toUInt32 >>> (((2 : Int32)).toUInt32 &&& Int32.toUInt32 31)).toInt32) &&& ((858993459 : Int32)))).toUInt32 >>> (((4 : Int32)).toUInt32 &&& Int32.toUInt32 31)).toInt32)) &&& ((252645135 : Int32))).toUInt32 >>> (((8 : Int32)).toUInt32 &&& Int32.toUInt32 31)).toInt32)) + ((((((((a0 - (((a0.toUInt32 >>> (((1 : Int32)).toUInt32 &&& Int32.toUInt32 31)).toInt32) &&& ((1431655765 : Int32)))) &&& ((858993459 : Int32))) + ((((a0 - (((a0.toUInt32 >>> (((1 : Int32)).toUInt32 &&& Int32.toUInt32 31)).toInt32) &&& ((1431655765 : Int32)))).toUInt32 >>> (((2 : Int32)).toUInt32 &&& Int32.toUInt32 31)).toInt32) &&& ((858993459 : Int32)))) + (((((a0 - (((a0.toUInt32 >>> (((1 : Int32)).toUInt32 &&& Int32.toUInt32 31)).toInt32) &&& ((1431655765 : Int32)))) &&& ((858993459 : Int32))) + ((((a0 - (((a0.toUInt32 >>> (((1 : Int32)).toUInt32 &&& Int32.toUInt32 31)).toInt32) &&& ((1431655765 : Int32)))).toUInt32 >>> (((2 : Int32)).toUInt32 &&& Int32.toUInt32 31)).toInt32) &&& ((858993459 : Int32)))).toUInt32 >>> (((4 : Int32)).toUInt32 &&& Int32.toUInt32 31)).toInt32)) &&& ((252645135 : Int32))) + (((((((a0 - (((a0.toUInt32 >>> (((1 : Int32)).toUInt32 &&& Int32.toUInt32 31)).toInt32) &&& ((1431655765 : Int32)))) &&& ((858993459 : Int32))) + ((((a0 - (((a0.toUInt32 >>> (((1 : Int32)).toUInt32 &&& Int32.toUInt32 31)).toInt32) &&& ((1431655765 : Int32)))).toUInt32 >>> (((2 : Int32)).toUInt32 &&& Int32.toUInt32 31)).toInt32) &&& ((858993459 : Int32)))) + (((((a0 - (((a0.toUInt32 >>> (((1 : Int32)).toUInt32 &&& Int32.toUInt32 31)).toInt32) &&& ((1431655765 : Int32)))) &&& ((858993459 : Int32))) + ((((a0 - (((a0.toUInt32 >>> (((1 : Int32)).toUInt32 &&& Int32.toUInt32 31)).toInt32) &&& ((1431655765 : Int32)))).toUInt32 >>> (((2 : Int32)).toUInt32 &&& Int32.toUInt32 31)).toInt32) &&& ((858993459 : Int32)))).toUInt32 >>> (((4 : Int32)).toUInt32 &&& Int32.toUInt32 31)).toInt32)) &&& ((252645135 : Int32))).toUInt32 >>> (((8 : Int32)).toUInt32 &&& Int32.toUInt32 31)).toInt32)).toUInt32 >>> (((16 : Int32)).toUInt32 &&& Int32.toUInt32 31)).toInt32)) &&& ((63 : Int32)))])) rfl ?_
  obtain rfl := Option.some.inj H
  exact am_G.nd ⟨rfl, rfl⟩
def fJ9_max_7cf53 (a0 : Int32) (a1 : Int32) (h : am_H) : Option (Int32) :=
  Option.bind (
    if a0 < a1 then
      some a1
    else
      some a0) fun js1 =>
  some js1
set_option maxHeartbeats 4000000 in
set_option maxRecDepth 100000 in
theorem lJ9_max_7cf53 {sc : Nat × (Nat → Int32)} {a0 : Int32} {a1 : Int32} {h : am_H} {r : Int32} (H : fJ9_max_7cf53 a0 a1 h = some r) : am_Cl am_T am_N sc 1 243 [.int a0, .int a1] h (some (.int r)) h := by
  unfold fJ9_max_7cf53 at H
  refine am_mk (q := qJ9_max_7cf53) rfl (fun z => absurd z (by decide)) (fun z => absurd z (by decide)) (Nat.le_of_ble_eq_true rfl) rfl ?_
  show am_G sc (am_Cl am_T am_N sc 0) (am_at kJ9_max_7cf53) (fun t => t.2 = h ∧ am_ret 1 (am_at kJ9_max_7cf53) t.1 = some (some (.int r))) ((0, [some (.int a0), some (.int a1)], []), h)
  refine am_G.fr 2 (g := (2, [some (.int a0), some (.int a1)], [.int a1, .int a0])) rfl ?_
  obtain ⟨js1, E3, H⟩ := am_bd H
  refine am_G.sq (t := ((10, [none, none], [.int js1]), h)) ?_ ?_
  · clear H
    have H := E3
    clear E3
    by_cases c2 : a0 < a1
    · rw [if_pos c2] at H
      refine am_G.br (tgt := 9) rfl rfl (if_pos c2) rfl ?_
      refine am_G.fr 1 (g := (10, [some (.int a0), some (.int a1)], [.int a1])) rfl ?_
      obtain rfl := Option.some.inj H
      refine am_G.fg [none, none] (by simp only [am_sub, and_self]) ?_
      exact am_G.nd rfl
    · rw [if_neg c2] at H
      refine am_G.br (tgt := 5) rfl rfl (if_neg c2) rfl ?_
      refine am_G.fr 2 (g := (10, [some (.int a0), some (.int a1)], [.int a0])) rfl ?_
      obtain rfl := Option.some.inj H
      refine am_G.fg [none, none] (by simp only [am_sub, and_self]) ?_
      exact am_G.nd rfl
  · clear E3
    obtain rfl := Option.some.inj H
    exact am_G.nd ⟨rfl, rfl⟩
def fX9_clamp (a0 : Int32) (a1 : Int32) (a2 : Int32) (h : am_H) : Option (Int32) :=
  (fJ9_min_7cf53 a2 a0 h).bind fun x2 =>
  (fJ9_max_7cf53 a1 x2 h).bind fun x4 =>
  some x4
set_option maxHeartbeats 4000000 in
set_option maxRecDepth 100000 in
theorem lX9_clamp {sc : Nat × (Nat → Int32)} {a0 : Int32} {a1 : Int32} {a2 : Int32} {h : am_H} {r : Int32} (H : fX9_clamp a0 a1 a2 h = some r) : am_Cl am_T am_N sc 2 133 [.int a0, .int a1, .int a2] h (some (.int r)) h := by
  unfold fX9_clamp at H
  refine am_mk (q := qX9_clamp) rfl (fun z => absurd z (by decide)) (fun z => absurd z (by decide)) (Nat.le_of_ble_eq_true rfl) rfl ?_
  show am_G sc (am_Cl am_T am_N sc 1) (am_at kX9_clamp) (fun t => t.2 = h ∧ am_ret 1 (am_at kX9_clamp) t.1 = some (some (.int r))) ((0, [some (.int a0), some (.int a1), some (.int a2)], []), h)
  refine am_G.fr 3 (g := (3, [some (.int a0), some (.int a1), some (.int a2)], [.int a0, .int a2, .int a1])) rfl ?_
  obtain ⟨x2, e1, H⟩ := am_bd H
  refine am_G.cl [.int a2, .int a0] [.int a1] (am_Cl.mono (by decide) (lJ9_min_7cf53 e1)) rfl rfl rfl rfl (Nat.le_of_ble_eq_true rfl) ?_
  obtain ⟨x4, e3, H⟩ := am_bd H
  refine am_G.cl [.int a1, .int x2] [] (am_Cl.mono (by decide) (lJ9_max_7cf53 e3)) rfl rfl rfl rfl (Nat.le_of_ble_eq_true rfl) ?_
  obtain rfl := Option.some.inj H
  exact am_G.nd ⟨rfl, rfl⟩
def fX6_receive (a0 : Nat) (a1 : Nat) (a2 : Int32) (a3 : Int32) (h : am_H) : Option (am_H) :=
  (am_isO h a0 5).bind fun _ =>
  if ¬ a3 = ((-1 : Int32)) then
    (am_gR h a0 5 3).bind fun at2 =>
    (am_sI h 0 at2 a2 a3).bind fun hh4 =>
    (am_gR hh4 a0 5 4).bind fun been6 =>
    (am_sI hh4 0 been6 a2 ((0 : Int32))).bind fun hh8 =>
    (am_gR hh8 a0 5 5).bind fun times10 =>
    (am_aI hh8 0 times10 a2).bind fun x12 =>
    (am_sI hh8 0 times10 a2 (x12 + ((1 : Int32)))).bind fun hh14 =>
    (am_gI hh14 a0 5 9).bind fun came16 =>
    (am_pF hh14 a0 5 9 (.int (came16 ||| (((1 : Int32)) <<< (a2 &&& 31))))).bind fun hh18 =>
    (fX6_guests a0 a1 a3 hh18).bind fun x21 =>
    (fJ6_bitCount_0f7a4 x21 hh18).bind fun x23 =>
    (am_gI hh18 a1 7 15).bind fun fadesTold24 =>
    am_b2 (
      if fadesTold24 = 0 then
        some ((-1 : Int32), hh18)
      else
        (am_gR hh18 a1 7 10).bind fun law29 =>
        (am_gR hh18 a0 5 2).bind fun says31 =>
        (am_aI hh18 0 says31 a2).bind fun x33 =>
        (am_gI hh18 a0 5 6).bind fun date35 =>
        (am_gR hh18 a0 5 5).bind fun times37 =>
        (am_aI hh18 0 times37 a2).bind fun x39 =>
        am_b2 (fX1_value law29 x33 x23 date35 x39 hh18) fun x42 hh43 =>
        some (x42, hh43)) fun js26 hh27 =>
    (am_gR hh27 a0 5 2).bind fun says44 =>
    (am_gR hh27 a0 5 2).bind fun says46 =>
    (am_aI hh27 0 says46 a2).bind fun x48 =>
    (fX9_clamp js26 ((-9 : Int32)) ((9 : Int32)) hh27).bind fun x51 =>
    (fX9_clamp (x48 + x51) ((0 : Int32)) ((99 : Int32)) hh27).bind fun x53 =>
    (am_sI hh27 0 says44 a2 x53).bind fun hh54 =>
    some hh54
  else
    (am_gI h a0 5 10).bind fun off57 =>
    (am_pF h a0 5 10 (.int (off57 ||| (((1 : Int32)) <<< (a2 &&& 31))))).bind fun hh59 =>
    (am_gI hh59 a0 5 8).bind fun turnedOff61 =>
    (am_pF hh59 a0 5 8 (.int (turnedOff61 + ((1 : Int32))))).bind fun hh63 =>
    some hh63
set_option maxHeartbeats 4000000 in
set_option maxRecDepth 100000 in
theorem lX6_receive {sc : Nat × (Nat → Int32)} {a0 : Nat} {a1 : Nat} {a2 : Int32} {a3 : Int32} {h : am_H} {h1 : am_H} (H : fX6_receive a0 a1 a2 a3 h = some h1) : am_Cl am_T am_N sc 3 43 [.ref a0, .ref a1, .int a2, .int a3] h none h1 := by
  unfold fX6_receive at H
  obtain ⟨_, hO, H⟩ := am_bd H
  obtain ⟨fs0, hO⟩ := am_isO_ok hO
  refine am_mk (q := qX6_receive) rfl (fun _ => ⟨_, _, _, _, _, rfl, hO, rfl, rfl⟩) (fun z => absurd z (by decide)) (Nat.le_of_ble_eq_true rfl) rfl ?_
  show am_G sc (am_Cl am_T am_N sc 2) (am_at kX6_receive) (fun t => t.2 = h1 ∧ am_ret 0 (am_at kX6_receive) t.1 = some none) ((0, [some (.ref a0), some (.ref a1), some (.int a2), some (.int a3), none, none], []), h)
  refine am_G.fr 2 (g := (2, [some (.ref a0), some (.ref a1), some (.int a2), some (.int a3), none, none], [.int ((-1 : Int32)), .int a3])) rfl ?_
  by_cases c1 : ¬ a3 = ((-1 : Int32))
  · rw [if_pos c1] at H
    refine am_G.br (tgt := 28) rfl rfl (if_pos c1) rfl ?_
    refine am_G.fr 1 (g := (29, [some (.ref a0), some (.ref a1), some (.int a2), some (.int a3), none, none], [.ref a0])) rfl ?_
    obtain ⟨at2, e3, H⟩ := am_bd H
    refine am_G.gR rfl e3 ?_
    refine am_G.fr 2 (g := (34, [some (.ref a0), some (.ref a1), some (.int a2), some (.int a3), none, none], [.int a3, .int a2, .ref at2])) rfl ?_
    obtain ⟨hh4, e5, H⟩ := am_bd H
    refine am_G.sI rfl e5 ?_
    refine am_G.fr 1 (g := (36, [some (.ref a0), some (.ref a1), some (.int a2), some (.int a3), none, none], [.ref a0])) rfl ?_
    obtain ⟨been6, e7, H⟩ := am_bd H
    refine am_G.gR rfl e7 ?_
    refine am_G.fr 2 (g := (41, [some (.ref a0), some (.ref a1), some (.int a2), some (.int a3), none, none], [.int ((0 : Int32)), .int a2, .ref been6])) rfl ?_
    obtain ⟨hh8, e9, H⟩ := am_bd H
    refine am_G.sI rfl e9 ?_
    refine am_G.fr 1 (g := (43, [some (.ref a0), some (.ref a1), some (.int a2), some (.int a3), none, none], [.ref a0])) rfl ?_
    obtain ⟨times10, e11, H⟩ := am_bd H
    refine am_G.gR rfl e11 ?_
    refine am_G.fr 2 (g := (48, [some (.ref a0), some (.ref a1), some (.int a2), some (.int a3), none, none], [.int a2, .ref times10, .int a2, .ref times10])) rfl ?_
    obtain ⟨x12, e13, H⟩ := am_bd H
    refine am_G.aI rfl e13 ?_
    refine am_G.fr 2 (g := (51, [some (.ref a0), some (.ref a1), some (.int a2), some (.int a3), none, none], [.int (x12 + ((1 : Int32))), .int a2, .ref times10])) rfl ?_
    obtain ⟨hh14, e15, H⟩ := am_bd H
    refine am_G.sI rfl e15 ?_
    refine am_G.fr 2 (g := (54, [some (.ref a0), some (.ref a1), some (.int a2), some (.int a3), none, none], [.ref a0, .ref a0])) rfl ?_
    obtain ⟨came16, e17, H⟩ := am_bd H
    refine am_G.gI rfl e17 ?_
    refine am_G.fr 4 (g := (61, [some (.ref a0), some (.ref a1), some (.int a2), some (.int a3), none, none], [.int (came16 ||| (((1 : Int32)) <<< (a2 &&& 31))), .ref a0])) rfl ?_
    obtain ⟨hh18, e19, H⟩ := am_bd H
    refine am_G.pF rfl e19 ?_
    refine am_G.fr 3 (g := (67, [some (.ref a0), some (.ref a1), some (.int a2), some (.int a3), none, none], [.int a3, .ref a1, .ref a0])) rfl ?_
    obtain ⟨x21, e20, H⟩ := am_bd H
    refine am_G.cl [.ref a0, .ref a1, .int a3] [] (am_Cl.mono (by decide) (lX6_guests e20)) rfl rfl rfl rfl (Nat.le_of_ble_eq_true rfl) ?_
    obtain ⟨x23, e22, H⟩ := am_bd H
    refine am_G.cl [.int x21] [] (am_Cl.mono (by decide) (lJ6_bitCount_0f7a4 e22)) rfl rfl rfl rfl (Nat.le_of_ble_eq_true rfl) ?_
    refine am_G.fr 2 (g := (76, [some (.ref a0), some (.ref a1), some (.int a2), some (.int a3), some (.int x23), none], [.ref a1])) rfl ?_
    obtain ⟨fadesTold24, e25, H⟩ := am_bd H
    refine am_G.gI rfl e25 ?_
    obtain ⟨js26, hh27, E56, H⟩ := am_bd2 H
    refine am_G.sq (t := ((111, [some (.ref a0), none, some (.int a2), none, none, none], [.int js26]), hh27)) ?_ ?_
    · clear H
      have H := E56
      clear E56
      by_cases c28 : fadesTold24 = 0
      · rw [if_pos c28] at H
        refine am_G.br (tgt := 110) rfl rfl (if_pos c28) rfl ?_
        refine am_G.fr 1 (g := (111, [some (.ref a0), some (.ref a1), some (.int a2), some (.int a3), some (.int x23), none], [.int ((-1 : Int32))])) rfl ?_
        obtain ⟨rfl, rfl⟩ := am_inj2 H
        refine am_G.fg [some (.ref a0), none, some (.int a2), none, none, none] (by simp only [am_sub, and_self]) ?_
        exact am_G.nd rfl
      · rw [if_neg c28] at H
        refine am_G.br (tgt := 82) rfl rfl (if_neg c28) rfl ?_
        refine am_G.fr 1 (g := (83, [some (.ref a0), some (.ref a1), some (.int a2), some (.int a3), some (.int x23), none], [.ref a1])) rfl ?_
        obtain ⟨law29, e30, H⟩ := am_bd H
        refine am_G.gR rfl e30 ?_
        refine am_G.fr 1 (g := (87, [some (.ref a0), some (.ref a1), some (.int a2), some (.int a3), some (.int x23), none], [.ref a0, .ref law29])) rfl ?_
        obtain ⟨says31, e32, H⟩ := am_bd H
        refine am_G.gR rfl e32 ?_
        refine am_G.fr 1 (g := (91, [some (.ref a0), some (.ref a1), some (.int a2), some (.int a3), some (.int x23), none], [.int a2, .ref says31, .ref law29])) rfl ?_
        obtain ⟨x33, e34, H⟩ := am_bd H
        refine am_G.aI rfl e34 ?_
        refine am_G.fr 2 (g := (95, [some (.ref a0), some (.ref a1), some (.int a2), some (.int a3), some (.int x23), none], [.ref a0, .int x23, .int x33, .ref law29])) rfl ?_
        obtain ⟨date35, e36, H⟩ := am_bd H
        refine am_G.gI rfl e36 ?_
        refine am_G.fr 1 (g := (99, [some (.ref a0), some (.ref a1), some (.int a2), some (.int a3), some (.int x23), none], [.ref a0, .int date35, .int x23, .int x33, .ref law29])) rfl ?_
        obtain ⟨times37, e38, H⟩ := am_bd H
        refine am_G.gR rfl e38 ?_
        refine am_G.fr 1 (g := (103, [some (.ref a0), some (.ref a1), some (.int a2), some (.int a3), some (.int x23), none], [.int a2, .ref times37, .int date35, .int x23, .int x33, .ref law29])) rfl ?_
        obtain ⟨x39, e40, H⟩ := am_bd H
        refine am_G.aI rfl e40 ?_
        obtain ⟨x42, hh43, e41, H⟩ := am_bd2 H
        refine am_G.cl [.ref law29, .int x33, .int x23, .int date35, .int x39] [] (am_Cl.mono (by decide) (lX1_value e41)) rfl rfl rfl rfl (Nat.le_of_ble_eq_true rfl) ?_
        refine am_G.fr 1 (g := (111, [some (.ref a0), some (.ref a1), some (.int a2), some (.int a3), some (.int x23), none], [.int x42])) rfl ?_
        obtain ⟨rfl, rfl⟩ := am_inj2 H
        refine am_G.fg [some (.ref a0), none, some (.int a2), none, none, none] (by simp only [am_sub, and_self]) ?_
        exact am_G.nd rfl
    · clear E56
      refine am_G.fr 2 (g := (114, [some (.ref a0), none, some (.int a2), none, none, some (.int js26)], [.ref a0])) rfl ?_
      obtain ⟨says44, e45, H⟩ := am_bd H
      refine am_G.gR rfl e45 ?_
      refine am_G.fr 2 (g := (119, [some (.ref a0), none, some (.int a2), none, none, some (.int js26)], [.ref a0, .int a2, .ref says44])) rfl ?_
      obtain ⟨says46, e47, H⟩ := am_bd H
      refine am_G.gR rfl e47 ?_
      refine am_G.fr 1 (g := (123, [some (.ref a0), none, some (.int a2), none, none, some (.int js26)], [.int a2, .ref says46, .int a2, .ref says44])) rfl ?_
      obtain ⟨x48, e49, H⟩ := am_bd H
      refine am_G.aI rfl e49 ?_
      refine am_G.fr 3 (g := (130, [some (.ref a0), none, some (.int a2), none, none, some (.int js26)], [.int ((9 : Int32)), .int ((-9 : Int32)), .int js26, .int x48, .int a2, .ref says44])) rfl ?_
      obtain ⟨x51, e50, H⟩ := am_bd H
      refine am_G.cl [.int js26, .int ((-9 : Int32)), .int ((9 : Int32))] [.int x48, .int a2, .ref says44] (am_Cl.mono (by decide) (lX9_clamp e50)) rfl rfl rfl rfl (Nat.le_of_ble_eq_true rfl) ?_
      refine am_G.fr 3 (g := (137, [some (.ref a0), none, some (.int a2), none, none, some (.int js26)], [.int ((99 : Int32)), .int ((0 : Int32)), .int (x48 + x51), .int a2, .ref says44])) rfl ?_
      obtain ⟨x53, e52, H⟩ := am_bd H
      refine am_G.cl [.int (x48 + x51), .int ((0 : Int32)), .int ((99 : Int32))] [.int a2, .ref says44] (am_Cl.mono (by decide) (lX9_clamp e52)) rfl rfl rfl rfl (Nat.le_of_ble_eq_true rfl) ?_
      obtain ⟨hh54, e55, H⟩ := am_bd H
      refine am_G.sI rfl e55 ?_
      obtain rfl := Option.some.inj H
      exact am_G.nd ⟨rfl, rfl⟩
  · rw [if_neg c1] at H
    refine am_G.br (tgt := 5) rfl rfl (if_neg c1) rfl ?_
    refine am_G.fr 2 (g := (7, [some (.ref a0), some (.ref a1), some (.int a2), some (.int a3), none, none], [.ref a0, .ref a0])) rfl ?_
    obtain ⟨off57, e58, H⟩ := am_bd H
    refine am_G.gI rfl e58 ?_
    refine am_G.fr 4 (g := (14, [some (.ref a0), some (.ref a1), some (.int a2), some (.int a3), none, none], [.int (off57 ||| (((1 : Int32)) <<< (a2 &&& 31))), .ref a0])) rfl ?_
    obtain ⟨hh59, e60, H⟩ := am_bd H
    refine am_G.pF rfl e60 ?_
    refine am_G.fr 2 (g := (19, [some (.ref a0), some (.ref a1), some (.int a2), some (.int a3), none, none], [.ref a0, .ref a0])) rfl ?_
    obtain ⟨turnedOff61, e62, H⟩ := am_bd H
    refine am_G.gI rfl e62 ?_
    refine am_G.fr 2 (g := (24, [some (.ref a0), some (.ref a1), some (.int a2), some (.int a3), none, none], [.int (turnedOff61 + ((1 : Int32))), .ref a0])) rfl ?_
    obtain ⟨hh63, e64, H⟩ := am_bd H
    refine am_G.pF rfl e64 ?_
    obtain rfl := Option.some.inj H
    exact am_G.nd ⟨rfl, rfl⟩
def fX6_stayLonger (a0 : Nat) (a1 : Nat) (a2 : Int32) (h : am_H) : Option (am_H) :=
  (am_isO h a0 5).bind fun _ =>
  (am_gR h a0 5 3).bind fun at1 =>
  (am_aI h 0 at1 a2).bind fun x3 =>
  Option.bind (
    if x3 = ((-1 : Int32)) then
      some h
    else
      (am_gR h a0 5 4).bind fun been7 =>
      (am_aI h 0 been7 a2).bind fun x9 =>
      (am_sI h 0 been7 a2 (x9 + ((1 : Int32)))).bind fun hh11 =>
      (am_gR hh11 a0 5 4).bind fun been13 =>
      (am_aI hh11 0 been13 a2).bind fun x15 =>
      (am_gI hh11 a1 7 13).bind fun stays17 =>
      if x15 < stays17 then
        some hh11
      else
        (fX6_leave a0 a2 hh11).bind fun hh21 =>
        some hh21) fun hh5 =>
  some hh5
set_option maxHeartbeats 4000000 in
set_option maxRecDepth 100000 in
theorem lX6_stayLonger {sc : Nat × (Nat → Int32)} {a0 : Nat} {a1 : Nat} {a2 : Int32} {h : am_H} {h1 : am_H} (H : fX6_stayLonger a0 a1 a2 h = some h1) : am_Cl am_T am_N sc 2 39 [.ref a0, .ref a1, .int a2] h none h1 := by
  unfold fX6_stayLonger at H
  obtain ⟨_, hO, H⟩ := am_bd H
  obtain ⟨fs0, hO⟩ := am_isO_ok hO
  refine am_mk (q := qX6_stayLonger) rfl (fun _ => ⟨_, _, _, _, _, rfl, hO, rfl, rfl⟩) (fun z => absurd z (by decide)) (Nat.le_of_ble_eq_true rfl) rfl ?_
  show am_G sc (am_Cl am_T am_N sc 1) (am_at kX6_stayLonger) (fun t => t.2 = h1 ∧ am_ret 0 (am_at kX6_stayLonger) t.1 = some none) ((0, [some (.ref a0), some (.ref a1), some (.int a2)], []), h)
  refine am_G.fr 1 (g := (1, [some (.ref a0), some (.ref a1), some (.int a2)], [.ref a0])) rfl ?_
  obtain ⟨at1, e2, H⟩ := am_bd H
  refine am_G.gR rfl e2 ?_
  refine am_G.fr 1 (g := (5, [some (.ref a0), some (.ref a1), some (.int a2)], [.int a2, .ref at1])) rfl ?_
  obtain ⟨x3, e4, H⟩ := am_bd H
  refine am_G.aI rfl e4 ?_
  refine am_G.fr 1 (g := (7, [some (.ref a0), some (.ref a1), some (.int a2)], [.int ((-1 : Int32)), .int x3])) rfl ?_
  obtain ⟨hh5, E22, H⟩ := am_bd H
  refine am_G.sq (t := ((38, [none, none, none], []), hh5)) ?_ ?_
  · clear H
    have H := E22
    clear E22
    by_cases c6 : x3 = ((-1 : Int32))
    · rw [if_pos c6] at H
      refine am_G.br (tgt := 38) rfl rfl (if_pos c6) rfl ?_
      obtain rfl := Option.some.inj H
      refine am_G.fg [none, none, none] (by simp only [am_sub, and_self]) ?_
      exact am_G.nd rfl
    · rw [if_neg c6] at H
      refine am_G.br (tgt := 10) rfl rfl (if_neg c6) rfl ?_
      refine am_G.fr 1 (g := (11, [some (.ref a0), some (.ref a1), some (.int a2)], [.ref a0])) rfl ?_
      obtain ⟨been7, e8, H⟩ := am_bd H
      refine am_G.gR rfl e8 ?_
      refine am_G.fr 2 (g := (16, [some (.ref a0), some (.ref a1), some (.int a2)], [.int a2, .ref been7, .int a2, .ref been7])) rfl ?_
      obtain ⟨x9, e10, H⟩ := am_bd H
      refine am_G.aI rfl e10 ?_
      refine am_G.fr 2 (g := (19, [some (.ref a0), some (.ref a1), some (.int a2)], [.int (x9 + ((1 : Int32))), .int a2, .ref been7])) rfl ?_
      obtain ⟨hh11, e12, H⟩ := am_bd H
      refine am_G.sI rfl e12 ?_
      refine am_G.fr 1 (g := (21, [some (.ref a0), some (.ref a1), some (.int a2)], [.ref a0])) rfl ?_
      obtain ⟨been13, e14, H⟩ := am_bd H
      refine am_G.gR rfl e14 ?_
      refine am_G.fr 1 (g := (25, [some (.ref a0), some (.ref a1), some (.int a2)], [.int a2, .ref been13])) rfl ?_
      obtain ⟨x15, e16, H⟩ := am_bd H
      refine am_G.aI rfl e16 ?_
      refine am_G.fr 1 (g := (27, [some (.ref a0), some (.ref a1), some (.int a2)], [.ref a1, .int x15])) rfl ?_
      obtain ⟨stays17, e18, H⟩ := am_bd H
      refine am_G.gI rfl e18 ?_
      by_cases c19 : x15 < stays17
      · rw [if_pos c19] at H
        refine am_G.br (tgt := 38) rfl rfl (if_pos c19) rfl ?_
        obtain rfl := Option.some.inj H
        refine am_G.fg [none, none, none] (by simp only [am_sub, and_self]) ?_
        exact am_G.nd rfl
      · rw [if_neg c19] at H
        refine am_G.br (tgt := 33) rfl rfl (if_neg c19) rfl ?_
        refine am_G.fr 2 (g := (35, [some (.ref a0), some (.ref a1), some (.int a2)], [.int a2, .ref a0])) rfl ?_
        obtain ⟨hh21, e20, H⟩ := am_bd H
        refine am_G.cl [.ref a0, .int a2] [] (am_Cl.mono (by decide) (lX6_leave e20)) rfl rfl rfl rfl (Nat.le_of_ble_eq_true rfl) ?_
        obtain rfl := Option.some.inj H
        refine am_G.fg [none, none, none] (by simp only [am_sub, and_self]) ?_
        exact am_G.nd rfl
  · clear E22
    obtain rfl := Option.some.inj H
    exact am_G.nd ⟨rfl, rfl⟩
def fX6_passDate_L36 : Nat → Nat → Nat → Int32 → am_H → Option (am_H)
  | 0, _, _, _, _ => none
  | n + 1, v0, v1, v2, h =>
    (am_gI h v1 7 12).bind fun days15 =>
    if days15 ≤ v2 then
      some h
    else
      (fX6_stayLonger v0 v1 v2 h).bind fun hh19 =>
      fX6_passDate_L36 n v0 v1 (v2 + (1 : Int32)) hh19
def fX6_passDate_L68 : Nat → Nat → Nat → Int32 → am_H → Option (am_H)
  | 0, _, _, _, _ => none
  | n + 1, v0, v1, v2, h =>
    (am_gI h v1 7 12).bind fun days26 =>
    if days26 ≤ v2 then
      some h
    else
      (fX6_isDue v0 v1 v2 h).bind fun x30 =>
      Option.bind (
        if x30 = 0 then
          some h
        else
          (fX6_hostOf v0 v1 v2 h).bind fun x34 =>
          (fX6_receive v0 v1 v2 x34 h).bind fun hh36 =>
          some hh36) fun hh31 =>
      fX6_passDate_L68 n v0 v1 (v2 + (1 : Int32)) hh31
def fX6_passDate (a0 : Nat) (a1 : Nat) (h : am_H) : Option (am_H) :=
  (am_isO h a0 5).bind fun _ =>
  (am_gI h a0 5 6).bind fun date1 =>
  (am_pF h a0 5 6 (.int (date1 + ((1 : Int32))))).bind fun hh3 =>
  (am_gI hh3 a0 5 6).bind fun date5 =>
  Option.bind (
    if date5 < ((12 : Int32)) then
      some hh3
    else
      (am_pF hh3 a0 5 6 (.int ((0 : Int32)))).bind fun hh9 =>
      (am_gI hh9 a0 5 7).bind fun year11 =>
      (am_pF hh9 a0 5 7 (.int (year11 + ((1 : Int32))))).bind fun hh13 =>
      some hh13) fun hh7 =>
  Option.bind (fX6_passDate_L36 4000 a0 a1 ((0 : Int32)) hh7) fun hh20 =>
  (am_pF hh20 a0 5 9 (.int ((0 : Int32)))).bind fun hh22 =>
  (am_pF hh22 a0 5 10 (.int ((0 : Int32)))).bind fun hh24 =>
  Option.bind (fX6_passDate_L68 4000 a0 a1 ((0 : Int32)) hh24) fun hh38 =>
  some hh38
set_option maxHeartbeats 4000000 in
set_option maxRecDepth 100000 in
theorem lX6_passDate_L36 {sc : Nat × (Nat → Int32)} : ∀ (n : Nat) (v0 : Nat) (v1 : Nat) (v2 : Int32) (h : am_H) (h1 : am_H), fX6_passDate_L36 n v0 v1 v2 h = some h1 → am_G sc (am_Cl am_T am_N sc 3) (am_at kX6_passDate) (fun t => t = ((56, [some (.ref v0), some (.ref v1), none], []), h1)) ((36, [some (.ref v0), some (.ref v1), some (.int v2)], []), h) := by
  intro n
  induction n with
  | zero => intro _ _ _ _ _ H; cases H
  | succ n ih =>
    intro v0 v1 v2 h h1 H
    rw [fX6_passDate_L36] at H
    refine am_G.fr 2 (g := (38, [some (.ref v0), some (.ref v1), some (.int v2)], [.ref v1, .int v2])) rfl ?_
    obtain ⟨days15, e16, H⟩ := am_bd H
    refine am_G.gI rfl e16 ?_
    by_cases c17 : days15 ≤ v2
    · rw [if_pos c17] at H
      refine am_G.br (tgt := 56) rfl rfl (if_pos c17) rfl ?_
      obtain rfl := Option.some.inj H
      refine am_G.fg [some (.ref v0), some (.ref v1), none] (by simp only [am_sub, and_self]) ?_
      exact am_G.nd rfl
    · rw [if_neg c17] at H
      refine am_G.br (tgt := 44) rfl rfl (if_neg c17) rfl ?_
      refine am_G.fr 3 (g := (47, [some (.ref v0), some (.ref v1), some (.int v2)], [.int v2, .ref v1, .ref v0])) rfl ?_
      obtain ⟨hh19, e18, H⟩ := am_bd H
      refine am_G.cl [.ref v0, .ref v1, .int v2] [] (am_Cl.mono (by decide) (lX6_stayLonger e18)) rfl rfl rfl rfl (Nat.le_of_ble_eq_true rfl) ?_
      refine am_G.fr 2 (g := (36, [some (.ref v0), some (.ref v1), some (.int (v2 + (1 : Int32)))], [])) rfl ?_
      exact ih _ _ _ _ _ H
set_option maxHeartbeats 4000000 in
set_option maxRecDepth 100000 in
theorem lX6_passDate_L68 {sc : Nat × (Nat → Int32)} : ∀ (n : Nat) (v0 : Nat) (v1 : Nat) (v2 : Int32) (h : am_H) (h1 : am_H), fX6_passDate_L68 n v0 v1 v2 h = some h1 → am_G sc (am_Cl am_T am_N sc 3) (am_at kX6_passDate) (fun t => t = ((103, [none, none, none], []), h1)) ((68, [some (.ref v0), some (.ref v1), some (.int v2)], []), h) := by
  intro n
  induction n with
  | zero => intro _ _ _ _ _ H; cases H
  | succ n ih =>
    intro v0 v1 v2 h h1 H
    rw [fX6_passDate_L68] at H
    refine am_G.fr 2 (g := (70, [some (.ref v0), some (.ref v1), some (.int v2)], [.ref v1, .int v2])) rfl ?_
    obtain ⟨days26, e27, H⟩ := am_bd H
    refine am_G.gI rfl e27 ?_
    by_cases c28 : days26 ≤ v2
    · rw [if_pos c28] at H
      refine am_G.br (tgt := 103) rfl rfl (if_pos c28) rfl ?_
      obtain rfl := Option.some.inj H
      refine am_G.fg [none, none, none] (by simp only [am_sub, and_self]) ?_
      exact am_G.nd rfl
    · rw [if_neg c28] at H
      refine am_G.br (tgt := 76) rfl rfl (if_neg c28) rfl ?_
      refine am_G.fr 3 (g := (79, [some (.ref v0), some (.ref v1), some (.int v2)], [.int v2, .ref v1, .ref v0])) rfl ?_
      obtain ⟨x30, e29, H⟩ := am_bd H
      refine am_G.cl [.ref v0, .ref v1, .int v2] [] (am_Cl.mono (by decide) (lX6_isDue e29)) rfl rfl rfl rfl (Nat.le_of_ble_eq_true rfl) ?_
      obtain ⟨hh31, E37, H⟩ := am_bd H
      refine am_G.sq (t := ((97, [some (.ref v0), some (.ref v1), some (.int v2)], []), hh31)) ?_ ?_
      · clear H
        have H := E37
        clear E37
        by_cases c32 : x30 = 0
        · rw [if_pos c32] at H
          refine am_G.br (tgt := 97) rfl rfl (if_pos c32) rfl ?_
          obtain rfl := Option.some.inj H
          exact am_G.nd rfl
        · rw [if_neg c32] at H
          refine am_G.br (tgt := 85) rfl rfl (if_neg c32) rfl ?_
          refine am_G.fr 6 (g := (91, [some (.ref v0), some (.ref v1), some (.int v2)], [.int v2, .ref v1, .ref v0, .int v2, .ref v1, .ref v0])) rfl ?_
          obtain ⟨x34, e33, H⟩ := am_bd H
          refine am_G.cl [.ref v0, .ref v1, .int v2] [.int v2, .ref v1, .ref v0] (am_Cl.mono (by decide) (lX6_hostOf e33)) rfl rfl rfl rfl (Nat.le_of_ble_eq_true rfl) ?_
          obtain ⟨hh36, e35, H⟩ := am_bd H
          refine am_G.cl [.ref v0, .ref v1, .int v2, .int x34] [] (am_Cl.mono (by decide) (lX6_receive e35)) rfl rfl rfl rfl (Nat.le_of_ble_eq_true rfl) ?_
          obtain rfl := Option.some.inj H
          exact am_G.nd rfl
      · clear E37
        refine am_G.fr 2 (g := (68, [some (.ref v0), some (.ref v1), some (.int (v2 + (1 : Int32)))], [])) rfl ?_
        exact ih _ _ _ _ _ H
set_option maxHeartbeats 4000000 in
set_option maxRecDepth 100000 in
theorem lX6_passDate {sc : Nat × (Nat → Int32)} {a0 : Nat} {a1 : Nat} {h : am_H} {h1 : am_H} (H : fX6_passDate a0 a1 h = some h1) : am_Cl am_T am_N sc 4 38 [.ref a0, .ref a1] h none h1 := by
  unfold fX6_passDate at H
  obtain ⟨_, hO, H⟩ := am_bd H
  obtain ⟨fs0, hO⟩ := am_isO_ok hO
  refine am_mk (q := qX6_passDate) rfl (fun _ => ⟨_, _, _, _, _, rfl, hO, rfl, rfl⟩) (fun z => absurd z (by decide)) (Nat.le_of_ble_eq_true rfl) rfl ?_
  show am_G sc (am_Cl am_T am_N sc 3) (am_at kX6_passDate) (fun t => t.2 = h1 ∧ am_ret 0 (am_at kX6_passDate) t.1 = some none) ((0, [some (.ref a0), some (.ref a1), none], []), h)
  refine am_G.fr 2 (g := (2, [some (.ref a0), some (.ref a1), none], [.ref a0, .ref a0])) rfl ?_
  obtain ⟨date1, e2, H⟩ := am_bd H
  refine am_G.gI rfl e2 ?_
  refine am_G.fr 2 (g := (7, [some (.ref a0), some (.ref a1), none], [.int (date1 + ((1 : Int32))), .ref a0])) rfl ?_
  obtain ⟨hh3, e4, H⟩ := am_bd H
  refine am_G.pF rfl e4 ?_
  refine am_G.fr 1 (g := (11, [some (.ref a0), some (.ref a1), none], [.ref a0])) rfl ?_
  obtain ⟨date5, e6, H⟩ := am_bd H
  refine am_G.gI rfl e6 ?_
  refine am_G.fr 1 (g := (16, [some (.ref a0), some (.ref a1), none], [.int ((12 : Int32)), .int date5])) rfl ?_
  obtain ⟨hh7, E40, H⟩ := am_bd H
  refine am_G.sq (t := ((34, [some (.ref a0), some (.ref a1), none], []), hh7)) ?_ ?_
  · clear H
    have H := E40
    clear E40
    by_cases c8 : date5 < ((12 : Int32))
    · rw [if_pos c8] at H
      refine am_G.br (tgt := 34) rfl rfl (if_pos c8) rfl ?_
      obtain rfl := Option.some.inj H
      exact am_G.nd rfl
    · rw [if_neg c8] at H
      refine am_G.br (tgt := 19) rfl rfl (if_neg c8) rfl ?_
      refine am_G.fr 2 (g := (21, [some (.ref a0), some (.ref a1), none], [.int ((0 : Int32)), .ref a0])) rfl ?_
      obtain ⟨hh9, e10, H⟩ := am_bd H
      refine am_G.pF rfl e10 ?_
      refine am_G.fr 2 (g := (26, [some (.ref a0), some (.ref a1), none], [.ref a0, .ref a0])) rfl ?_
      obtain ⟨year11, e12, H⟩ := am_bd H
      refine am_G.gI rfl e12 ?_
      refine am_G.fr 2 (g := (31, [some (.ref a0), some (.ref a1), none], [.int (year11 + ((1 : Int32))), .ref a0])) rfl ?_
      obtain ⟨hh13, e14, H⟩ := am_bd H
      refine am_G.pF rfl e14 ?_
      obtain rfl := Option.some.inj H
      exact am_G.nd rfl
  · clear E40
    refine am_G.fr 2 (g := (36, [some (.ref a0), some (.ref a1), some (.int ((0 : Int32)))], [])) rfl ?_
    obtain ⟨hh20, E21, H⟩ := am_bd H
    refine am_G.sq (lX6_passDate_L36 _ _ _ _ _ _ E21) ?_
    clear E21
    refine am_G.fr 2 (g := (58, [some (.ref a0), some (.ref a1), none], [.int ((0 : Int32)), .ref a0])) rfl ?_
    obtain ⟨hh22, e23, H⟩ := am_bd H
    refine am_G.pF rfl e23 ?_
    refine am_G.fr 2 (g := (63, [some (.ref a0), some (.ref a1), none], [.int ((0 : Int32)), .ref a0])) rfl ?_
    obtain ⟨hh24, e25, H⟩ := am_bd H
    refine am_G.pF rfl e25 ?_
    refine am_G.fr 2 (g := (68, [some (.ref a0), some (.ref a1), some (.int ((0 : Int32)))], [])) rfl ?_
    obtain ⟨hh38, E39, H⟩ := am_bd H
    refine am_G.sq (lX6_passDate_L68 _ _ _ _ _ _ E39) ?_
    clear E39
    obtain rfl := Option.some.inj H
    exact am_G.nd ⟨rfl, rfl⟩
def fX6_shift (a0 : Nat) (a1 : Int32) (a2 : Int32) (h : am_H) : Option (am_H) :=
  (am_isO h a0 5).bind fun _ =>
  (am_gR h a0 5 3).bind fun at1 =>
  (am_sI h 0 at1 a1 a2).bind fun hh3 =>
  some hh3
set_option maxHeartbeats 4000000 in
set_option maxRecDepth 100000 in
theorem lX6_shift {sc : Nat × (Nat → Int32)} {a0 : Nat} {a1 : Int32} {a2 : Int32} {h : am_H} {h1 : am_H} (H : fX6_shift a0 a1 a2 h = some h1) : am_Cl am_T am_N sc 1 47 [.ref a0, .int a1, .int a2] h none h1 := by
  unfold fX6_shift at H
  obtain ⟨_, hO, H⟩ := am_bd H
  obtain ⟨fs0, hO⟩ := am_isO_ok hO
  refine am_mk (q := qX6_shift) rfl (fun _ => ⟨_, _, _, _, _, rfl, hO, rfl, rfl⟩) (fun z => absurd z (by decide)) (Nat.le_of_ble_eq_true rfl) rfl ?_
  show am_G sc (am_Cl am_T am_N sc 0) (am_at kX6_shift) (fun t => t.2 = h1 ∧ am_ret 0 (am_at kX6_shift) t.1 = some none) ((0, [some (.ref a0), some (.int a1), some (.int a2)], []), h)
  refine am_G.fr 1 (g := (1, [some (.ref a0), some (.int a1), some (.int a2)], [.ref a0])) rfl ?_
  obtain ⟨at1, e2, H⟩ := am_bd H
  refine am_G.gR rfl e2 ?_
  refine am_G.fr 2 (g := (6, [some (.ref a0), some (.int a1), some (.int a2)], [.int a2, .int a1, .ref at1])) rfl ?_
  obtain ⟨hh3, e4, H⟩ := am_bd H
  refine am_G.sI rfl e4 ?_
  obtain rfl := Option.some.inj H
  exact am_G.nd ⟨rfl, rfl⟩
def fX3_carryOut (a0 : Nat) (a1 : Int32) (a2 : Nat) (a3 : Nat) (h : am_H) : Option (Int32 × am_H) :=
  (am_isO h a0 3).bind fun _ =>
  (am_gR h a0 3 1).bind fun day1 =>
  (am_aI h 0 day1 a1).bind fun x3 =>
  (am_gR h a0 3 2).bind fun house5 =>
  (am_aI h 0 house5 a1).bind fun x7 =>
  (am_gR h a0 3 0).bind fun act9 =>
  (am_aI h 0 act9 a1).bind fun x11 =>
  if x11.toInt < 1 ∨ 3 < x11.toInt then
    (fX6_passDate a3 a2 h).bind fun hh17 =>
    some ((1 : Int32), hh17)
  else (some (x11.toInt - 1).toNat).bind fun k14 =>
  if k14 = 0 then
    (fX6_canShift a3 a2 x3 x7 h).bind fun x19 =>
    if ¬ x19 = 0 then
      (fX6_shift a3 x3 x7 h).bind fun hh22 =>
      some ((1 : Int32), hh22)
    else
      some ((0 : Int32), h)
  else if k14 = 1 then
    (am_gR h a3 5 3).bind fun at24 =>
    (am_aI h 0 at24 x3).bind fun x26 =>
    if ¬ x26 = ((-1 : Int32)) then
      (fX6_leave a3 x3 h).bind fun hh30 =>
      some ((1 : Int32), hh30)
    else
      some ((0 : Int32), h)
  else if k14 = 2 then
    (am_gR h a3 5 0).bind fun beds32 =>
    (am_aI h 0 beds32 x7).bind fun x34 =>
    if x34 < ((9 : Int32)) then
      (am_gR h a3 5 0).bind fun beds37 =>
      (am_aI h 0 beds37 x7).bind fun x39 =>
      (am_sI h 0 beds37 x7 (x39 + ((1 : Int32)))).bind fun hh41 =>
      some ((1 : Int32), hh41)
    else
      some ((0 : Int32), h)
  else none
set_option maxHeartbeats 4000000 in
set_option maxRecDepth 100000 in
theorem lX3_carryOut {sc : Nat × (Nat → Int32)} {a0 : Nat} {a1 : Int32} {a2 : Nat} {a3 : Nat} {h : am_H} {r : Int32} {h1 : am_H} (H : fX3_carryOut a0 a1 a2 a3 h = some (r, h1)) : am_Cl am_T am_N sc 5 15 [.ref a0, .int a1, .ref a2, .ref a3] h (some (.int r)) h1 := by
  unfold fX3_carryOut at H
  obtain ⟨_, hO, H⟩ := am_bd H
  obtain ⟨fs0, hO⟩ := am_isO_ok hO
  refine am_mk (q := qX3_carryOut) rfl (fun _ => ⟨_, _, _, _, _, rfl, hO, rfl, rfl⟩) (fun z => absurd z (by decide)) (Nat.le_of_ble_eq_true rfl) rfl ?_
  show am_G sc (am_Cl am_T am_N sc 4) (am_at kX3_carryOut) (fun t => t.2 = h1 ∧ am_ret 2 (am_at kX3_carryOut) t.1 = some (some (.int r))) ((0, [some (.ref a0), some (.int a1), some (.ref a2), some (.ref a3), none, none], []), h)
  refine am_G.fr 1 (g := (1, [some (.ref a0), some (.int a1), some (.ref a2), some (.ref a3), none, none], [.ref a0])) rfl ?_
  obtain ⟨day1, e2, H⟩ := am_bd H
  refine am_G.gR rfl e2 ?_
  refine am_G.fr 1 (g := (5, [some (.ref a0), some (.int a1), some (.ref a2), some (.ref a3), none, none], [.int a1, .ref day1])) rfl ?_
  obtain ⟨x3, e4, H⟩ := am_bd H
  refine am_G.aI rfl e4 ?_
  refine am_G.fr 2 (g := (9, [some (.ref a0), some (.int a1), some (.ref a2), some (.ref a3), some (.int x3), none], [.ref a0])) rfl ?_
  obtain ⟨house5, e6, H⟩ := am_bd H
  refine am_G.gR rfl e6 ?_
  refine am_G.fr 1 (g := (13, [some (.ref a0), some (.int a1), some (.ref a2), some (.ref a3), some (.int x3), none], [.int a1, .ref house5])) rfl ?_
  obtain ⟨x7, e8, H⟩ := am_bd H
  refine am_G.aI rfl e8 ?_
  refine am_G.fr 2 (g := (17, [some (.ref a0), some (.int a1), some (.ref a2), some (.ref a3), some (.int x3), some (.int x7)], [.ref a0])) rfl ?_
  obtain ⟨act9, e10, H⟩ := am_bd H
  refine am_G.gR rfl e10 ?_
  refine am_G.fr 1 (g := (21, [some (.ref a0), some (.int a1), some (.ref a2), some (.ref a3), some (.int x3), some (.int x7)], [.int a1, .ref act9])) rfl ?_
  obtain ⟨x11, e12, H⟩ := am_bd H
  refine am_G.aI rfl e12 ?_
  by_cases c13 : x11.toInt < 1 ∨ 3 < x11.toInt
  · rw [if_pos c13] at H
    refine am_G.swD (tgt := 120) rfl c13 rfl ?_
    refine am_G.fr 2 (g := (122, [some (.ref a0), some (.int a1), some (.ref a2), some (.ref a3), some (.int x3), some (.int x7)], [.ref a2, .ref a3])) rfl ?_
    obtain ⟨hh17, e16, H⟩ := am_bd H
    refine am_G.cl [.ref a3, .ref a2] [] (am_Cl.mono (by decide) (lX6_passDate e16)) rfl rfl rfl rfl (Nat.le_of_ble_eq_true rfl) ?_
    refine am_G.fr 1 (g := (126, [some (.ref a0), some (.int a1), some (.ref a2), some (.ref a3), some (.int x3), some (.int x7)], [.int ((1 : Int32))])) rfl ?_
    obtain ⟨rfl, rfl⟩ := am_inj2 H
    exact am_G.nd ⟨rfl, am_ret2 rfl (if_pos (by decide))⟩
  · rw [if_neg c13] at H
    obtain ⟨k14, e15, H⟩ := am_bd H
    by_cases c23 : k14 = 0
    · rw [if_pos c23] at H
      refine am_G.sw (tgt := 48) (k0 := 0) rfl c13 ((Option.some.inj e15).trans c23) rfl rfl ?_
      refine am_G.fr 4 (g := (54, [some (.ref a0), some (.int a1), some (.ref a2), some (.ref a3), some (.int x3), some (.int x7)], [.int x7, .int x3, .ref a2, .ref a3])) rfl ?_
      obtain ⟨x19, e18, H⟩ := am_bd H
      refine am_G.cl [.ref a3, .ref a2, .int x3, .int x7] [] (am_Cl.mono (by decide) (lX6_canShift e18)) rfl rfl rfl rfl (Nat.le_of_ble_eq_true rfl) ?_
      by_cases c20 : ¬ x19 = 0
      · rw [if_pos c20] at H
        refine am_G.br (tgt := 62) rfl rfl (if_pos c20) rfl ?_
        refine am_G.fr 3 (g := (67, [some (.ref a0), some (.int a1), some (.ref a2), some (.ref a3), some (.int x3), some (.int x7)], [.int x7, .int x3, .ref a3])) rfl ?_
        obtain ⟨hh22, e21, H⟩ := am_bd H
        refine am_G.cl [.ref a3, .int x3, .int x7] [] (am_Cl.mono (by decide) (lX6_shift e21)) rfl rfl rfl rfl (Nat.le_of_ble_eq_true rfl) ?_
        refine am_G.fr 1 (g := (71, [some (.ref a0), some (.int a1), some (.ref a2), some (.ref a3), some (.int x3), some (.int x7)], [.int ((1 : Int32))])) rfl ?_
        obtain ⟨rfl, rfl⟩ := am_inj2 H
        exact am_G.nd ⟨rfl, am_ret2 rfl (if_pos (by decide))⟩
      · rw [if_neg c20] at H
        refine am_G.br (tgt := 60) rfl rfl (if_neg c20) rfl ?_
        refine am_G.fr 1 (g := (61, [some (.ref a0), some (.int a1), some (.ref a2), some (.ref a3), some (.int x3), some (.int x7)], [.int ((0 : Int32))])) rfl ?_
        obtain ⟨rfl, rfl⟩ := am_inj2 H
        exact am_G.nd ⟨rfl, am_ret2 rfl (if_pos (by decide))⟩
    · rw [if_neg c23] at H
      by_cases c31 : k14 = 1
      · rw [if_pos c31] at H
        refine am_G.sw (tgt := 72) (k0 := 1) rfl c13 ((Option.some.inj e15).trans c31) rfl rfl ?_
        refine am_G.fr 1 (g := (73, [some (.ref a0), some (.int a1), some (.ref a2), some (.ref a3), some (.int x3), some (.int x7)], [.ref a3])) rfl ?_
        obtain ⟨at24, e25, H⟩ := am_bd H
        refine am_G.gR rfl e25 ?_
        refine am_G.fr 1 (g := (78, [some (.ref a0), some (.int a1), some (.ref a2), some (.ref a3), some (.int x3), some (.int x7)], [.int x3, .ref at24])) rfl ?_
        obtain ⟨x26, e27, H⟩ := am_bd H
        refine am_G.aI rfl e27 ?_
        refine am_G.fr 1 (g := (80, [some (.ref a0), some (.int a1), some (.ref a2), some (.ref a3), some (.int x3), some (.int x7)], [.int ((-1 : Int32)), .int x26])) rfl ?_
        by_cases c28 : ¬ x26 = ((-1 : Int32))
        · rw [if_pos c28] at H
          refine am_G.br (tgt := 85) rfl rfl (if_pos c28) rfl ?_
          refine am_G.fr 2 (g := (88, [some (.ref a0), some (.int a1), some (.ref a2), some (.ref a3), some (.int x3), some (.int x7)], [.int x3, .ref a3])) rfl ?_
          obtain ⟨hh30, e29, H⟩ := am_bd H
          refine am_G.cl [.ref a3, .int x3] [] (am_Cl.mono (by decide) (lX6_leave e29)) rfl rfl rfl rfl (Nat.le_of_ble_eq_true rfl) ?_
          refine am_G.fr 1 (g := (92, [some (.ref a0), some (.int a1), some (.ref a2), some (.ref a3), some (.int x3), some (.int x7)], [.int ((1 : Int32))])) rfl ?_
          obtain ⟨rfl, rfl⟩ := am_inj2 H
          exact am_G.nd ⟨rfl, am_ret2 rfl (if_pos (by decide))⟩
        · rw [if_neg c28] at H
          refine am_G.br (tgt := 83) rfl rfl (if_neg c28) rfl ?_
          refine am_G.fr 1 (g := (84, [some (.ref a0), some (.int a1), some (.ref a2), some (.ref a3), some (.int x3), some (.int x7)], [.int ((0 : Int32))])) rfl ?_
          obtain ⟨rfl, rfl⟩ := am_inj2 H
          exact am_G.nd ⟨rfl, am_ret2 rfl (if_pos (by decide))⟩
      · rw [if_neg c31] at H
        by_cases c43 : k14 = 2
        · rw [if_pos c43] at H
          refine am_G.sw (tgt := 93) (k0 := 2) rfl c13 ((Option.some.inj e15).trans c43) rfl rfl ?_
          refine am_G.fr 1 (g := (94, [some (.ref a0), some (.int a1), some (.ref a2), some (.ref a3), some (.int x3), some (.int x7)], [.ref a3])) rfl ?_
          obtain ⟨beds32, e33, H⟩ := am_bd H
          refine am_G.gR rfl e33 ?_
          refine am_G.fr 1 (g := (99, [some (.ref a0), some (.int a1), some (.ref a2), some (.ref a3), some (.int x3), some (.int x7)], [.int x7, .ref beds32])) rfl ?_
          obtain ⟨x34, e35, H⟩ := am_bd H
          refine am_G.aI rfl e35 ?_
          refine am_G.fr 1 (g := (102, [some (.ref a0), some (.int a1), some (.ref a2), some (.ref a3), some (.int x3), some (.int x7)], [.int ((9 : Int32)), .int x34])) rfl ?_
          by_cases c36 : x34 < ((9 : Int32))
          · rw [if_pos c36] at H
            refine am_G.br (tgt := 107) rfl rfl (if_pos c36) rfl ?_
            refine am_G.fr 1 (g := (108, [some (.ref a0), some (.int a1), some (.ref a2), some (.ref a3), some (.int x3), some (.int x7)], [.ref a3])) rfl ?_
            obtain ⟨beds37, e38, H⟩ := am_bd H
            refine am_G.gR rfl e38 ?_
            refine am_G.fr 2 (g := (114, [some (.ref a0), some (.int a1), some (.ref a2), some (.ref a3), some (.int x3), some (.int x7)], [.int x7, .ref beds37, .int x7, .ref beds37])) rfl ?_
            obtain ⟨x39, e40, H⟩ := am_bd H
            refine am_G.aI rfl e40 ?_
            refine am_G.fr 2 (g := (117, [some (.ref a0), some (.int a1), some (.ref a2), some (.ref a3), some (.int x3), some (.int x7)], [.int (x39 + ((1 : Int32))), .int x7, .ref beds37])) rfl ?_
            obtain ⟨hh41, e42, H⟩ := am_bd H
            refine am_G.sI rfl e42 ?_
            refine am_G.fr 1 (g := (119, [some (.ref a0), some (.int a1), some (.ref a2), some (.ref a3), some (.int x3), some (.int x7)], [.int ((1 : Int32))])) rfl ?_
            obtain ⟨rfl, rfl⟩ := am_inj2 H
            exact am_G.nd ⟨rfl, am_ret2 rfl (if_pos (by decide))⟩
          · rw [if_neg c36] at H
            refine am_G.br (tgt := 105) rfl rfl (if_neg c36) rfl ?_
            refine am_G.fr 1 (g := (106, [some (.ref a0), some (.int a1), some (.ref a2), some (.ref a3), some (.int x3), some (.int x7)], [.int ((0 : Int32))])) rfl ?_
            obtain ⟨rfl, rfl⟩ := am_inj2 H
            exact am_G.nd ⟨rfl, am_ret2 rfl (if_pos (by decide))⟩
        · rw [if_neg c43] at H
          cases H
