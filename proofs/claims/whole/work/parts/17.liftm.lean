/-! lifted methods -/
def fX10_thrown (a0 : Nat) (h : am_H) : Option (Int32) :=
  (am_isO h a0 9).bind fun _ =>
  (am_gI h a0 9 0).bind fun thrown1 =>
  some thrown1
set_option maxHeartbeats 4000000 in
set_option maxRecDepth 100000 in
theorem lX10_thrown {sc : Nat × (Nat → Int32)} {a0 : Nat} {h : am_H} {r : Int32} (H : fX10_thrown a0 h = some r) : am_Cl am_T am_N sc 1 134 [.ref a0] h (some (.int r)) h := by
  unfold fX10_thrown at H
  obtain ⟨_, hO, H⟩ := am_bd H
  obtain ⟨fs0, hO⟩ := am_isO_ok hO
  refine am_mk (q := qX10_thrown) rfl (fun _ => ⟨_, _, _, _, _, rfl, hO, rfl, rfl⟩) (fun z => absurd z (by decide)) (Nat.le_of_ble_eq_true rfl) rfl ?_
  show am_G sc (am_Cl am_T am_N sc 0) (am_at kX10_thrown) (fun t => t.2 = h ∧ am_ret 1 (am_at kX10_thrown) t.1 = some (some (.int r))) ((0, [some (.ref a0)], []), h)
  refine am_G.fr 1 (g := (1, [some (.ref a0)], [.ref a0])) rfl ?_
  obtain ⟨thrown1, e2, H⟩ := am_bd H
  refine am_G.gI rfl e2 ?_
  obtain rfl := Option.some.inj H
  exact am_G.nd ⟨rfl, rfl⟩
def fX10_lay_L3 : Nat → Nat → Int64 → Int32 → am_H → Option (am_H)
  | 0, _, _, _, _ => none
  | n + 1, v0, v1, v3, h =>
    if v3 < 0 then
      some h
    else
      Option.bind (
        if (((v1 >>> (v3.toInt64 &&& 63)).toInt32) &&& ((255 : Int32))) = ((10 : Int32)) then
          (am_gI h v0 9 2).bind fun taped4 =>
          if ((1000 : Int32)) ≤ taped4 then
            some h
          else
            (am_gR h v0 9 1).bind fun tape7 =>
            (am_gI h v0 9 2).bind fun taped9 =>
            (am_sI h 0 tape7 taped9 (((v1 >>> (v3.toInt64 &&& 63)).toInt32) &&& ((255 : Int32)))).bind fun hh11 =>
            (am_gI hh11 v0 9 2).bind fun taped13 =>
            (am_pF hh11 v0 9 2 (.int (taped13 + ((1 : Int32))))).bind fun hh15 =>
            some hh15
        else
          if (((v1 >>> (v3.toInt64 &&& 63)).toInt32) &&& ((255 : Int32))) < ((32 : Int32)) then
            some h
          else
            if ((126 : Int32)) < (((v1 >>> (v3.toInt64 &&& 63)).toInt32) &&& ((255 : Int32))) then
              some h
            else
              (am_gI h v0 9 2).bind fun taped19 =>
              if ((1000 : Int32)) ≤ taped19 then
                some h
              else
                (am_gR h v0 9 1).bind fun tape22 =>
                (am_gI h v0 9 2).bind fun taped24 =>
                (am_sI h 0 tape22 taped24 (((v1 >>> (v3.toInt64 &&& 63)).toInt32) &&& ((255 : Int32)))).bind fun hh26 =>
                (am_gI hh26 v0 9 2).bind fun taped28 =>
                (am_pF hh26 v0 9 2 (.int (taped28 + ((1 : Int32))))).bind fun hh30 =>
                some hh30) fun hh2 =>
      fX10_lay_L3 n v0 v1 (v3 + (-8 : Int32)) hh2
def fX10_lay (a0 : Nat) (a1 : Int64) (h : am_H) : Option (am_H) :=
  (am_isO h a0 9).bind fun _ =>
  Option.bind (fX10_lay_L3 4000 a0 a1 ((56 : Int32)) h) fun hh33 =>
  some hh33
set_option maxHeartbeats 4000000 in
set_option maxRecDepth 100000 in
theorem lX10_lay_L3 {sc : Nat × (Nat → Int32)} : ∀ (n : Nat) (v0 : Nat) (v1 : Int64) (v3 : Int32) (h : am_H) (h1 : am_H), fX10_lay_L3 n v0 v1 v3 h = some h1 → am_G sc (am_Cl am_T am_N sc 0) (am_at kX10_lay) (fun t => t = ((75, [none, none, none, none, none], []), h1)) ((3, [some (.ref v0), some (.long v1), none, some (.int v3), none], []), h) := by
  intro n
  induction n with
  | zero => intro _ _ _ _ _ H; cases H
  | succ n ih =>
    intro v0 v1 v3 h h1 H
    rw [fX10_lay_L3] at H
    refine am_G.fr 1 (g := (4, [some (.ref v0), some (.long v1), none, some (.int v3), none], [.int v3])) rfl ?_
    by_cases c1 : v3 < 0
    · rw [if_pos c1] at H
      refine am_G.br (tgt := 75) rfl rfl (if_pos c1) rfl ?_
      obtain rfl := Option.some.inj H
      refine am_G.fg [none, none, none, none, none] (by simp only [am_sub, and_self]) ?_
      exact am_G.nd rfl
    · rw [if_neg c1] at H
      refine am_G.br (tgt := 7) rfl rfl (if_neg c1) rfl ?_
      refine am_G.fr 9 (g := (21, [some (.ref v0), some (.long v1), none, some (.int v3), some (.int (((v1 >>> (v3.toInt64 &&& 63)).toInt32) &&& ((255 : Int32))))], [.int ((10 : Int32)), .int (((v1 >>> (v3.toInt64 &&& 63)).toInt32) &&& ((255 : Int32)))])) rfl ?_
      obtain ⟨hh2, E32, H⟩ := am_bd H
      refine am_G.sq (t := ((69, [some (.ref v0), some (.long v1), none, some (.int v3), none], []), hh2)) ?_ ?_
      · clear H
        have H := E32
        clear E32
        by_cases c3 : (((v1 >>> (v3.toInt64 &&& 63)).toInt32) &&& ((255 : Int32))) = ((10 : Int32))
        · rw [if_pos c3] at H
          refine am_G.br (tgt := 38) rfl rfl (if_pos c3) rfl ?_
          refine am_G.fr 1 (g := (39, [some (.ref v0), some (.long v1), none, some (.int v3), some (.int (((v1 >>> (v3.toInt64 &&& 63)).toInt32) &&& ((255 : Int32))))], [.ref v0])) rfl ?_
          obtain ⟨taped4, e5, H⟩ := am_bd H
          refine am_G.gI rfl e5 ?_
          refine am_G.fr 1 (g := (45, [some (.ref v0), some (.long v1), none, some (.int v3), some (.int (((v1 >>> (v3.toInt64 &&& 63)).toInt32) &&& ((255 : Int32))))], [.int ((1000 : Int32)), .int taped4])) rfl ?_
          by_cases c6 : ((1000 : Int32)) ≤ taped4
          · rw [if_pos c6] at H
            refine am_G.br (tgt := 69) rfl rfl (if_pos c6) rfl ?_
            obtain rfl := Option.some.inj H
            refine am_G.fg [some (.ref v0), some (.long v1), none, some (.int v3), none] (by simp only [am_sub, and_self]) ?_
            exact am_G.nd rfl
          · rw [if_neg c6] at H
            refine am_G.br (tgt := 48) rfl rfl (if_neg c6) rfl ?_
            refine am_G.fr 1 (g := (49, [some (.ref v0), some (.long v1), none, some (.int v3), some (.int (((v1 >>> (v3.toInt64 &&& 63)).toInt32) &&& ((255 : Int32))))], [.ref v0])) rfl ?_
            obtain ⟨tape7, e8, H⟩ := am_bd H
            refine am_G.gR rfl e8 ?_
            refine am_G.fr 1 (g := (53, [some (.ref v0), some (.long v1), none, some (.int v3), some (.int (((v1 >>> (v3.toInt64 &&& 63)).toInt32) &&& ((255 : Int32))))], [.ref v0, .ref tape7])) rfl ?_
            obtain ⟨taped9, e10, H⟩ := am_bd H
            refine am_G.gI rfl e10 ?_
            refine am_G.fr 1 (g := (58, [some (.ref v0), some (.long v1), none, some (.int v3), some (.int (((v1 >>> (v3.toInt64 &&& 63)).toInt32) &&& ((255 : Int32))))], [.int (((v1 >>> (v3.toInt64 &&& 63)).toInt32) &&& ((255 : Int32))), .int taped9, .ref tape7])) rfl ?_
            obtain ⟨hh11, e12, H⟩ := am_bd H
            refine am_G.sI rfl e12 ?_
            refine am_G.fr 2 (g := (61, [some (.ref v0), some (.long v1), none, some (.int v3), some (.int (((v1 >>> (v3.toInt64 &&& 63)).toInt32) &&& ((255 : Int32))))], [.ref v0, .ref v0])) rfl ?_
            obtain ⟨taped13, e14, H⟩ := am_bd H
            refine am_G.gI rfl e14 ?_
            refine am_G.fr 2 (g := (66, [some (.ref v0), some (.long v1), none, some (.int v3), some (.int (((v1 >>> (v3.toInt64 &&& 63)).toInt32) &&& ((255 : Int32))))], [.int (taped13 + ((1 : Int32))), .ref v0])) rfl ?_
            obtain ⟨hh15, e16, H⟩ := am_bd H
            refine am_G.pF rfl e16 ?_
            obtain rfl := Option.some.inj H
            refine am_G.fg [some (.ref v0), some (.long v1), none, some (.int v3), none] (by simp only [am_sub, and_self]) ?_
            exact am_G.nd rfl
        · rw [if_neg c3] at H
          refine am_G.br (tgt := 24) rfl rfl (if_neg c3) rfl ?_
          refine am_G.fr 2 (g := (28, [some (.ref v0), some (.long v1), none, some (.int v3), some (.int (((v1 >>> (v3.toInt64 &&& 63)).toInt32) &&& ((255 : Int32))))], [.int ((32 : Int32)), .int (((v1 >>> (v3.toInt64 &&& 63)).toInt32) &&& ((255 : Int32)))])) rfl ?_
          by_cases c17 : (((v1 >>> (v3.toInt64 &&& 63)).toInt32) &&& ((255 : Int32))) < ((32 : Int32))
          · rw [if_pos c17] at H
            refine am_G.br (tgt := 69) rfl rfl (if_pos c17) rfl ?_
            obtain rfl := Option.some.inj H
            refine am_G.fg [some (.ref v0), some (.long v1), none, some (.int v3), none] (by simp only [am_sub, and_self]) ?_
            exact am_G.nd rfl
          · rw [if_neg c17] at H
            refine am_G.br (tgt := 31) rfl rfl (if_neg c17) rfl ?_
            refine am_G.fr 2 (g := (35, [some (.ref v0), some (.long v1), none, some (.int v3), some (.int (((v1 >>> (v3.toInt64 &&& 63)).toInt32) &&& ((255 : Int32))))], [.int ((126 : Int32)), .int (((v1 >>> (v3.toInt64 &&& 63)).toInt32) &&& ((255 : Int32)))])) rfl ?_
            by_cases c18 : ((126 : Int32)) < (((v1 >>> (v3.toInt64 &&& 63)).toInt32) &&& ((255 : Int32)))
            · rw [if_pos c18] at H
              refine am_G.br (tgt := 69) rfl rfl (if_pos c18) rfl ?_
              obtain rfl := Option.some.inj H
              refine am_G.fg [some (.ref v0), some (.long v1), none, some (.int v3), none] (by simp only [am_sub, and_self]) ?_
              exact am_G.nd rfl
            · rw [if_neg c18] at H
              refine am_G.br (tgt := 38) rfl rfl (if_neg c18) rfl ?_
              refine am_G.fr 1 (g := (39, [some (.ref v0), some (.long v1), none, some (.int v3), some (.int (((v1 >>> (v3.toInt64 &&& 63)).toInt32) &&& ((255 : Int32))))], [.ref v0])) rfl ?_
              obtain ⟨taped19, e20, H⟩ := am_bd H
              refine am_G.gI rfl e20 ?_
              refine am_G.fr 1 (g := (45, [some (.ref v0), some (.long v1), none, some (.int v3), some (.int (((v1 >>> (v3.toInt64 &&& 63)).toInt32) &&& ((255 : Int32))))], [.int ((1000 : Int32)), .int taped19])) rfl ?_
              by_cases c21 : ((1000 : Int32)) ≤ taped19
              · rw [if_pos c21] at H
                refine am_G.br (tgt := 69) rfl rfl (if_pos c21) rfl ?_
                obtain rfl := Option.some.inj H
                refine am_G.fg [some (.ref v0), some (.long v1), none, some (.int v3), none] (by simp only [am_sub, and_self]) ?_
                exact am_G.nd rfl
              · rw [if_neg c21] at H
                refine am_G.br (tgt := 48) rfl rfl (if_neg c21) rfl ?_
                refine am_G.fr 1 (g := (49, [some (.ref v0), some (.long v1), none, some (.int v3), some (.int (((v1 >>> (v3.toInt64 &&& 63)).toInt32) &&& ((255 : Int32))))], [.ref v0])) rfl ?_
                obtain ⟨tape22, e23, H⟩ := am_bd H
                refine am_G.gR rfl e23 ?_
                refine am_G.fr 1 (g := (53, [some (.ref v0), some (.long v1), none, some (.int v3), some (.int (((v1 >>> (v3.toInt64 &&& 63)).toInt32) &&& ((255 : Int32))))], [.ref v0, .ref tape22])) rfl ?_
                obtain ⟨taped24, e25, H⟩ := am_bd H
                refine am_G.gI rfl e25 ?_
                refine am_G.fr 1 (g := (58, [some (.ref v0), some (.long v1), none, some (.int v3), some (.int (((v1 >>> (v3.toInt64 &&& 63)).toInt32) &&& ((255 : Int32))))], [.int (((v1 >>> (v3.toInt64 &&& 63)).toInt32) &&& ((255 : Int32))), .int taped24, .ref tape22])) rfl ?_
                obtain ⟨hh26, e27, H⟩ := am_bd H
                refine am_G.sI rfl e27 ?_
                refine am_G.fr 2 (g := (61, [some (.ref v0), some (.long v1), none, some (.int v3), some (.int (((v1 >>> (v3.toInt64 &&& 63)).toInt32) &&& ((255 : Int32))))], [.ref v0, .ref v0])) rfl ?_
                obtain ⟨taped28, e29, H⟩ := am_bd H
                refine am_G.gI rfl e29 ?_
                refine am_G.fr 2 (g := (66, [some (.ref v0), some (.long v1), none, some (.int v3), some (.int (((v1 >>> (v3.toInt64 &&& 63)).toInt32) &&& ((255 : Int32))))], [.int (taped28 + ((1 : Int32))), .ref v0])) rfl ?_
                obtain ⟨hh30, e31, H⟩ := am_bd H
                refine am_G.pF rfl e31 ?_
                obtain rfl := Option.some.inj H
                refine am_G.fg [some (.ref v0), some (.long v1), none, some (.int v3), none] (by simp only [am_sub, and_self]) ?_
                exact am_G.nd rfl
      · clear E32
        refine am_G.fr 2 (g := (3, [some (.ref v0), some (.long v1), none, some (.int (v3 + (-8 : Int32))), none], [])) rfl ?_
        exact ih _ _ _ _ _ H
set_option maxHeartbeats 4000000 in
set_option maxRecDepth 100000 in
theorem lX10_lay {sc : Nat × (Nat → Int32)} {a0 : Nat} {a1 : Int64} {h : am_H} {h1 : am_H} (H : fX10_lay a0 a1 h = some h1) : am_Cl am_T am_N sc 1 136 [.ref a0, .long a1] h none h1 := by
  unfold fX10_lay at H
  obtain ⟨_, hO, H⟩ := am_bd H
  obtain ⟨fs0, hO⟩ := am_isO_ok hO
  refine am_mk (q := qX10_lay) rfl (fun _ => ⟨_, _, _, _, _, rfl, hO, rfl, rfl⟩) (fun z => absurd z (by decide)) (Nat.le_of_ble_eq_true rfl) rfl ?_
  show am_G sc (am_Cl am_T am_N sc 0) (am_at kX10_lay) (fun t => t.2 = h1 ∧ am_ret 0 (am_at kX10_lay) t.1 = some none) ((0, [some (.ref a0), some (.long a1), none, none, none], []), h)
  refine am_G.fr 2 (g := (3, [some (.ref a0), some (.long a1), none, some (.int ((56 : Int32))), none], [])) rfl ?_
  obtain ⟨hh33, E34, H⟩ := am_bd H
  refine am_G.sq (lX10_lay_L3 _ _ _ _ _ _ E34) ?_
  clear E34
  obtain rfl := Option.some.inj H
  exact am_G.nd ⟨rfl, rfl⟩
def fX10_feed (a0 : Nat) (a1 : Int64) (a2 : Int64) (a3 : Int64) (h : am_H) : Option (Int32 × am_H) :=
  (am_isO h a0 9).bind fun _ =>
  (am_pF h a0 9 0 (.int ((0 : Int32)))).bind fun hh1 =>
  (fX10_lay a0 a1 hh1).bind fun hh4 =>
  (fX10_lay a0 a2 hh4).bind fun hh6 =>
  (fX10_lay a0 a3 hh6).bind fun hh8 =>
  (am_gI hh8 a0 9 2).bind fun taped9 =>
  some (taped9, hh8)
set_option maxHeartbeats 4000000 in
set_option maxRecDepth 100000 in
theorem lX10_feed {sc : Nat × (Nat → Int32)} {a0 : Nat} {a1 : Int64} {a2 : Int64} {a3 : Int64} {h : am_H} {r : Int32} {h1 : am_H} (H : fX10_feed a0 a1 a2 a3 h = some (r, h1)) : am_Cl am_T am_N sc 2 135 [.ref a0, .long a1, .long a2, .long a3] h (some (.int r)) h1 := by
  unfold fX10_feed at H
  obtain ⟨_, hO, H⟩ := am_bd H
  obtain ⟨fs0, hO⟩ := am_isO_ok hO
  refine am_mk (q := qX10_feed) rfl (fun _ => ⟨_, _, _, _, _, rfl, hO, rfl, rfl⟩) (fun z => absurd z (by decide)) (Nat.le_of_ble_eq_true rfl) rfl ?_
  show am_G sc (am_Cl am_T am_N sc 1) (am_at kX10_feed) (fun t => t.2 = h1 ∧ am_ret 1 (am_at kX10_feed) t.1 = some (some (.int r))) ((0, [some (.ref a0), some (.long a1), none, some (.long a2), none, some (.long a3), none], []), h)
  refine am_G.fr 2 (g := (2, [some (.ref a0), some (.long a1), none, some (.long a2), none, some (.long a3), none], [.int ((0 : Int32)), .ref a0])) rfl ?_
  obtain ⟨hh1, e2, H⟩ := am_bd H
  refine am_G.pF rfl e2 ?_
  refine am_G.fr 2 (g := (7, [some (.ref a0), some (.long a1), none, some (.long a2), none, some (.long a3), none], [.long a1, .ref a0])) rfl ?_
  obtain ⟨hh4, e3, H⟩ := am_bd H
  refine am_G.cl [.ref a0, .long a1] [] (am_Cl.mono (by decide) (lX10_lay e3)) rfl rfl rfl rfl (Nat.le_of_ble_eq_true rfl) ?_
  refine am_G.fr 2 (g := (12, [some (.ref a0), some (.long a1), none, some (.long a2), none, some (.long a3), none], [.long a2, .ref a0])) rfl ?_
  obtain ⟨hh6, e5, H⟩ := am_bd H
  refine am_G.cl [.ref a0, .long a2] [] (am_Cl.mono (by decide) (lX10_lay e5)) rfl rfl rfl rfl (Nat.le_of_ble_eq_true rfl) ?_
  refine am_G.fr 2 (g := (18, [some (.ref a0), some (.long a1), none, some (.long a2), none, some (.long a3), none], [.long a3, .ref a0])) rfl ?_
  obtain ⟨hh8, e7, H⟩ := am_bd H
  refine am_G.cl [.ref a0, .long a3] [] (am_Cl.mono (by decide) (lX10_lay e7)) rfl rfl rfl rfl (Nat.le_of_ble_eq_true rfl) ?_
  refine am_G.fr 1 (g := (22, [some (.ref a0), some (.long a1), none, some (.long a2), none, some (.long a3), none], [.ref a0])) rfl ?_
  obtain ⟨taped9, e10, H⟩ := am_bd H
  refine am_G.gI rfl e10 ?_
  obtain ⟨rfl, rfl⟩ := am_inj2 H
  exact am_G.nd ⟨rfl, rfl⟩
def fX10_dayOf (a0 : Nat) (a1 : Int32) (a2 : Int32) (h : am_H) : Option (Int32) :=
  (am_isO h a0 9).bind fun _ =>
  (am_gR h a0 9 10).bind fun vales1 =>
  (am_aI h 0 vales1 ((((12 : Int32)) + (((5 : Int32)) * a1)) + a2)).bind fun x3 =>
  some x3
set_option maxHeartbeats 4000000 in
set_option maxRecDepth 100000 in
theorem lX10_dayOf {sc : Nat × (Nat → Int32)} {a0 : Nat} {a1 : Int32} {a2 : Int32} {h : am_H} {r : Int32} (H : fX10_dayOf a0 a1 a2 h = some r) : am_Cl am_T am_N sc 1 182 [.ref a0, .int a1, .int a2] h (some (.int r)) h := by
  unfold fX10_dayOf at H
  obtain ⟨_, hO, H⟩ := am_bd H
  obtain ⟨fs0, hO⟩ := am_isO_ok hO
  refine am_mk (q := qX10_dayOf) rfl (fun _ => ⟨_, _, _, _, _, rfl, hO, rfl, rfl⟩) (fun z => absurd z (by decide)) (Nat.le_of_ble_eq_true rfl) rfl ?_
  show am_G sc (am_Cl am_T am_N sc 0) (am_at kX10_dayOf) (fun t => t.2 = h ∧ am_ret 1 (am_at kX10_dayOf) t.1 = some (some (.int r))) ((0, [some (.ref a0), some (.int a1), some (.int a2)], []), h)
  refine am_G.fr 1 (g := (1, [some (.ref a0), some (.int a1), some (.int a2)], [.ref a0])) rfl ?_
  obtain ⟨vales1, e2, H⟩ := am_bd H
  refine am_G.gR rfl e2 ?_
  refine am_G.fr 7 (g := (12, [some (.ref a0), some (.int a1), some (.int a2)], [.int ((((12 : Int32)) + (((5 : Int32)) * a1)) + a2), .ref vales1])) rfl ?_
  obtain ⟨x3, e4, H⟩ := am_bd H
  refine am_G.aI rfl e4 ?_
  obtain rfl := Option.some.inj H
  exact am_G.nd ⟨rfl, rfl⟩
def fX10_days (a0 : Nat) (h : am_H) : Option (Int32) :=
  (am_isO h a0 9).bind fun _ =>
  (am_gR h a0 9 10).bind fun vales1 =>
  (am_aI h 0 vales1 ((1 : Int32))).bind fun x3 =>
  some x3
set_option maxHeartbeats 4000000 in
set_option maxRecDepth 100000 in
theorem lX10_days {sc : Nat × (Nat → Int32)} {a0 : Nat} {h : am_H} {r : Int32} (H : fX10_days a0 h = some r) : am_Cl am_T am_N sc 1 180 [.ref a0] h (some (.int r)) h := by
  unfold fX10_days at H
  obtain ⟨_, hO, H⟩ := am_bd H
  obtain ⟨fs0, hO⟩ := am_isO_ok hO
  refine am_mk (q := qX10_days) rfl (fun _ => ⟨_, _, _, _, _, rfl, hO, rfl, rfl⟩) (fun z => absurd z (by decide)) (Nat.le_of_ble_eq_true rfl) rfl ?_
  show am_G sc (am_Cl am_T am_N sc 0) (am_at kX10_days) (fun t => t.2 = h ∧ am_ret 1 (am_at kX10_days) t.1 = some (some (.int r))) ((0, [some (.ref a0)], []), h)
  refine am_G.fr 1 (g := (1, [some (.ref a0)], [.ref a0])) rfl ?_
  obtain ⟨vales1, e2, H⟩ := am_bd H
  refine am_G.gR rfl e2 ?_
  refine am_G.fr 1 (g := (5, [some (.ref a0)], [.int ((1 : Int32)), .ref vales1])) rfl ?_
  obtain ⟨x3, e4, H⟩ := am_bd H
  refine am_G.aI rfl e4 ?_
  obtain rfl := Option.some.inj H
  exact am_G.nd ⟨rfl, rfl⟩
def fX10_datesAsTold_L2 : Nat → Nat → Int32 → am_H → Option (am_H)
  | 0, _, _, _ => none
  | n + 1, v0, v1, h =>
    (fX10_days v0 h).bind fun x2 =>
    if x2 ≤ v1 then
      some h
    else
      (am_gR h v0 9 27).bind fun dates4 =>
      (fX10_dayOf v0 v1 ((2 : Int32)) h).bind fun x7 =>
      (am_sI h 0 dates4 v1 x7).bind fun hh8 =>
      fX10_datesAsTold_L2 n v0 (v1 + (1 : Int32)) hh8
def fX10_datesAsTold (a0 : Nat) (h : am_H) : Option (am_H) :=
  (am_isO h a0 9).bind fun _ =>
  Option.bind (fX10_datesAsTold_L2 4000 a0 ((0 : Int32)) h) fun hh10 =>
  some hh10
set_option maxHeartbeats 4000000 in
set_option maxRecDepth 100000 in
theorem lX10_datesAsTold_L2 {sc : Nat × (Nat → Int32)} : ∀ (n : Nat) (v0 : Nat) (v1 : Int32) (h : am_H) (h1 : am_H), fX10_datesAsTold_L2 n v0 v1 h = some h1 → am_G sc (am_Cl am_T am_N sc 1) (am_at kX10_datesAsTold) (fun t => t = ((28, [none, none], []), h1)) ((2, [some (.ref v0), some (.int v1)], []), h) := by
  intro n
  induction n with
  | zero => intro _ _ _ _ H; cases H
  | succ n ih =>
    intro v0 v1 h h1 H
    rw [fX10_datesAsTold_L2] at H
    refine am_G.fr 2 (g := (4, [some (.ref v0), some (.int v1)], [.ref v0, .int v1])) rfl ?_
    obtain ⟨x2, e1, H⟩ := am_bd H
    refine am_G.cl [.ref v0] [.int v1] (am_Cl.mono (by decide) (lX10_days e1)) rfl rfl rfl rfl (Nat.le_of_ble_eq_true rfl) ?_
    by_cases c3 : x2 ≤ v1
    · rw [if_pos c3] at H
      refine am_G.br (tgt := 28) rfl rfl (if_pos c3) rfl ?_
      obtain rfl := Option.some.inj H
      refine am_G.fg [none, none] (by simp only [am_sub, and_self]) ?_
      exact am_G.nd rfl
    · rw [if_neg c3] at H
      refine am_G.br (tgt := 10) rfl rfl (if_neg c3) rfl ?_
      refine am_G.fr 1 (g := (11, [some (.ref v0), some (.int v1)], [.ref v0])) rfl ?_
      obtain ⟨dates4, e5, H⟩ := am_bd H
      refine am_G.gR rfl e5 ?_
      refine am_G.fr 4 (g := (18, [some (.ref v0), some (.int v1)], [.int ((2 : Int32)), .int v1, .ref v0, .int v1, .ref dates4])) rfl ?_
      obtain ⟨x7, e6, H⟩ := am_bd H
      refine am_G.cl [.ref v0, .int v1, .int ((2 : Int32))] [.int v1, .ref dates4] (am_Cl.mono (by decide) (lX10_dayOf e6)) rfl rfl rfl rfl (Nat.le_of_ble_eq_true rfl) ?_
      obtain ⟨hh8, e9, H⟩ := am_bd H
      refine am_G.sI rfl e9 ?_
      refine am_G.fr 2 (g := (2, [some (.ref v0), some (.int (v1 + (1 : Int32)))], [])) rfl ?_
      exact ih _ _ _ _ H
set_option maxHeartbeats 4000000 in
set_option maxRecDepth 100000 in
theorem lX10_datesAsTold {sc : Nat × (Nat → Int32)} {a0 : Nat} {h : am_H} {h1 : am_H} (H : fX10_datesAsTold a0 h = some h1) : am_Cl am_T am_N sc 2 176 [.ref a0] h none h1 := by
  unfold fX10_datesAsTold at H
  obtain ⟨_, hO, H⟩ := am_bd H
  obtain ⟨fs0, hO⟩ := am_isO_ok hO
  refine am_mk (q := qX10_datesAsTold) rfl (fun _ => ⟨_, _, _, _, _, rfl, hO, rfl, rfl⟩) (fun z => absurd z (by decide)) (Nat.le_of_ble_eq_true rfl) rfl ?_
  show am_G sc (am_Cl am_T am_N sc 1) (am_at kX10_datesAsTold) (fun t => t.2 = h1 ∧ am_ret 0 (am_at kX10_datesAsTold) t.1 = some none) ((0, [some (.ref a0), none], []), h)
  refine am_G.fr 2 (g := (2, [some (.ref a0), some (.int ((0 : Int32)))], [])) rfl ?_
  obtain ⟨hh10, E11, H⟩ := am_bd H
  refine am_G.sq (lX10_datesAsTold_L2 _ _ _ _ _ E11) ?_
  clear E11
  obtain rfl := Option.some.inj H
  exact am_G.nd ⟨rfl, rfl⟩
def fX10_houseOf (a0 : Nat) (a1 : Int32) (a2 : Int32) (h : am_H) : Option (Int32) :=
  (am_isO h a0 9).bind fun _ =>
  (am_gR h a0 9 10).bind fun vales1 =>
  (am_aI h 0 vales1 ((((4 : Int32)) + (((2 : Int32)) * a1)) + a2)).bind fun x3 =>
  some x3
set_option maxHeartbeats 4000000 in
set_option maxRecDepth 100000 in
theorem lX10_houseOf {sc : Nat × (Nat → Int32)} {a0 : Nat} {a1 : Int32} {a2 : Int32} {h : am_H} {r : Int32} (H : fX10_houseOf a0 a1 a2 h = some r) : am_Cl am_T am_N sc 1 181 [.ref a0, .int a1, .int a2] h (some (.int r)) h := by
  unfold fX10_houseOf at H
  obtain ⟨_, hO, H⟩ := am_bd H
  obtain ⟨fs0, hO⟩ := am_isO_ok hO
  refine am_mk (q := qX10_houseOf) rfl (fun _ => ⟨_, _, _, _, _, rfl, hO, rfl, rfl⟩) (fun z => absurd z (by decide)) (Nat.le_of_ble_eq_true rfl) rfl ?_
  show am_G sc (am_Cl am_T am_N sc 0) (am_at kX10_houseOf) (fun t => t.2 = h ∧ am_ret 1 (am_at kX10_houseOf) t.1 = some (some (.int r))) ((0, [some (.ref a0), some (.int a1), some (.int a2)], []), h)
  refine am_G.fr 1 (g := (1, [some (.ref a0), some (.int a1), some (.int a2)], [.ref a0])) rfl ?_
  obtain ⟨vales1, e2, H⟩ := am_bd H
  refine am_G.gR rfl e2 ?_
  refine am_G.fr 7 (g := (11, [some (.ref a0), some (.int a1), some (.int a2)], [.int ((((4 : Int32)) + (((2 : Int32)) * a1)) + a2), .ref vales1])) rfl ?_
  obtain ⟨x3, e4, H⟩ := am_bd H
  refine am_G.aI rfl e4 ?_
  obtain rfl := Option.some.inj H
  exact am_G.nd ⟨rfl, rfl⟩
def fX10_houses (a0 : Nat) (h : am_H) : Option (Int32) :=
  (am_isO h a0 9).bind fun _ =>
  (am_gR h a0 9 10).bind fun vales1 =>
  (am_aI h 0 vales1 ((0 : Int32))).bind fun x3 =>
  some x3
set_option maxHeartbeats 4000000 in
set_option maxRecDepth 100000 in
theorem lX10_houses {sc : Nat × (Nat → Int32)} {a0 : Nat} {h : am_H} {r : Int32} (H : fX10_houses a0 h = some r) : am_Cl am_T am_N sc 1 179 [.ref a0] h (some (.int r)) h := by
  unfold fX10_houses at H
  obtain ⟨_, hO, H⟩ := am_bd H
  obtain ⟨fs0, hO⟩ := am_isO_ok hO
  refine am_mk (q := qX10_houses) rfl (fun _ => ⟨_, _, _, _, _, rfl, hO, rfl, rfl⟩) (fun z => absurd z (by decide)) (Nat.le_of_ble_eq_true rfl) rfl ?_
  show am_G sc (am_Cl am_T am_N sc 0) (am_at kX10_houses) (fun t => t.2 = h ∧ am_ret 1 (am_at kX10_houses) t.1 = some (some (.int r))) ((0, [some (.ref a0)], []), h)
  refine am_G.fr 1 (g := (1, [some (.ref a0)], [.ref a0])) rfl ?_
  obtain ⟨vales1, e2, H⟩ := am_bd H
  refine am_G.gR rfl e2 ?_
  refine am_G.fr 1 (g := (5, [some (.ref a0)], [.int ((0 : Int32)), .ref vales1])) rfl ?_
  obtain ⟨x3, e4, H⟩ := am_bd H
  refine am_G.aI rfl e4 ?_
  obtain rfl := Option.some.inj H
  exact am_G.nd ⟨rfl, rfl⟩
def fX10_starts_L2 : Nat → Nat → Int32 → Int32 → am_H → Option (am_H)
  | 0, _, _, _, _ => none
  | n + 1, v0, v1, v2, h =>
    if ((30 : Int32)) ≤ v2 then
      some h
    else
      (am_gR h v0 9 24).bind fun state2 =>
      (am_sI h 0 state2 (v1 + v2) ((0 : Int32))).bind fun hh4 =>
      fX10_starts_L2 n v0 v1 (v2 + (1 : Int32)) hh4
def fX10_starts_L25 : Nat → Nat → Int32 → Int32 → am_H → Option (am_H)
  | 0, _, _, _, _ => none
  | n + 1, v0, v1, v2, h =>
    (fX10_houses v0 h).bind fun x9 =>
    if x9 ≤ v2 then
      some h
    else
      (am_gR h v0 9 24).bind fun state11 =>
      (fX10_houseOf v0 v2 ((0 : Int32)) h).bind fun x14 =>
      (am_sI h 0 state11 ((v1 + ((2 : Int32))) + v2) x14).bind fun hh15 =>
      fX10_starts_L25 n v0 v1 (v2 + (1 : Int32)) hh15
def fX10_starts_L57 : Nat → Nat → Int32 → Int32 → am_H → Option (am_H)
  | 0, _, _, _, _ => none
  | n + 1, v0, v1, v2, h =>
    if ((6 : Int32)) ≤ v2 then
      some h
    else
      (am_gR h v0 9 24).bind fun state20 =>
      (am_sI h 0 state20 ((v1 + ((6 : Int32))) + v2) ((-1 : Int32))).bind fun hh22 =>
      (am_gR hh22 v0 9 24).bind fun state24 =>
      (fX10_days v0 hh22).bind fun x27 =>
      Option.bind (
        if x27 ≤ v2 then
          some ((0 : Int32))
        else
          (fX10_dayOf v0 v2 ((3 : Int32)) hh22).bind fun x31 =>
          some x31) fun js28 =>
      (am_sI hh22 0 state24 ((v1 + ((18 : Int32))) + v2) js28).bind fun hh32 =>
      fX10_starts_L57 n v0 v1 (v2 + (1 : Int32)) hh32
def fX10_starts (a0 : Nat) (a1 : Int32) (h : am_H) : Option (am_H) :=
  (am_isO h a0 9).bind fun _ =>
  Option.bind (fX10_starts_L2 4000 a0 a1 ((0 : Int32)) h) fun hh6 =>
  Option.bind (fX10_starts_L25 4000 a0 a1 ((0 : Int32)) hh6) fun hh17 =>
  Option.bind (fX10_starts_L57 4000 a0 a1 ((0 : Int32)) hh17) fun hh35 =>
  some hh35
set_option maxHeartbeats 4000000 in
set_option maxRecDepth 100000 in
theorem lX10_starts_L2 {sc : Nat × (Nat → Int32)} : ∀ (n : Nat) (v0 : Nat) (v1 : Int32) (v2 : Int32) (h : am_H) (h1 : am_H), fX10_starts_L2 n v0 v1 v2 h = some h1 → am_G sc (am_Cl am_T am_N sc 1) (am_at kX10_starts) (fun t => t = ((23, [some (.ref v0), some (.int v1), none], []), h1)) ((2, [some (.ref v0), some (.int v1), some (.int v2)], []), h) := by
  intro n
  induction n with
  | zero => intro _ _ _ _ _ H; cases H
  | succ n ih =>
    intro v0 v1 v2 h h1 H
    rw [fX10_starts_L2] at H
    refine am_G.fr 2 (g := (5, [some (.ref v0), some (.int v1), some (.int v2)], [.int ((30 : Int32)), .int v2])) rfl ?_
    by_cases c1 : ((30 : Int32)) ≤ v2
    · rw [if_pos c1] at H
      refine am_G.br (tgt := 23) rfl rfl (if_pos c1) rfl ?_
      obtain rfl := Option.some.inj H
      refine am_G.fg [some (.ref v0), some (.int v1), none] (by simp only [am_sub, and_self]) ?_
      exact am_G.nd rfl
    · rw [if_neg c1] at H
      refine am_G.br (tgt := 8) rfl rfl (if_neg c1) rfl ?_
      refine am_G.fr 1 (g := (9, [some (.ref v0), some (.int v1), some (.int v2)], [.ref v0])) rfl ?_
      obtain ⟨state2, e3, H⟩ := am_bd H
      refine am_G.gR rfl e3 ?_
      refine am_G.fr 4 (g := (16, [some (.ref v0), some (.int v1), some (.int v2)], [.int ((0 : Int32)), .int (v1 + v2), .ref state2])) rfl ?_
      obtain ⟨hh4, e5, H⟩ := am_bd H
      refine am_G.sI rfl e5 ?_
      refine am_G.fr 2 (g := (2, [some (.ref v0), some (.int v1), some (.int (v2 + (1 : Int32)))], [])) rfl ?_
      exact ih _ _ _ _ _ H
set_option maxHeartbeats 4000000 in
set_option maxRecDepth 100000 in
theorem lX10_starts_L25 {sc : Nat × (Nat → Int32)} : ∀ (n : Nat) (v0 : Nat) (v1 : Int32) (v2 : Int32) (h : am_H) (h1 : am_H), fX10_starts_L25 n v0 v1 v2 h = some h1 → am_G sc (am_Cl am_T am_N sc 1) (am_at kX10_starts) (fun t => t = ((55, [some (.ref v0), some (.int v1), none], []), h1)) ((25, [some (.ref v0), some (.int v1), some (.int v2)], []), h) := by
  intro n
  induction n with
  | zero => intro _ _ _ _ _ H; cases H
  | succ n ih =>
    intro v0 v1 v2 h h1 H
    rw [fX10_starts_L25] at H
    refine am_G.fr 2 (g := (27, [some (.ref v0), some (.int v1), some (.int v2)], [.ref v0, .int v2])) rfl ?_
    obtain ⟨x9, e8, H⟩ := am_bd H
    refine am_G.cl [.ref v0] [.int v2] (am_Cl.mono (by decide) (lX10_houses e8)) rfl rfl rfl rfl (Nat.le_of_ble_eq_true rfl) ?_
    by_cases c10 : x9 ≤ v2
    · rw [if_pos c10] at H
      refine am_G.br (tgt := 55) rfl rfl (if_pos c10) rfl ?_
      obtain rfl := Option.some.inj H
      refine am_G.fg [some (.ref v0), some (.int v1), none] (by simp only [am_sub, and_self]) ?_
      exact am_G.nd rfl
    · rw [if_neg c10] at H
      refine am_G.br (tgt := 33) rfl rfl (if_neg c10) rfl ?_
      refine am_G.fr 1 (g := (34, [some (.ref v0), some (.int v1), some (.int v2)], [.ref v0])) rfl ?_
      obtain ⟨state11, e12, H⟩ := am_bd H
      refine am_G.gR rfl e12 ?_
      refine am_G.fr 8 (g := (45, [some (.ref v0), some (.int v1), some (.int v2)], [.int ((0 : Int32)), .int v2, .ref v0, .int ((v1 + ((2 : Int32))) + v2), .ref state11])) rfl ?_
      obtain ⟨x14, e13, H⟩ := am_bd H
      refine am_G.cl [.ref v0, .int v2, .int ((0 : Int32))] [.int ((v1 + ((2 : Int32))) + v2), .ref state11] (am_Cl.mono (by decide) (lX10_houseOf e13)) rfl rfl rfl rfl (Nat.le_of_ble_eq_true rfl) ?_
      obtain ⟨hh15, e16, H⟩ := am_bd H
      refine am_G.sI rfl e16 ?_
      refine am_G.fr 2 (g := (25, [some (.ref v0), some (.int v1), some (.int (v2 + (1 : Int32)))], [])) rfl ?_
      exact ih _ _ _ _ _ H
set_option maxHeartbeats 4000000 in
set_option maxRecDepth 100000 in
theorem lX10_starts_L57 {sc : Nat × (Nat → Int32)} : ∀ (n : Nat) (v0 : Nat) (v1 : Int32) (v2 : Int32) (h : am_H) (h1 : am_H), fX10_starts_L57 n v0 v1 v2 h = some h1 → am_G sc (am_Cl am_T am_N sc 1) (am_at kX10_starts) (fun t => t = ((110, [none, none, none], []), h1)) ((57, [some (.ref v0), some (.int v1), some (.int v2)], []), h) := by
  intro n
  induction n with
  | zero => intro _ _ _ _ _ H; cases H
  | succ n ih =>
    intro v0 v1 v2 h h1 H
    rw [fX10_starts_L57] at H
    refine am_G.fr 2 (g := (60, [some (.ref v0), some (.int v1), some (.int v2)], [.int ((6 : Int32)), .int v2])) rfl ?_
    by_cases c19 : ((6 : Int32)) ≤ v2
    · rw [if_pos c19] at H
      refine am_G.br (tgt := 110) rfl rfl (if_pos c19) rfl ?_
      obtain rfl := Option.some.inj H
      refine am_G.fg [none, none, none] (by simp only [am_sub, and_self]) ?_
      exact am_G.nd rfl
    · rw [if_neg c19] at H
      refine am_G.br (tgt := 63) rfl rfl (if_neg c19) rfl ?_
      refine am_G.fr 1 (g := (64, [some (.ref v0), some (.int v1), some (.int v2)], [.ref v0])) rfl ?_
      obtain ⟨state20, e21, H⟩ := am_bd H
      refine am_G.gR rfl e21 ?_
      refine am_G.fr 6 (g := (74, [some (.ref v0), some (.int v1), some (.int v2)], [.int ((-1 : Int32)), .int ((v1 + ((6 : Int32))) + v2), .ref state20])) rfl ?_
      obtain ⟨hh22, e23, H⟩ := am_bd H
      refine am_G.sI rfl e23 ?_
      refine am_G.fr 1 (g := (76, [some (.ref v0), some (.int v1), some (.int v2)], [.ref v0])) rfl ?_
      obtain ⟨state24, e25, H⟩ := am_bd H
      refine am_G.gR rfl e25 ?_
      refine am_G.fr 7 (g := (87, [some (.ref v0), some (.int v1), some (.int v2)], [.ref v0, .int v2, .int ((v1 + ((18 : Int32))) + v2), .ref state24])) rfl ?_
      obtain ⟨x27, e26, H⟩ := am_bd H
      refine am_G.cl [.ref v0] [.int v2, .int ((v1 + ((18 : Int32))) + v2), .ref state24] (am_Cl.mono (by decide) (lX10_days e26)) rfl rfl rfl rfl (Nat.le_of_ble_eq_true rfl) ?_
      obtain ⟨js28, E34, H⟩ := am_bd H
      refine am_G.sq (t := ((103, [some (.ref v0), some (.int v1), some (.int v2)], [.int js28, .int ((v1 + ((18 : Int32))) + v2), .ref state24]), hh22)) ?_ ?_
      · clear H
        have H := E34
        clear E34
        by_cases c29 : x27 ≤ v2
        · rw [if_pos c29] at H
          refine am_G.br (tgt := 102) rfl rfl (if_pos c29) rfl ?_
          refine am_G.fr 1 (g := (103, [some (.ref v0), some (.int v1), some (.int v2)], [.int ((0 : Int32)), .int ((v1 + ((18 : Int32))) + v2), .ref state24])) rfl ?_
          obtain rfl := Option.some.inj H
          exact am_G.nd rfl
        · rw [if_neg c29] at H
          refine am_G.br (tgt := 93) rfl rfl (if_neg c29) rfl ?_
          refine am_G.fr 3 (g := (96, [some (.ref v0), some (.int v1), some (.int v2)], [.int ((3 : Int32)), .int v2, .ref v0, .int ((v1 + ((18 : Int32))) + v2), .ref state24])) rfl ?_
          obtain ⟨x31, e30, H⟩ := am_bd H
          refine am_G.cl [.ref v0, .int v2, .int ((3 : Int32))] [.int ((v1 + ((18 : Int32))) + v2), .ref state24] (am_Cl.mono (by decide) (lX10_dayOf e30)) rfl rfl rfl rfl (Nat.le_of_ble_eq_true rfl) ?_
          refine am_G.fr 1 (g := (103, [some (.ref v0), some (.int v1), some (.int v2)], [.int x31, .int ((v1 + ((18 : Int32))) + v2), .ref state24])) rfl ?_
          obtain rfl := Option.some.inj H
          exact am_G.nd rfl
      · clear E34
        obtain ⟨hh32, e33, H⟩ := am_bd H
        refine am_G.sI rfl e33 ?_
        refine am_G.fr 2 (g := (57, [some (.ref v0), some (.int v1), some (.int (v2 + (1 : Int32)))], [])) rfl ?_
        exact ih _ _ _ _ _ H
set_option maxHeartbeats 4000000 in
set_option maxRecDepth 100000 in
theorem lX10_starts {sc : Nat × (Nat → Int32)} {a0 : Nat} {a1 : Int32} {h : am_H} {h1 : am_H} (H : fX10_starts a0 a1 h = some h1) : am_Cl am_T am_N sc 2 175 [.ref a0, .int a1] h none h1 := by
  unfold fX10_starts at H
  obtain ⟨_, hO, H⟩ := am_bd H
  obtain ⟨fs0, hO⟩ := am_isO_ok hO
  refine am_mk (q := qX10_starts) rfl (fun _ => ⟨_, _, _, _, _, rfl, hO, rfl, rfl⟩) (fun z => absurd z (by decide)) (Nat.le_of_ble_eq_true rfl) rfl ?_
  show am_G sc (am_Cl am_T am_N sc 1) (am_at kX10_starts) (fun t => t.2 = h1 ∧ am_ret 0 (am_at kX10_starts) t.1 = some none) ((0, [some (.ref a0), some (.int a1), none], []), h)
  refine am_G.fr 2 (g := (2, [some (.ref a0), some (.int a1), some (.int ((0 : Int32)))], [])) rfl ?_
  obtain ⟨hh6, E7, H⟩ := am_bd H
  refine am_G.sq (lX10_starts_L2 _ _ _ _ _ _ E7) ?_
  clear E7
  refine am_G.fr 2 (g := (25, [some (.ref a0), some (.int a1), some (.int ((0 : Int32)))], [])) rfl ?_
  obtain ⟨hh17, E18, H⟩ := am_bd H
  refine am_G.sq (lX10_starts_L25 _ _ _ _ _ _ E18) ?_
  clear E18
  refine am_G.fr 2 (g := (57, [some (.ref a0), some (.int a1), some (.int ((0 : Int32)))], [])) rfl ?_
  obtain ⟨hh35, E36, H⟩ := am_bd H
  refine am_G.sq (lX10_starts_L57 _ _ _ _ _ _ E36) ?_
  clear E36
  obtain rfl := Option.some.inj H
  exact am_G.nd ⟨rfl, rfl⟩
def fX10_begins_L31 : Nat → Nat → Int32 → am_H → Option (am_H)
  | 0, _, _, _ => none
  | n + 1, v0, v1, h =>
    if ((4 : Int32)) ≤ v1 then
      some h
    else
      (am_gR h v0 9 26).bind fun isMarked16 =>
      (am_sI h 3 isMarked16 v1 ((0 : Int32))).bind fun hh18 =>
      fX10_begins_L31 n v0 (v1 + (1 : Int32)) hh18
def fX10_begins (a0 : Nat) (h : am_H) : Option (am_H) :=
  (am_isO h a0 9).bind fun _ =>
  (fX10_datesAsTold a0 h).bind fun hh2 =>
  (fX10_starts a0 ((0 : Int32)) hh2).bind fun hh4 =>
  (am_gR hh4 a0 9 24).bind fun state5 =>
  (am_sI hh4 0 state5 ((30 : Int32)) ((0 : Int32))).bind fun hh7 =>
  (am_gR hh7 a0 9 21).bind fun lines9 =>
  (am_sI hh7 0 lines9 ((0 : Int32)) ((0 : Int32))).bind fun hh11 =>
  (am_pF hh11 a0 9 25 (.int ((0 : Int32)))).bind fun hh13 =>
  Option.bind (fX10_begins_L31 4000 a0 ((0 : Int32)) hh13) fun hh20 =>
  some hh20
set_option maxHeartbeats 4000000 in
set_option maxRecDepth 100000 in
theorem lX10_begins_L31 {sc : Nat × (Nat → Int32)} : ∀ (n : Nat) (v0 : Nat) (v1 : Int32) (h : am_H) (h1 : am_H), fX10_begins_L31 n v0 v1 h = some h1 → am_G sc (am_Cl am_T am_N sc 2) (am_at kX10_begins) (fun t => t = ((49, [none, none], []), h1)) ((31, [some (.ref v0), some (.int v1)], []), h) := by
  intro n
  induction n with
  | zero => intro _ _ _ _ H; cases H
  | succ n ih =>
    intro v0 v1 h h1 H
    rw [fX10_begins_L31] at H
    refine am_G.fr 2 (g := (33, [some (.ref v0), some (.int v1)], [.int ((4 : Int32)), .int v1])) rfl ?_
    by_cases c15 : ((4 : Int32)) ≤ v1
    · rw [if_pos c15] at H
      refine am_G.br (tgt := 49) rfl rfl (if_pos c15) rfl ?_
      obtain rfl := Option.some.inj H
      refine am_G.fg [none, none] (by simp only [am_sub, and_self]) ?_
      exact am_G.nd rfl
    · rw [if_neg c15] at H
      refine am_G.br (tgt := 36) rfl rfl (if_neg c15) rfl ?_
      refine am_G.fr 1 (g := (37, [some (.ref v0), some (.int v1)], [.ref v0])) rfl ?_
      obtain ⟨isMarked16, e17, H⟩ := am_bd H
      refine am_G.gR rfl e17 ?_
      refine am_G.fr 2 (g := (42, [some (.ref v0), some (.int v1)], [.int ((0 : Int32)), .int v1, .ref isMarked16])) rfl ?_
      obtain ⟨hh18, e19, H⟩ := am_bd H
      refine am_G.sB rfl e19 ?_
      refine am_G.fr 2 (g := (31, [some (.ref v0), some (.int (v1 + (1 : Int32)))], [])) rfl ?_
      exact ih _ _ _ _ H
set_option maxHeartbeats 4000000 in
set_option maxRecDepth 100000 in
theorem lX10_begins {sc : Nat × (Nat → Int32)} {a0 : Nat} {h : am_H} {h1 : am_H} (H : fX10_begins a0 h = some h1) : am_Cl am_T am_N sc 3 177 [.ref a0] h none h1 := by
  unfold fX10_begins at H
  obtain ⟨_, hO, H⟩ := am_bd H
  obtain ⟨fs0, hO⟩ := am_isO_ok hO
  refine am_mk (q := qX10_begins) rfl (fun _ => ⟨_, _, _, _, _, rfl, hO, rfl, rfl⟩) (fun z => absurd z (by decide)) (Nat.le_of_ble_eq_true rfl) rfl ?_
  show am_G sc (am_Cl am_T am_N sc 2) (am_at kX10_begins) (fun t => t.2 = h1 ∧ am_ret 0 (am_at kX10_begins) t.1 = some none) ((0, [some (.ref a0), none], []), h)
  refine am_G.fr 1 (g := (1, [some (.ref a0), none], [.ref a0])) rfl ?_
  obtain ⟨hh2, e1, H⟩ := am_bd H
  refine am_G.cl [.ref a0] [] (am_Cl.mono (by decide) (lX10_datesAsTold e1)) rfl rfl rfl rfl (Nat.le_of_ble_eq_true rfl) ?_
  refine am_G.fr 2 (g := (6, [some (.ref a0), none], [.int ((0 : Int32)), .ref a0])) rfl ?_
  obtain ⟨hh4, e3, H⟩ := am_bd H
  refine am_G.cl [.ref a0, .int ((0 : Int32))] [] (am_Cl.mono (by decide) (lX10_starts e3)) rfl rfl rfl rfl (Nat.le_of_ble_eq_true rfl) ?_
  refine am_G.fr 1 (g := (10, [some (.ref a0), none], [.ref a0])) rfl ?_
  obtain ⟨state5, e6, H⟩ := am_bd H
  refine am_G.gR rfl e6 ?_
  refine am_G.fr 2 (g := (16, [some (.ref a0), none], [.int ((0 : Int32)), .int ((30 : Int32)), .ref state5])) rfl ?_
  obtain ⟨hh7, e8, H⟩ := am_bd H
  refine am_G.sI rfl e8 ?_
  refine am_G.fr 1 (g := (18, [some (.ref a0), none], [.ref a0])) rfl ?_
  obtain ⟨lines9, e10, H⟩ := am_bd H
  refine am_G.gR rfl e10 ?_
  refine am_G.fr 2 (g := (23, [some (.ref a0), none], [.int ((0 : Int32)), .int ((0 : Int32)), .ref lines9])) rfl ?_
  obtain ⟨hh11, e12, H⟩ := am_bd H
  refine am_G.sI rfl e12 ?_
  refine am_G.fr 2 (g := (26, [some (.ref a0), none], [.int ((0 : Int32)), .ref a0])) rfl ?_
  obtain ⟨hh13, e14, H⟩ := am_bd H
  refine am_G.pF rfl e14 ?_
  refine am_G.fr 2 (g := (31, [some (.ref a0), some (.int ((0 : Int32)))], [])) rfl ?_
  obtain ⟨hh20, E21, H⟩ := am_bd H
  refine am_G.sq (lX10_begins_L31 _ _ _ _ _ E21) ?_
  clear E21
  obtain rfl := Option.some.inj H
  exact am_G.nd ⟨rfl, rfl⟩
def fX10_standsAsAlways_L2 : Nat → Nat → Int32 → Int32 → am_H → Option (am_H)
  | 0, _, _, _, _ => none
  | n + 1, v0, v1, v2, h =>
    if ((50 : Int32)) ≤ v2 then
      some h
    else
      (am_gR h v0 9 10).bind fun vales2 =>
      (am_sI h 0 vales2 (v1 + v2) ((0 : Int32))).bind fun hh4 =>
      fX10_standsAsAlways_L2 n v0 v1 (v2 + (1 : Int32)) hh4
def fX10_standsAsAlways (a0 : Nat) (a1 : Int32) (h : am_H) : Option (am_H) :=
  (am_isO h a0 9).bind fun _ =>
  Option.bind (fX10_standsAsAlways_L2 4000 a0 a1 ((0 : Int32)) h) fun hh6 =>
  (am_gR hh6 a0 9 10).bind fun vales8 =>
  (am_sI hh6 0 vales8 (a1 + ((2 : Int32))) ((1 : Int32))).bind fun hh10 =>
  (am_gR hh10 a0 9 10).bind fun vales12 =>
  (am_sI hh10 0 vales12 (a1 + ((3 : Int32))) ((-1 : Int32))).bind fun hh14 =>
  some hh14
set_option maxHeartbeats 4000000 in
set_option maxRecDepth 100000 in
theorem lX10_standsAsAlways_L2 {sc : Nat × (Nat → Int32)} : ∀ (n : Nat) (v0 : Nat) (v1 : Int32) (v2 : Int32) (h : am_H) (h1 : am_H), fX10_standsAsAlways_L2 n v0 v1 v2 h = some h1 → am_G sc (am_Cl am_T am_N sc 0) (am_at kX10_standsAsAlways) (fun t => t = ((23, [some (.ref v0), some (.int v1), none], []), h1)) ((2, [some (.ref v0), some (.int v1), some (.int v2)], []), h) := by
  intro n
  induction n with
  | zero => intro _ _ _ _ _ H; cases H
  | succ n ih =>
    intro v0 v1 v2 h h1 H
    rw [fX10_standsAsAlways_L2] at H
    refine am_G.fr 2 (g := (5, [some (.ref v0), some (.int v1), some (.int v2)], [.int ((50 : Int32)), .int v2])) rfl ?_
    by_cases c1 : ((50 : Int32)) ≤ v2
    · rw [if_pos c1] at H
      refine am_G.br (tgt := 23) rfl rfl (if_pos c1) rfl ?_
      obtain rfl := Option.some.inj H
      refine am_G.fg [some (.ref v0), some (.int v1), none] (by simp only [am_sub, and_self]) ?_
      exact am_G.nd rfl
    · rw [if_neg c1] at H
      refine am_G.br (tgt := 8) rfl rfl (if_neg c1) rfl ?_
      refine am_G.fr 1 (g := (9, [some (.ref v0), some (.int v1), some (.int v2)], [.ref v0])) rfl ?_
      obtain ⟨vales2, e3, H⟩ := am_bd H
      refine am_G.gR rfl e3 ?_
      refine am_G.fr 4 (g := (16, [some (.ref v0), some (.int v1), some (.int v2)], [.int ((0 : Int32)), .int (v1 + v2), .ref vales2])) rfl ?_
      obtain ⟨hh4, e5, H⟩ := am_bd H
      refine am_G.sI rfl e5 ?_
      refine am_G.fr 2 (g := (2, [some (.ref v0), some (.int v1), some (.int (v2 + (1 : Int32)))], [])) rfl ?_
      exact ih _ _ _ _ _ H
set_option maxHeartbeats 4000000 in
set_option maxRecDepth 100000 in
theorem lX10_standsAsAlways {sc : Nat × (Nat → Int32)} {a0 : Nat} {a1 : Int32} {h : am_H} {h1 : am_H} (H : fX10_standsAsAlways a0 a1 h = some h1) : am_Cl am_T am_N sc 1 151 [.ref a0, .int a1] h none h1 := by
  unfold fX10_standsAsAlways at H
  obtain ⟨_, hO, H⟩ := am_bd H
  obtain ⟨fs0, hO⟩ := am_isO_ok hO
  refine am_mk (q := qX10_standsAsAlways) rfl (fun _ => ⟨_, _, _, _, _, rfl, hO, rfl, rfl⟩) (fun z => absurd z (by decide)) (Nat.le_of_ble_eq_true rfl) rfl ?_
  show am_G sc (am_Cl am_T am_N sc 0) (am_at kX10_standsAsAlways) (fun t => t.2 = h1 ∧ am_ret 0 (am_at kX10_standsAsAlways) t.1 = some none) ((0, [some (.ref a0), some (.int a1), none], []), h)
  refine am_G.fr 2 (g := (2, [some (.ref a0), some (.int a1), some (.int ((0 : Int32)))], [])) rfl ?_
  obtain ⟨hh6, E7, H⟩ := am_bd H
  refine am_G.sq (lX10_standsAsAlways_L2 _ _ _ _ _ _ E7) ?_
  clear E7
  refine am_G.fr 1 (g := (24, [some (.ref a0), some (.int a1), none], [.ref a0])) rfl ?_
  obtain ⟨vales8, e9, H⟩ := am_bd H
  refine am_G.gR rfl e9 ?_
  refine am_G.fr 4 (g := (31, [some (.ref a0), some (.int a1), none], [.int ((1 : Int32)), .int (a1 + ((2 : Int32))), .ref vales8])) rfl ?_
  obtain ⟨hh10, e11, H⟩ := am_bd H
  refine am_G.sI rfl e11 ?_
  refine am_G.fr 1 (g := (33, [some (.ref a0), some (.int a1), none], [.ref a0])) rfl ?_
  obtain ⟨vales12, e13, H⟩ := am_bd H
  refine am_G.gR rfl e13 ?_
  refine am_G.fr 4 (g := (40, [some (.ref a0), some (.int a1), none], [.int ((-1 : Int32)), .int (a1 + ((3 : Int32))), .ref vales12])) rfl ?_
  obtain ⟨hh14, e15, H⟩ := am_bd H
  refine am_G.sI rfl e15 ?_
  obtain rfl := Option.some.inj H
  exact am_G.nd ⟨rfl, rfl⟩
def fX10_init (a0 : Nat) (h : am_H) : Option (am_H) :=
  am_b2 (am_nA h 0 ((1000 : Int32))) fun a1 hh2 =>
  (am_pF hh2 a0 9 1 (.ref a1)).bind fun hh4 =>
  am_b2 (am_nA hh4 0 ((1002 : Int32))) fun a6 hh7 =>
  (am_pF hh7 a0 9 4 (.ref a6)).bind fun hh9 =>
  am_b2 (am_nA hh9 0 ((1002 : Int32))) fun a11 hh12 =>
  (am_pF hh12 a0 9 5 (.ref a11)).bind fun hh14 =>
  am_b2 (am_nA hh14 1 ((1002 : Int32))) fun a16 hh17 =>
  (am_pF hh17 a0 9 6 (.ref a16)).bind fun hh19 =>
  am_b2 (am_nA hh19 1 ((25 : Int32))) fun a21 hh22 =>
  (am_sL hh22 a21 ((0 : Int32)) ((15782540 : Int64))).bind fun hh24 =>
  (am_sL hh24 a21 ((1 : Int32)) ((108318 : Int64))).bind fun hh26 =>
  (am_sL hh26 a21 ((2 : Int32)) ((22762530 : Int64))).bind fun hh28 =>
  (am_sL hh28 a21 ((3 : Int32)) ((5538 : Int64))).bind fun hh30 =>
  (am_sL hh30 a21 ((4 : Int32)) ((561 : Int64))).bind fun hh32 =>
  (am_sL hh32 a21 ((5 : Int32)) ((569 : Int64))).bind fun hh34 =>
  (am_sL hh34 a21 ((6 : Int32)) ((964720 : Int64))).bind fun hh36 =>
  (am_sL hh36 a21 ((7 : Int32)) ((6232399 : Int64))).bind fun hh38 =>
  (am_sL hh38 a21 ((8 : Int32)) ((36624432 : Int64))).bind fun hh40 =>
  (am_sL hh40 a21 ((9 : Int32)) ((11301299 : Int64))).bind fun hh42 =>
  (am_sL hh42 a21 ((10 : Int32)) ((204726 : Int64))).bind fun hh44 =>
  (am_sL hh44 a21 ((11 : Int32)) ((679843 : Int64))).bind fun hh46 =>
  (am_sL hh46 a21 ((12 : Int32)) ((969774 : Int64))).bind fun hh48 =>
  (am_sL hh48 a21 ((13 : Int32)) ((4824804 : Int64))).bind fun hh50 =>
  (am_sL hh50 a21 ((14 : Int32)) ((30596128 : Int64))).bind fun hh52 =>
  (am_sL hh52 a21 ((15 : Int32)) ((3078 : Int64))).bind fun hh54 =>
  (am_sL hh54 a21 ((16 : Int32)) ((9446569 : Int64))).bind fun hh56 =>
  (am_sL hh56 a21 ((17 : Int32)) ((614734 : Int64))).bind fun hh58 =>
  (am_sL hh58 a21 ((18 : Int32)) ((19741 : Int64))).bind fun hh60 =>
  (am_sL hh60 a21 ((19 : Int32)) ((1891 : Int64))).bind fun hh62 =>
  (am_sL hh62 a21 ((20 : Int32)) ((573 : Int64))).bind fun hh64 =>
  (am_sL hh64 a21 ((21 : Int32)) ((629152 : Int64))).bind fun hh66 =>
  (am_sL hh66 a21 ((22 : Int32)) ((333123 : Int64))).bind fun hh68 =>
  (am_sL hh68 a21 ((23 : Int32)) ((25143802 : Int64))).bind fun hh70 =>
  (am_sL hh70 a21 ((24 : Int32)) ((37957098 : Int64))).bind fun hh72 =>
  (am_pF hh72 a0 9 9 (.ref a21)).bind fun hh74 =>
  am_b2 (am_nA hh74 0 ((100 : Int32))) fun a76 hh77 =>
  (am_pF hh77 a0 9 10 (.ref a76)).bind fun hh79 =>
  am_b2 (am_nA hh79 0 ((2200 : Int32))) fun a81 hh82 =>
  (am_pF hh82 a0 9 11 (.ref a81)).bind fun hh84 =>
  am_b2 (am_nA hh84 0 ((2200 : Int32))) fun a86 hh87 =>
  (am_pF hh87 a0 9 12 (.ref a86)).bind fun hh89 =>
  am_b2 (am_nA hh89 1 ((10 : Int32))) fun a91 hh92 =>
  (am_pF hh92 a0 9 14 (.ref a91)).bind fun hh94 =>
  am_b2 (am_nA hh94 1 ((10 : Int32))) fun a96 hh97 =>
  (am_pF hh97 a0 9 15 (.ref a96)).bind fun hh99 =>
  am_b2 (am_nA hh99 0 ((10 : Int32))) fun a101 hh102 =>
  (am_pF hh102 a0 9 16 (.ref a101)).bind fun hh104 =>
  am_b2 (am_nA hh104 0 ((10 : Int32))) fun a106 hh107 =>
  (am_pF hh107 a0 9 17 (.ref a106)).bind fun hh109 =>
  am_b2 (am_nA hh109 0 ((250 : Int32))) fun a111 hh112 =>
  (am_pF hh112 a0 9 21 (.ref a111)).bind fun hh114 =>
  am_b2 (am_nA hh114 0 ((4 : Int32))) fun a116 hh117 =>
  (am_pF hh117 a0 9 22 (.ref a116)).bind fun hh119 =>
  am_b2 (am_nA hh119 0 ((1100 : Int32))) fun a121 hh122 =>
  (am_pF hh122 a0 9 23 (.ref a121)).bind fun hh124 =>
  am_b2 (am_nA hh124 0 ((1081 : Int32))) fun a126 hh127 =>
  (am_pF hh127 a0 9 24 (.ref a126)).bind fun hh129 =>
  am_b2 (am_nA hh129 3 ((4 : Int32))) fun a131 hh132 =>
  (am_pF hh132 a0 9 26 (.ref a131)).bind fun hh134 =>
  am_b2 (am_nA hh134 0 ((6 : Int32))) fun a136 hh137 =>
  (am_pF hh137 a0 9 27 (.ref a136)).bind fun hh139 =>
  am_b2 (am_nA hh139 0 ((6 : Int32))) fun a141 hh142 =>
  (am_pF hh142 a0 9 30 (.ref a141)).bind fun hh144 =>
  (fX10_standsAsAlways a0 ((0 : Int32)) hh144).bind fun hh147 =>
  (fX10_begins a0 hh147).bind fun hh149 =>
  some hh149
set_option maxHeartbeats 4000000 in
set_option maxRecDepth 100000 in
theorem lX10_init {sc : Nat × (Nat → Int32)} {a0 : Nat} {h : am_H} {h1 : am_H} (H : fX10_init a0 h = some h1) : am_Cl am_T am_N sc 4 137 [.ref a0] h none h1 := by
  unfold fX10_init at H
  refine am_mk (q := qX10_init) rfl (fun z => absurd z (by decide)) (fun _ => ⟨_, _, rfl⟩) (Nat.le_of_ble_eq_true rfl) rfl ?_
  show am_G sc (am_Cl am_T am_N sc 3) (am_at kX10_init) (fun t => t.2 = h1 ∧ am_ret 0 (am_at kX10_init) t.1 = some none) ((0, [some (.ref a0)], []), h)
  refine am_G.fr 1 (g := (1, [some (.ref a0)], [.ref a0])) rfl ?_
  refine am_G.oi rfl (Nat.le_of_ble_eq_true rfl) ?_
  refine am_G.fr 2 (g := (8, [some (.ref a0)], [.int ((1000 : Int32)), .ref a0])) rfl ?_
  obtain ⟨a1, hh2, e3, H⟩ := am_bd2 H
  refine am_G.nA rfl e3 ?_
  obtain ⟨hh4, e5, H⟩ := am_bd H
  refine am_G.pF rfl e5 ?_
  refine am_G.fr 2 (g := (17, [some (.ref a0)], [.int ((1002 : Int32)), .ref a0])) rfl ?_
  obtain ⟨a6, hh7, e8, H⟩ := am_bd2 H
  refine am_G.nA rfl e8 ?_
  obtain ⟨hh9, e10, H⟩ := am_bd H
  refine am_G.pF rfl e10 ?_
  refine am_G.fr 2 (g := (26, [some (.ref a0)], [.int ((1002 : Int32)), .ref a0])) rfl ?_
  obtain ⟨a11, hh12, e13, H⟩ := am_bd2 H
  refine am_G.nA rfl e13 ?_
  obtain ⟨hh14, e15, H⟩ := am_bd H
  refine am_G.pF rfl e15 ?_
  refine am_G.fr 2 (g := (35, [some (.ref a0)], [.int ((1002 : Int32)), .ref a0])) rfl ?_
  obtain ⟨a16, hh17, e18, H⟩ := am_bd2 H
  refine am_G.nA rfl e18 ?_
  obtain ⟨hh19, e20, H⟩ := am_bd H
  refine am_G.pF rfl e20 ?_
  refine am_G.fr 2 (g := (43, [some (.ref a0)], [.int ((25 : Int32)), .ref a0])) rfl ?_
  obtain ⟨a21, hh22, e23, H⟩ := am_bd2 H
  refine am_G.nA rfl e23 ?_
  refine am_G.fr 3 (g := (50, [some (.ref a0)], [.long ((15782540 : Int64)), .int ((0 : Int32)), .ref a21, .ref a21, .ref a0])) rfl ?_
  obtain ⟨hh24, e25, H⟩ := am_bd H
  refine am_G.sL rfl e25 ?_
  refine am_G.fr 3 (g := (56, [some (.ref a0)], [.long ((108318 : Int64)), .int ((1 : Int32)), .ref a21, .ref a21, .ref a0])) rfl ?_
  obtain ⟨hh26, e27, H⟩ := am_bd H
  refine am_G.sL rfl e27 ?_
  refine am_G.fr 3 (g := (62, [some (.ref a0)], [.long ((22762530 : Int64)), .int ((2 : Int32)), .ref a21, .ref a21, .ref a0])) rfl ?_
  obtain ⟨hh28, e29, H⟩ := am_bd H
  refine am_G.sL rfl e29 ?_
  refine am_G.fr 3 (g := (68, [some (.ref a0)], [.long ((5538 : Int64)), .int ((3 : Int32)), .ref a21, .ref a21, .ref a0])) rfl ?_
  obtain ⟨hh30, e31, H⟩ := am_bd H
  refine am_G.sL rfl e31 ?_
  refine am_G.fr 3 (g := (74, [some (.ref a0)], [.long ((561 : Int64)), .int ((4 : Int32)), .ref a21, .ref a21, .ref a0])) rfl ?_
  obtain ⟨hh32, e33, H⟩ := am_bd H
  refine am_G.sL rfl e33 ?_
  refine am_G.fr 3 (g := (80, [some (.ref a0)], [.long ((569 : Int64)), .int ((5 : Int32)), .ref a21, .ref a21, .ref a0])) rfl ?_
  obtain ⟨hh34, e35, H⟩ := am_bd H
  refine am_G.sL rfl e35 ?_
  refine am_G.fr 3 (g := (87, [some (.ref a0)], [.long ((964720 : Int64)), .int ((6 : Int32)), .ref a21, .ref a21, .ref a0])) rfl ?_
  obtain ⟨hh36, e37, H⟩ := am_bd H
  refine am_G.sL rfl e37 ?_
  refine am_G.fr 3 (g := (94, [some (.ref a0)], [.long ((6232399 : Int64)), .int ((7 : Int32)), .ref a21, .ref a21, .ref a0])) rfl ?_
  obtain ⟨hh38, e39, H⟩ := am_bd H
  refine am_G.sL rfl e39 ?_
  refine am_G.fr 3 (g := (101, [some (.ref a0)], [.long ((36624432 : Int64)), .int ((8 : Int32)), .ref a21, .ref a21, .ref a0])) rfl ?_
  obtain ⟨hh40, e41, H⟩ := am_bd H
  refine am_G.sL rfl e41 ?_
  refine am_G.fr 3 (g := (108, [some (.ref a0)], [.long ((11301299 : Int64)), .int ((9 : Int32)), .ref a21, .ref a21, .ref a0])) rfl ?_
  obtain ⟨hh42, e43, H⟩ := am_bd H
  refine am_G.sL rfl e43 ?_
  refine am_G.fr 3 (g := (115, [some (.ref a0)], [.long ((204726 : Int64)), .int ((10 : Int32)), .ref a21, .ref a21, .ref a0])) rfl ?_
  obtain ⟨hh44, e45, H⟩ := am_bd H
  refine am_G.sL rfl e45 ?_
  refine am_G.fr 3 (g := (122, [some (.ref a0)], [.long ((679843 : Int64)), .int ((11 : Int32)), .ref a21, .ref a21, .ref a0])) rfl ?_
  obtain ⟨hh46, e47, H⟩ := am_bd H
  refine am_G.sL rfl e47 ?_
  refine am_G.fr 3 (g := (129, [some (.ref a0)], [.long ((969774 : Int64)), .int ((12 : Int32)), .ref a21, .ref a21, .ref a0])) rfl ?_
  obtain ⟨hh48, e49, H⟩ := am_bd H
  refine am_G.sL rfl e49 ?_
  refine am_G.fr 3 (g := (136, [some (.ref a0)], [.long ((4824804 : Int64)), .int ((13 : Int32)), .ref a21, .ref a21, .ref a0])) rfl ?_
  obtain ⟨hh50, e51, H⟩ := am_bd H
  refine am_G.sL rfl e51 ?_
  refine am_G.fr 3 (g := (143, [some (.ref a0)], [.long ((30596128 : Int64)), .int ((14 : Int32)), .ref a21, .ref a21, .ref a0])) rfl ?_
  obtain ⟨hh52, e53, H⟩ := am_bd H
  refine am_G.sL rfl e53 ?_
  refine am_G.fr 3 (g := (150, [some (.ref a0)], [.long ((3078 : Int64)), .int ((15 : Int32)), .ref a21, .ref a21, .ref a0])) rfl ?_
  obtain ⟨hh54, e55, H⟩ := am_bd H
  refine am_G.sL rfl e55 ?_
  refine am_G.fr 3 (g := (157, [some (.ref a0)], [.long ((9446569 : Int64)), .int ((16 : Int32)), .ref a21, .ref a21, .ref a0])) rfl ?_
  obtain ⟨hh56, e57, H⟩ := am_bd H
  refine am_G.sL rfl e57 ?_
  refine am_G.fr 3 (g := (164, [some (.ref a0)], [.long ((614734 : Int64)), .int ((17 : Int32)), .ref a21, .ref a21, .ref a0])) rfl ?_
  obtain ⟨hh58, e59, H⟩ := am_bd H
  refine am_G.sL rfl e59 ?_
  refine am_G.fr 3 (g := (171, [some (.ref a0)], [.long ((19741 : Int64)), .int ((18 : Int32)), .ref a21, .ref a21, .ref a0])) rfl ?_
  obtain ⟨hh60, e61, H⟩ := am_bd H
  refine am_G.sL rfl e61 ?_
  refine am_G.fr 3 (g := (178, [some (.ref a0)], [.long ((1891 : Int64)), .int ((19 : Int32)), .ref a21, .ref a21, .ref a0])) rfl ?_
  obtain ⟨hh62, e63, H⟩ := am_bd H
  refine am_G.sL rfl e63 ?_
  refine am_G.fr 3 (g := (185, [some (.ref a0)], [.long ((573 : Int64)), .int ((20 : Int32)), .ref a21, .ref a21, .ref a0])) rfl ?_
  obtain ⟨hh64, e65, H⟩ := am_bd H
  refine am_G.sL rfl e65 ?_
  refine am_G.fr 3 (g := (192, [some (.ref a0)], [.long ((629152 : Int64)), .int ((21 : Int32)), .ref a21, .ref a21, .ref a0])) rfl ?_
  obtain ⟨hh66, e67, H⟩ := am_bd H
  refine am_G.sL rfl e67 ?_
  refine am_G.fr 3 (g := (199, [some (.ref a0)], [.long ((333123 : Int64)), .int ((22 : Int32)), .ref a21, .ref a21, .ref a0])) rfl ?_
  obtain ⟨hh68, e69, H⟩ := am_bd H
  refine am_G.sL rfl e69 ?_
  refine am_G.fr 3 (g := (206, [some (.ref a0)], [.long ((25143802 : Int64)), .int ((23 : Int32)), .ref a21, .ref a21, .ref a0])) rfl ?_
  obtain ⟨hh70, e71, H⟩ := am_bd H
  refine am_G.sL rfl e71 ?_
  refine am_G.fr 3 (g := (213, [some (.ref a0)], [.long ((37957098 : Int64)), .int ((24 : Int32)), .ref a21, .ref a21, .ref a0])) rfl ?_
  obtain ⟨hh72, e73, H⟩ := am_bd H
  refine am_G.sL rfl e73 ?_
  obtain ⟨hh74, e75, H⟩ := am_bd H
  refine am_G.pF rfl e75 ?_
  refine am_G.fr 2 (g := (220, [some (.ref a0)], [.int ((100 : Int32)), .ref a0])) rfl ?_
  obtain ⟨a76, hh77, e78, H⟩ := am_bd2 H
  refine am_G.nA rfl e78 ?_
  obtain ⟨hh79, e80, H⟩ := am_bd H
  refine am_G.pF rfl e80 ?_
  refine am_G.fr 2 (g := (229, [some (.ref a0)], [.int ((2200 : Int32)), .ref a0])) rfl ?_
  obtain ⟨a81, hh82, e83, H⟩ := am_bd2 H
  refine am_G.nA rfl e83 ?_
  obtain ⟨hh84, e85, H⟩ := am_bd H
  refine am_G.pF rfl e85 ?_
  refine am_G.fr 2 (g := (238, [some (.ref a0)], [.int ((2200 : Int32)), .ref a0])) rfl ?_
  obtain ⟨a86, hh87, e88, H⟩ := am_bd2 H
  refine am_G.nA rfl e88 ?_
  obtain ⟨hh89, e90, H⟩ := am_bd H
  refine am_G.pF rfl e90 ?_
  refine am_G.fr 2 (g := (246, [some (.ref a0)], [.int ((10 : Int32)), .ref a0])) rfl ?_
  obtain ⟨a91, hh92, e93, H⟩ := am_bd2 H
  refine am_G.nA rfl e93 ?_
  obtain ⟨hh94, e95, H⟩ := am_bd H
  refine am_G.pF rfl e95 ?_
  refine am_G.fr 2 (g := (254, [some (.ref a0)], [.int ((10 : Int32)), .ref a0])) rfl ?_
  obtain ⟨a96, hh97, e98, H⟩ := am_bd2 H
  refine am_G.nA rfl e98 ?_
  obtain ⟨hh99, e100, H⟩ := am_bd H
  refine am_G.pF rfl e100 ?_
  refine am_G.fr 2 (g := (262, [some (.ref a0)], [.int ((10 : Int32)), .ref a0])) rfl ?_
  obtain ⟨a101, hh102, e103, H⟩ := am_bd2 H
  refine am_G.nA rfl e103 ?_
  obtain ⟨hh104, e105, H⟩ := am_bd H
  refine am_G.pF rfl e105 ?_
  refine am_G.fr 2 (g := (270, [some (.ref a0)], [.int ((10 : Int32)), .ref a0])) rfl ?_
  obtain ⟨a106, hh107, e108, H⟩ := am_bd2 H
  refine am_G.nA rfl e108 ?_
  obtain ⟨hh109, e110, H⟩ := am_bd H
  refine am_G.pF rfl e110 ?_
  refine am_G.fr 2 (g := (279, [some (.ref a0)], [.int ((250 : Int32)), .ref a0])) rfl ?_
  obtain ⟨a111, hh112, e113, H⟩ := am_bd2 H
  refine am_G.nA rfl e113 ?_
  obtain ⟨hh114, e115, H⟩ := am_bd H
  refine am_G.pF rfl e115 ?_
  refine am_G.fr 2 (g := (286, [some (.ref a0)], [.int ((4 : Int32)), .ref a0])) rfl ?_
  obtain ⟨a116, hh117, e118, H⟩ := am_bd2 H
  refine am_G.nA rfl e118 ?_
  obtain ⟨hh119, e120, H⟩ := am_bd H
  refine am_G.pF rfl e120 ?_
  refine am_G.fr 2 (g := (295, [some (.ref a0)], [.int ((1100 : Int32)), .ref a0])) rfl ?_
  obtain ⟨a121, hh122, e123, H⟩ := am_bd2 H
  refine am_G.nA rfl e123 ?_
  obtain ⟨hh124, e125, H⟩ := am_bd H
  refine am_G.pF rfl e125 ?_
  refine am_G.fr 2 (g := (304, [some (.ref a0)], [.int ((1081 : Int32)), .ref a0])) rfl ?_
  obtain ⟨a126, hh127, e128, H⟩ := am_bd2 H
  refine am_G.nA rfl e128 ?_
  obtain ⟨hh129, e130, H⟩ := am_bd H
  refine am_G.pF rfl e130 ?_
  refine am_G.fr 2 (g := (311, [some (.ref a0)], [.int ((4 : Int32)), .ref a0])) rfl ?_
  obtain ⟨a131, hh132, e133, H⟩ := am_bd2 H
  refine am_G.nA rfl e133 ?_
  obtain ⟨hh134, e135, H⟩ := am_bd H
  refine am_G.pF rfl e135 ?_
  refine am_G.fr 2 (g := (319, [some (.ref a0)], [.int ((6 : Int32)), .ref a0])) rfl ?_
  obtain ⟨a136, hh137, e138, H⟩ := am_bd2 H
  refine am_G.nA rfl e138 ?_
  obtain ⟨hh139, e140, H⟩ := am_bd H
  refine am_G.pF rfl e140 ?_
  refine am_G.fr 2 (g := (327, [some (.ref a0)], [.int ((6 : Int32)), .ref a0])) rfl ?_
  obtain ⟨a141, hh142, e143, H⟩ := am_bd2 H
  refine am_G.nA rfl e143 ?_
  obtain ⟨hh144, e145, H⟩ := am_bd H
  refine am_G.pF rfl e145 ?_
  refine am_G.fr 2 (g := (334, [some (.ref a0)], [.int ((0 : Int32)), .ref a0])) rfl ?_
  obtain ⟨hh147, e146, H⟩ := am_bd H
  refine am_G.cl [.ref a0, .int ((0 : Int32))] [] (am_Cl.mono (by decide) (lX10_standsAsAlways e146)) rfl rfl rfl rfl (Nat.le_of_ble_eq_true rfl) ?_
  refine am_G.fr 1 (g := (338, [some (.ref a0)], [.ref a0])) rfl ?_
  obtain ⟨hh149, e148, H⟩ := am_bd H
  refine am_G.cl [.ref a0] [] (am_Cl.mono (by decide) (lX10_begins e148)) rfl rfl rfl rfl (Nat.le_of_ble_eq_true rfl) ?_
  obtain rfl := Option.some.inj H
  exact am_G.nd ⟨rfl, rfl⟩
def fX10_isLetter (a0 : Int32) (h : am_H) : Option (Int32) :=
  Option.bind (
    if a0 < ((97 : Int32)) then
      some ((0 : Int32))
    else
      if ((122 : Int32)) < a0 then
        some ((0 : Int32))
      else
        some ((1 : Int32))) fun js1 =>
  (am_z01 js1).bind fun b4 =>
  some b4
set_option maxHeartbeats 4000000 in
set_option maxRecDepth 100000 in
theorem lX10_isLetter {sc : Nat × (Nat → Int32)} {a0 : Int32} {h : am_H} {r : Int32} (H : fX10_isLetter a0 h = some r) : am_Cl am_T am_N sc 1 138 [.int a0] h (some (.int r)) h := by
  unfold fX10_isLetter at H
  refine am_mk (q := qX10_isLetter) rfl (fun z => absurd z (by decide)) (fun z => absurd z (by decide)) (Nat.le_of_ble_eq_true rfl) rfl ?_
  show am_G sc (am_Cl am_T am_N sc 0) (am_at kX10_isLetter) (fun t => t.2 = h ∧ am_ret 2 (am_at kX10_isLetter) t.1 = some (some (.int r))) ((0, [some (.int a0)], []), h)
  refine am_G.fr 2 (g := (3, [some (.int a0)], [.int ((97 : Int32)), .int a0])) rfl ?_
  obtain ⟨js1, E6, H⟩ := am_bd H
  refine am_G.sq (t := ((17, [none], [.int js1]), h)) ?_ ?_
  · clear H
    have H := E6
    clear E6
    by_cases c2 : a0 < ((97 : Int32))
    · rw [if_pos c2] at H
      refine am_G.br (tgt := 16) rfl rfl (if_pos c2) rfl ?_
      refine am_G.fr 1 (g := (17, [some (.int a0)], [.int ((0 : Int32))])) rfl ?_
      obtain rfl := Option.some.inj H
      refine am_G.fg [none] (by simp only [am_sub, and_self]) ?_
      exact am_G.nd rfl
    · rw [if_neg c2] at H
      refine am_G.br (tgt := 6) rfl rfl (if_neg c2) rfl ?_
      refine am_G.fr 2 (g := (9, [some (.int a0)], [.int ((122 : Int32)), .int a0])) rfl ?_
      by_cases c3 : ((122 : Int32)) < a0
      · rw [if_pos c3] at H
        refine am_G.br (tgt := 16) rfl rfl (if_pos c3) rfl ?_
        refine am_G.fr 1 (g := (17, [some (.int a0)], [.int ((0 : Int32))])) rfl ?_
        obtain rfl := Option.some.inj H
        refine am_G.fg [none] (by simp only [am_sub, and_self]) ?_
        exact am_G.nd rfl
      · rw [if_neg c3] at H
        refine am_G.br (tgt := 12) rfl rfl (if_neg c3) rfl ?_
        refine am_G.fr 2 (g := (17, [some (.int a0)], [.int ((1 : Int32))])) rfl ?_
        obtain rfl := Option.some.inj H
        refine am_G.fg [none] (by simp only [am_sub, and_self]) ?_
        exact am_G.nd rfl
  · clear E6
    obtain ⟨b4, e5, H⟩ := am_bd H
    obtain rfl := Option.some.inj H
    exact am_G.nd ⟨rfl, am_ret2 rfl e5⟩
def fX10_isDigit (a0 : Int32) (h : am_H) : Option (Int32) :=
  Option.bind (
    if a0 < ((48 : Int32)) then
      some ((0 : Int32))
    else
      if ((57 : Int32)) < a0 then
        some ((0 : Int32))
      else
        some ((1 : Int32))) fun js1 =>
  (am_z01 js1).bind fun b4 =>
  some b4
set_option maxHeartbeats 4000000 in
set_option maxRecDepth 100000 in
theorem lX10_isDigit {sc : Nat × (Nat → Int32)} {a0 : Int32} {h : am_H} {r : Int32} (H : fX10_isDigit a0 h = some r) : am_Cl am_T am_N sc 1 139 [.int a0] h (some (.int r)) h := by
  unfold fX10_isDigit at H
  refine am_mk (q := qX10_isDigit) rfl (fun z => absurd z (by decide)) (fun z => absurd z (by decide)) (Nat.le_of_ble_eq_true rfl) rfl ?_
  show am_G sc (am_Cl am_T am_N sc 0) (am_at kX10_isDigit) (fun t => t.2 = h ∧ am_ret 2 (am_at kX10_isDigit) t.1 = some (some (.int r))) ((0, [some (.int a0)], []), h)
  refine am_G.fr 2 (g := (3, [some (.int a0)], [.int ((48 : Int32)), .int a0])) rfl ?_
  obtain ⟨js1, E6, H⟩ := am_bd H
  refine am_G.sq (t := ((17, [none], [.int js1]), h)) ?_ ?_
  · clear H
    have H := E6
    clear E6
    by_cases c2 : a0 < ((48 : Int32))
    · rw [if_pos c2] at H
      refine am_G.br (tgt := 16) rfl rfl (if_pos c2) rfl ?_
      refine am_G.fr 1 (g := (17, [some (.int a0)], [.int ((0 : Int32))])) rfl ?_
      obtain rfl := Option.some.inj H
      refine am_G.fg [none] (by simp only [am_sub, and_self]) ?_
      exact am_G.nd rfl
    · rw [if_neg c2] at H
      refine am_G.br (tgt := 6) rfl rfl (if_neg c2) rfl ?_
      refine am_G.fr 2 (g := (9, [some (.int a0)], [.int ((57 : Int32)), .int a0])) rfl ?_
      by_cases c3 : ((57 : Int32)) < a0
      · rw [if_pos c3] at H
        refine am_G.br (tgt := 16) rfl rfl (if_pos c3) rfl ?_
        refine am_G.fr 1 (g := (17, [some (.int a0)], [.int ((0 : Int32))])) rfl ?_
        obtain rfl := Option.some.inj H
        refine am_G.fg [none] (by simp only [am_sub, and_self]) ?_
        exact am_G.nd rfl
      · rw [if_neg c3] at H
        refine am_G.br (tgt := 12) rfl rfl (if_neg c3) rfl ?_
        refine am_G.fr 2 (g := (17, [some (.int a0)], [.int ((1 : Int32))])) rfl ?_
        obtain rfl := Option.some.inj H
        refine am_G.fg [none] (by simp only [am_sub, and_self]) ?_
        exact am_G.nd rfl
  · clear E6
    obtain ⟨b4, e5, H⟩ := am_bd H
    obtain rfl := Option.some.inj H
    exact am_G.nd ⟨rfl, am_ret2 rfl e5⟩
def fX10_rank (a0 : Int32) (h : am_H) : Option (Int32) :=
  (fX10_isLetter a0 h).bind fun x2 =>
  Option.bind (
    if x2 = 0 then
      some (a0 - ((21 : Int32)))
    else
      some (a0 - ((96 : Int32)))) fun js3 =>
  some js3
set_option maxHeartbeats 4000000 in
set_option maxRecDepth 100000 in
theorem lX10_rank {sc : Nat × (Nat → Int32)} {a0 : Int32} {h : am_H} {r : Int32} (H : fX10_rank a0 h = some r) : am_Cl am_T am_N sc 2 140 [.int a0] h (some (.int r)) h := by
  unfold fX10_rank at H
  refine am_mk (q := qX10_rank) rfl (fun z => absurd z (by decide)) (fun z => absurd z (by decide)) (Nat.le_of_ble_eq_true rfl) rfl ?_
  show am_G sc (am_Cl am_T am_N sc 1) (am_at kX10_rank) (fun t => t.2 = h ∧ am_ret 1 (am_at kX10_rank) t.1 = some (some (.int r))) ((0, [some (.int a0)], []), h)
  refine am_G.fr 1 (g := (1, [some (.int a0)], [.int a0])) rfl ?_
  obtain ⟨x2, e1, H⟩ := am_bd H
  refine am_G.cl [.int a0] [] (am_Cl.mono (by decide) (lX10_isLetter e1)) rfl rfl rfl rfl (Nat.le_of_ble_eq_true rfl) ?_
  obtain ⟨js3, E5, H⟩ := am_bd H
  refine am_G.sq (t := ((18, [none], [.int js3]), h)) ?_ ?_
  · clear H
    have H := E5
    clear E5
    by_cases c4 : x2 = 0
    · rw [if_pos c4] at H
      refine am_G.br (tgt := 14) rfl rfl (if_pos c4) rfl ?_
      refine am_G.fr 3 (g := (18, [some (.int a0)], [.int (a0 - ((21 : Int32)))])) rfl ?_
      obtain rfl := Option.some.inj H
      refine am_G.fg [none] (by simp only [am_sub, and_self]) ?_
      exact am_G.nd rfl
    · rw [if_neg c4] at H
      refine am_G.br (tgt := 7) rfl rfl (if_neg c4) rfl ?_
      refine am_G.fr 4 (g := (18, [some (.int a0)], [.int (a0 - ((96 : Int32)))])) rfl ?_
      obtain rfl := Option.some.inj H
      refine am_G.fg [none] (by simp only [am_sub, and_self]) ?_
      exact am_G.nd rfl
  · clear E5
    obtain rfl := Option.some.inj H
    exact am_G.nd ⟨rfl, rfl⟩
def fX10_isSignOf (a0 : Int32) (h : am_H) : Option (Int32) :=
  Option.bind (
    if a0 = ((40 : Int32)) then
      some ((1 : Int32))
    else
      if a0 = ((41 : Int32)) then
        some ((1 : Int32))
      else
        if a0 = ((59 : Int32)) then
          some ((1 : Int32))
        else
          if a0 = ((61 : Int32)) then
            some ((1 : Int32))
          else
            if a0 = ((60 : Int32)) then
              some ((1 : Int32))
            else
              if a0 = ((43 : Int32)) then
                some ((1 : Int32))
              else
                if a0 = ((45 : Int32)) then
                  some ((1 : Int32))
                else
                  if ¬ a0 = ((42 : Int32)) then
                    some ((0 : Int32))
                  else
                    some ((1 : Int32))) fun js1 =>
  (am_z01 js1).bind fun b10 =>
  some b10
set_option maxHeartbeats 4000000 in
set_option maxRecDepth 100000 in
theorem lX10_isSignOf {sc : Nat × (Nat → Int32)} {a0 : Int32} {h : am_H} {r : Int32} (H : fX10_isSignOf a0 h = some r) : am_Cl am_T am_N sc 1 141 [.int a0] h (some (.int r)) h := by
  unfold fX10_isSignOf at H
  refine am_mk (q := qX10_isSignOf) rfl (fun z => absurd z (by decide)) (fun z => absurd z (by decide)) (Nat.le_of_ble_eq_true rfl) rfl ?_
  show am_G sc (am_Cl am_T am_N sc 0) (am_at kX10_isSignOf) (fun t => t.2 = h ∧ am_ret 2 (am_at kX10_isSignOf) t.1 = some (some (.int r))) ((0, [some (.int a0)], []), h)
  refine am_G.fr 2 (g := (3, [some (.int a0)], [.int ((40 : Int32)), .int a0])) rfl ?_
  obtain ⟨js1, E12, H⟩ := am_bd H
  refine am_G.sq (t := ((53, [none], [.int js1]), h)) ?_ ?_
  · clear H
    have H := E12
    clear E12
    by_cases c2 : a0 = ((40 : Int32))
    · rw [if_pos c2] at H
      refine am_G.br (tgt := 48) rfl rfl (if_pos c2) rfl ?_
      refine am_G.fr 2 (g := (53, [some (.int a0)], [.int ((1 : Int32))])) rfl ?_
      obtain rfl := Option.some.inj H
      refine am_G.fg [none] (by simp only [am_sub, and_self]) ?_
      exact am_G.nd rfl
    · rw [if_neg c2] at H
      refine am_G.br (tgt := 6) rfl rfl (if_neg c2) rfl ?_
      refine am_G.fr 2 (g := (9, [some (.int a0)], [.int ((41 : Int32)), .int a0])) rfl ?_
      by_cases c3 : a0 = ((41 : Int32))
      · rw [if_pos c3] at H
        refine am_G.br (tgt := 48) rfl rfl (if_pos c3) rfl ?_
        refine am_G.fr 2 (g := (53, [some (.int a0)], [.int ((1 : Int32))])) rfl ?_
        obtain rfl := Option.some.inj H
        refine am_G.fg [none] (by simp only [am_sub, and_self]) ?_
        exact am_G.nd rfl
      · rw [if_neg c3] at H
        refine am_G.br (tgt := 12) rfl rfl (if_neg c3) rfl ?_
        refine am_G.fr 2 (g := (15, [some (.int a0)], [.int ((59 : Int32)), .int a0])) rfl ?_
        by_cases c4 : a0 = ((59 : Int32))
        · rw [if_pos c4] at H
          refine am_G.br (tgt := 48) rfl rfl (if_pos c4) rfl ?_
          refine am_G.fr 2 (g := (53, [some (.int a0)], [.int ((1 : Int32))])) rfl ?_
          obtain rfl := Option.some.inj H
          refine am_G.fg [none] (by simp only [am_sub, and_self]) ?_
          exact am_G.nd rfl
        · rw [if_neg c4] at H
          refine am_G.br (tgt := 18) rfl rfl (if_neg c4) rfl ?_
          refine am_G.fr 2 (g := (21, [some (.int a0)], [.int ((61 : Int32)), .int a0])) rfl ?_
          by_cases c5 : a0 = ((61 : Int32))
          · rw [if_pos c5] at H
            refine am_G.br (tgt := 48) rfl rfl (if_pos c5) rfl ?_
            refine am_G.fr 2 (g := (53, [some (.int a0)], [.int ((1 : Int32))])) rfl ?_
            obtain rfl := Option.some.inj H
            refine am_G.fg [none] (by simp only [am_sub, and_self]) ?_
            exact am_G.nd rfl
          · rw [if_neg c5] at H
            refine am_G.br (tgt := 24) rfl rfl (if_neg c5) rfl ?_
            refine am_G.fr 2 (g := (27, [some (.int a0)], [.int ((60 : Int32)), .int a0])) rfl ?_
            by_cases c6 : a0 = ((60 : Int32))
            · rw [if_pos c6] at H
              refine am_G.br (tgt := 48) rfl rfl (if_pos c6) rfl ?_
              refine am_G.fr 2 (g := (53, [some (.int a0)], [.int ((1 : Int32))])) rfl ?_
              obtain rfl := Option.some.inj H
              refine am_G.fg [none] (by simp only [am_sub, and_self]) ?_
              exact am_G.nd rfl
            · rw [if_neg c6] at H
              refine am_G.br (tgt := 30) rfl rfl (if_neg c6) rfl ?_
              refine am_G.fr 2 (g := (33, [some (.int a0)], [.int ((43 : Int32)), .int a0])) rfl ?_
              by_cases c7 : a0 = ((43 : Int32))
              · rw [if_pos c7] at H
                refine am_G.br (tgt := 48) rfl rfl (if_pos c7) rfl ?_
                refine am_G.fr 2 (g := (53, [some (.int a0)], [.int ((1 : Int32))])) rfl ?_
                obtain rfl := Option.some.inj H
                refine am_G.fg [none] (by simp only [am_sub, and_self]) ?_
                exact am_G.nd rfl
              · rw [if_neg c7] at H
                refine am_G.br (tgt := 36) rfl rfl (if_neg c7) rfl ?_
                refine am_G.fr 2 (g := (39, [some (.int a0)], [.int ((45 : Int32)), .int a0])) rfl ?_
                by_cases c8 : a0 = ((45 : Int32))
                · rw [if_pos c8] at H
                  refine am_G.br (tgt := 48) rfl rfl (if_pos c8) rfl ?_
                  refine am_G.fr 2 (g := (53, [some (.int a0)], [.int ((1 : Int32))])) rfl ?_
                  obtain rfl := Option.some.inj H
                  refine am_G.fg [none] (by simp only [am_sub, and_self]) ?_
                  exact am_G.nd rfl
                · rw [if_neg c8] at H
                  refine am_G.br (tgt := 42) rfl rfl (if_neg c8) rfl ?_
                  refine am_G.fr 2 (g := (45, [some (.int a0)], [.int ((42 : Int32)), .int a0])) rfl ?_
                  by_cases c9 : ¬ a0 = ((42 : Int32))
                  · rw [if_pos c9] at H
                    refine am_G.br (tgt := 52) rfl rfl (if_pos c9) rfl ?_
                    refine am_G.fr 1 (g := (53, [some (.int a0)], [.int ((0 : Int32))])) rfl ?_
                    obtain rfl := Option.some.inj H
                    refine am_G.fg [none] (by simp only [am_sub, and_self]) ?_
                    exact am_G.nd rfl
                  · rw [if_neg c9] at H
                    refine am_G.br (tgt := 48) rfl rfl (if_neg c9) rfl ?_
                    refine am_G.fr 2 (g := (53, [some (.int a0)], [.int ((1 : Int32))])) rfl ?_
                    obtain rfl := Option.some.inj H
                    refine am_G.fg [none] (by simp only [am_sub, and_self]) ?_
                    exact am_G.nd rfl
  · clear E12
    obtain ⟨b10, e11, H⟩ := am_bd H
    obtain rfl := Option.some.inj H
    exact am_G.nd ⟨rfl, am_ret2 rfl e11⟩
def fX10_cutAll_L159 : Nat → Nat → Int32 → Int32 → Int32 → Int64 → am_H → Option (Int32 × Int64)
  | 0, _, _, _, _, _, _ => none
  | n + 1, v0, v1, v2, v4, v5, h =>
    (am_gI h v0 9 3).bind fun size38 =>
    if size38 ≤ v2 then
      some (v2, v5)
    else
      (am_gR h v0 9 1).bind fun tape41 =>
      (am_aI h 0 tape41 v2).bind fun x43 =>
      (fX10_isDigit x43 h).bind fun x46 =>
      if x46 = 0 then
        some (v2, v5)
      else
        Option.bind (
          if ((4 : Int32)) ≤ (v2 - v4) then
            some v5
          else
            (am_gR h v0 9 1).bind fun tape50 =>
            (am_aI h 0 tape50 v2).bind fun x52 =>
            some (((((10 : Int64)) * v5) + x52.toInt64) - ((48 : Int64)))) fun js48 =>
        fX10_cutAll_L159 n v0 v1 (v2 + (1 : Int32)) v4 js48 h
def fX10_cutAll_L70 : Nat → Nat → Int32 → Int32 → Int32 → Int64 → am_H → Option (Int32 × Int64)
  | 0, _, _, _, _, _, _ => none
  | n + 1, v0, v1, v2, v4, v5, h =>
    (am_gI h v0 9 3).bind fun size65 =>
    if size65 ≤ v2 then
      some (v2, v5)
    else
      (am_gR h v0 9 1).bind fun tape68 =>
      (am_aI h 0 tape68 v2).bind fun x70 =>
      (fX10_isLetter x70 h).bind fun x73 =>
      if x73 = 0 then
        some (v2, v5)
      else
        Option.bind (
          if ((8 : Int32)) ≤ (v2 - v4) then
            some v5
          else
            (am_gR h v0 9 1).bind fun tape77 =>
            (am_aI h 0 tape77 v2).bind fun x79 =>
            (fX10_rank x79 h).bind fun x82 =>
            some ((((37 : Int64)) * v5) + x82.toInt64)) fun js75 =>
        fX10_cutAll_L70 n v0 v1 (v2 + (1 : Int32)) v4 js75 h
def fX10_cutAll_L17 : Nat → Nat → Int32 → Int32 → am_H → Option (Int32 × am_H)
  | 0, _, _, _, _ => none
  | n + 1, v0, v1, v2, h =>
    (am_gI h v0 9 3).bind fun size7 =>
    if size7 ≤ v2 then
      some (v1, h)
    else
      (am_gR h v0 9 1).bind fun tape10 =>
      (am_aI h 0 tape10 v2).bind fun x12 =>
      if x12 = ((10 : Int32)) then
        fX10_cutAll_L17 n v0 v1 (v2 + (1 : Int32)) h
      else
        if ¬ x12 = ((32 : Int32)) then
          (am_gR h v0 9 5).bind fun place16 =>
          (am_sI h 0 place16 v1 v2).bind fun hh18 =>
          (fX10_isLetter x12 hh18).bind fun x21 =>
          am_b3 (
            if x21 = 0 then
              (fX10_isDigit x12 hh18).bind fun x27 =>
              if x27 = 0 then
                (am_gR hh18 v0 9 4).bind fun sort29 =>
                (fX10_isSignOf x12 hh18).bind fun x32 =>
                Option.bind (
                  if x32 = 0 then
                    some ((4 : Int32))
                  else
                    some ((3 : Int32))) fun js33 =>
                (am_sI hh18 0 sort29 v1 js33).bind fun hh35 =>
                some (v2 + (1 : Int32), x12.toInt64, hh35)
              else
                am_b2 (fX10_cutAll_L159 4000 v0 v1 v2 v2 ((0 : Int64)) hh18) fun lw55 lw56 =>
                (am_gR hh18 v0 9 4).bind fun sort58 =>
                Option.bind (
                  if (lw55 - v2) ≤ ((4 : Int32)) then
                    some ((2 : Int32))
                  else
                    some ((4 : Int32))) fun js60 =>
                (am_sI hh18 0 sort58 v1 js60).bind fun hh62 =>
                some (lw55, lw56, hh62)
            else
              am_b2 (fX10_cutAll_L70 4000 v0 v1 v2 v2 ((0 : Int64)) hh18) fun lw84 lw85 =>
              (am_gR hh18 v0 9 4).bind fun sort87 =>
              Option.bind (
                if (lw84 - v2) ≤ ((8 : Int32)) then
                  some ((1 : Int32))
                else
                  some ((4 : Int32))) fun js89 =>
              (am_sI hh18 0 sort87 v1 js89).bind fun hh91 =>
              some (lw84, lw85, hh91)) fun jv22 jv23 hh24 =>
          (am_gR hh24 v0 9 6).bind fun value94 =>
          (am_sL hh24 value94 v1 jv23).bind fun hh96 =>
          fX10_cutAll_L17 n v0 (v1 + (1 : Int32)) jv22 hh96
        else
          fX10_cutAll_L17 n v0 v1 (v2 + (1 : Int32)) h
def fX10_cutAll (a0 : Nat) (h : am_H) : Option (am_H) :=
  (am_isO h a0 9).bind fun _ =>
  (am_gI h a0 9 2).bind fun taped1 =>
  (am_pF h a0 9 3 (.int taped1)).bind fun hh3 =>
  (am_pF hh3 a0 9 2 (.int ((0 : Int32)))).bind fun hh5 =>
  am_b2 (fX10_cutAll_L17 4000 a0 ((0 : Int32)) ((0 : Int32)) hh5) fun lw99 hh100 =>
  (am_gR hh100 a0 9 4).bind fun sort102 =>
  (am_sI hh100 0 sort102 lw99 ((0 : Int32))).bind fun hh104 =>
  (am_gR hh104 a0 9 5).bind fun place106 =>
  (am_gI hh104 a0 9 3).bind fun size108 =>
  (am_sI hh104 0 place106 lw99 size108).bind fun hh110 =>
  (am_pF hh110 a0 9 7 (.int ((0 : Int32)))).bind fun hh112 =>
  (am_pF hh112 a0 9 8 (.int ((0 : Int32)))).bind fun hh114 =>
  some hh114
set_option maxHeartbeats 4000000 in
set_option maxRecDepth 100000 in
theorem lX10_cutAll_L159 {sc : Nat × (Nat → Int32)} : ∀ (n : Nat) (v0 : Nat) (v1 : Int32) (v2 : Int32) (v4 : Int32) (v5 : Int64) (h : am_H) (w2 : Int32) (w5 : Int64), fX10_cutAll_L159 n v0 v1 v2 v4 v5 h = some (w2, w5) → am_G sc (am_Cl am_T am_N sc 2) (am_at kX10_cutAll) (fun t => t = ((218, [some (.ref v0), some (.int v1), some (.int w2), none, some (.int v4), some (.long w5), none], []), h)) ((159, [some (.ref v0), some (.int v1), some (.int v2), none, some (.int v4), some (.long v5), none], []), h) := by
  intro n
  induction n with
  | zero => intro _ _ _ _ _ _ _ _ H; cases H
  | succ n ih =>
    intro v0 v1 v2 v4 v5 h w2 w5 H
    rw [fX10_cutAll_L159] at H
    refine am_G.fr 2 (g := (161, [some (.ref v0), some (.int v1), some (.int v2), none, some (.int v4), some (.long v5), none], [.ref v0, .int v2])) rfl ?_
    obtain ⟨size38, e39, H⟩ := am_bd H
    refine am_G.gI rfl e39 ?_
    by_cases c40 : size38 ≤ v2
    · rw [if_pos c40] at H
      refine am_G.br (tgt := 218) rfl rfl (if_pos c40) rfl ?_
      obtain ⟨rfl, rfl⟩ := am_inj2 H
      exact am_G.nd rfl
    · rw [if_neg c40] at H
      refine am_G.br (tgt := 167) rfl rfl (if_neg c40) rfl ?_
      refine am_G.fr 1 (g := (168, [some (.ref v0), some (.int v1), some (.int v2), none, some (.int v4), some (.long v5), none], [.ref v0])) rfl ?_
      obtain ⟨tape41, e42, H⟩ := am_bd H
      refine am_G.gR rfl e42 ?_
      refine am_G.fr 1 (g := (172, [some (.ref v0), some (.int v1), some (.int v2), none, some (.int v4), some (.long v5), none], [.int v2, .ref tape41])) rfl ?_
      obtain ⟨x43, e44, H⟩ := am_bd H
      refine am_G.aI rfl e44 ?_
      obtain ⟨x46, e45, H⟩ := am_bd H
      refine am_G.cl [.int x43] [] (am_Cl.mono (by decide) (lX10_isDigit e45)) rfl rfl rfl rfl (Nat.le_of_ble_eq_true rfl) ?_
      by_cases c47 : x46 = 0
      · rw [if_pos c47] at H
        refine am_G.br (tgt := 218) rfl rfl (if_pos c47) rfl ?_
        obtain ⟨rfl, rfl⟩ := am_inj2 H
        exact am_G.nd rfl
      · rw [if_neg c47] at H
        refine am_G.br (tgt := 179) rfl rfl (if_neg c47) rfl ?_
        refine am_G.fr 4 (g := (184, [some (.ref v0), some (.int v1), some (.int v2), none, some (.int v4), some (.long v5), none], [.int ((4 : Int32)), .int (v2 - v4)])) rfl ?_
        obtain ⟨js48, E54, H⟩ := am_bd H
        refine am_G.sq (t := ((210, [some (.ref v0), some (.int v1), some (.int v2), none, some (.int v4), none, none], [.long js48]), h)) ?_ ?_
        · clear H
          have H := E54
          clear E54
          by_cases c49 : ((4 : Int32)) ≤ (v2 - v4)
          · rw [if_pos c49] at H
            refine am_G.br (tgt := 208) rfl rfl (if_pos c49) rfl ?_
            refine am_G.fr 1 (g := (210, [some (.ref v0), some (.int v1), some (.int v2), none, some (.int v4), some (.long v5), none], [.long v5])) rfl ?_
            obtain rfl := Option.some.inj H
            refine am_G.fg [some (.ref v0), some (.int v1), some (.int v2), none, some (.int v4), none, none] (by simp only [am_sub, and_self]) ?_
            exact am_G.nd rfl
          · rw [if_neg c49] at H
            refine am_G.br (tgt := 187) rfl rfl (if_neg c49) rfl ?_
            refine am_G.fr 4 (g := (194, [some (.ref v0), some (.int v1), some (.int v2), none, some (.int v4), some (.long v5), none], [.ref v0, .long (((10 : Int64)) * v5)])) rfl ?_
            obtain ⟨tape50, e51, H⟩ := am_bd H
            refine am_G.gR rfl e51 ?_
            refine am_G.fr 1 (g := (198, [some (.ref v0), some (.int v1), some (.int v2), none, some (.int v4), some (.long v5), none], [.int v2, .ref tape50, .long (((10 : Int64)) * v5)])) rfl ?_
            obtain ⟨x52, e53, H⟩ := am_bd H
            refine am_G.aI rfl e53 ?_
            refine am_G.fr 5 (g := (210, [some (.ref v0), some (.int v1), some (.int v2), none, some (.int v4), some (.long v5), none], [.long (((((10 : Int64)) * v5) + x52.toInt64) - ((48 : Int64)))])) rfl ?_
            obtain rfl := Option.some.inj H
            refine am_G.fg [some (.ref v0), some (.int v1), some (.int v2), none, some (.int v4), none, none] (by simp only [am_sub, and_self]) ?_
            exact am_G.nd rfl
        · clear E54
          refine am_G.fr 3 (g := (159, [some (.ref v0), some (.int v1), some (.int (v2 + (1 : Int32))), none, some (.int v4), some (.long js48), none], [])) rfl ?_
          exact ih _ _ _ _ _ _ _ _ H
set_option maxHeartbeats 4000000 in
set_option maxRecDepth 100000 in
theorem lX10_cutAll_L70 {sc : Nat × (Nat → Int32)} : ∀ (n : Nat) (v0 : Nat) (v1 : Int32) (v2 : Int32) (v4 : Int32) (v5 : Int64) (h : am_H) (w2 : Int32) (w5 : Int64), fX10_cutAll_L70 n v0 v1 v2 v4 v5 h = some (w2, w5) → am_G sc (am_Cl am_T am_N sc 2) (am_at kX10_cutAll) (fun t => t = ((129, [some (.ref v0), some (.int v1), some (.int w2), none, some (.int v4), some (.long w5), none], []), h)) ((70, [some (.ref v0), some (.int v1), some (.int v2), none, some (.int v4), some (.long v5), none], []), h) := by
  intro n
  induction n with
  | zero => intro _ _ _ _ _ _ _ _ H; cases H
  | succ n ih =>
    intro v0 v1 v2 v4 v5 h w2 w5 H
    rw [fX10_cutAll_L70] at H
    refine am_G.fr 2 (g := (72, [some (.ref v0), some (.int v1), some (.int v2), none, some (.int v4), some (.long v5), none], [.ref v0, .int v2])) rfl ?_
    obtain ⟨size65, e66, H⟩ := am_bd H
    refine am_G.gI rfl e66 ?_
    by_cases c67 : size65 ≤ v2
    · rw [if_pos c67] at H
      refine am_G.br (tgt := 129) rfl rfl (if_pos c67) rfl ?_
      obtain ⟨rfl, rfl⟩ := am_inj2 H
      exact am_G.nd rfl
    · rw [if_neg c67] at H
      refine am_G.br (tgt := 78) rfl rfl (if_neg c67) rfl ?_
      refine am_G.fr 1 (g := (79, [some (.ref v0), some (.int v1), some (.int v2), none, some (.int v4), some (.long v5), none], [.ref v0])) rfl ?_
      obtain ⟨tape68, e69, H⟩ := am_bd H
      refine am_G.gR rfl e69 ?_
      refine am_G.fr 1 (g := (83, [some (.ref v0), some (.int v1), some (.int v2), none, some (.int v4), some (.long v5), none], [.int v2, .ref tape68])) rfl ?_
      obtain ⟨x70, e71, H⟩ := am_bd H
      refine am_G.aI rfl e71 ?_
      obtain ⟨x73, e72, H⟩ := am_bd H
      refine am_G.cl [.int x70] [] (am_Cl.mono (by decide) (lX10_isLetter e72)) rfl rfl rfl rfl (Nat.le_of_ble_eq_true rfl) ?_
      by_cases c74 : x73 = 0
      · rw [if_pos c74] at H
        refine am_G.br (tgt := 129) rfl rfl (if_pos c74) rfl ?_
        obtain ⟨rfl, rfl⟩ := am_inj2 H
        exact am_G.nd rfl
      · rw [if_neg c74] at H
        refine am_G.br (tgt := 90) rfl rfl (if_neg c74) rfl ?_
        refine am_G.fr 4 (g := (96, [some (.ref v0), some (.int v1), some (.int v2), none, some (.int v4), some (.long v5), none], [.int ((8 : Int32)), .int (v2 - v4)])) rfl ?_
        obtain ⟨js75, E83, H⟩ := am_bd H
        refine am_G.sq (t := ((121, [some (.ref v0), some (.int v1), some (.int v2), none, some (.int v4), none, none], [.long js75]), h)) ?_ ?_
        · clear H
          have H := E83
          clear E83
          by_cases c76 : ((8 : Int32)) ≤ (v2 - v4)
          · rw [if_pos c76] at H
            refine am_G.br (tgt := 119) rfl rfl (if_pos c76) rfl ?_
            refine am_G.fr 1 (g := (121, [some (.ref v0), some (.int v1), some (.int v2), none, some (.int v4), some (.long v5), none], [.long v5])) rfl ?_
            obtain rfl := Option.some.inj H
            refine am_G.fg [some (.ref v0), some (.int v1), some (.int v2), none, some (.int v4), none, none] (by simp only [am_sub, and_self]) ?_
            exact am_G.nd rfl
          · rw [if_neg c76] at H
            refine am_G.br (tgt := 99) rfl rfl (if_neg c76) rfl ?_
            refine am_G.fr 4 (g := (106, [some (.ref v0), some (.int v1), some (.int v2), none, some (.int v4), some (.long v5), none], [.ref v0, .long (((37 : Int64)) * v5)])) rfl ?_
            obtain ⟨tape77, e78, H⟩ := am_bd H
            refine am_G.gR rfl e78 ?_
            refine am_G.fr 1 (g := (110, [some (.ref v0), some (.int v1), some (.int v2), none, some (.int v4), some (.long v5), none], [.int v2, .ref tape77, .long (((37 : Int64)) * v5)])) rfl ?_
            obtain ⟨x79, e80, H⟩ := am_bd H
            refine am_G.aI rfl e80 ?_
            obtain ⟨x82, e81, H⟩ := am_bd H
            refine am_G.cl [.int x79] [.long (((37 : Int64)) * v5)] (am_Cl.mono (by decide) (lX10_rank e81)) rfl rfl rfl rfl (Nat.le_of_ble_eq_true rfl) ?_
            refine am_G.fr 3 (g := (121, [some (.ref v0), some (.int v1), some (.int v2), none, some (.int v4), some (.long v5), none], [.long ((((37 : Int64)) * v5) + x82.toInt64)])) rfl ?_
            obtain rfl := Option.some.inj H
            refine am_G.fg [some (.ref v0), some (.int v1), some (.int v2), none, some (.int v4), none, none] (by simp only [am_sub, and_self]) ?_
            exact am_G.nd rfl
        · clear E83
          refine am_G.fr 3 (g := (70, [some (.ref v0), some (.int v1), some (.int (v2 + (1 : Int32))), none, some (.int v4), some (.long js75), none], [])) rfl ?_
          exact ih _ _ _ _ _ _ _ _ H
set_option maxHeartbeats 4000000 in
set_option maxRecDepth 100000 in
theorem lX10_cutAll_L17 {sc : Nat × (Nat → Int32)} : ∀ (n : Nat) (v0 : Nat) (v1 : Int32) (v2 : Int32) (h : am_H) (w1 : Int32) (h1 : am_H), fX10_cutAll_L17 n v0 v1 v2 h = some (w1, h1) → am_G sc (am_Cl am_T am_N sc 2) (am_at kX10_cutAll) (fun t => t = ((279, [some (.ref v0), some (.int w1), none, none, none, none, none], []), h1)) ((17, [some (.ref v0), some (.int v1), some (.int v2), none, none, none, none], []), h) := by
  intro n
  induction n with
  | zero => intro _ _ _ _ _ _ H; cases H
  | succ n ih =>
    intro v0 v1 v2 h w1 h1 H
    rw [fX10_cutAll_L17] at H
    refine am_G.fr 2 (g := (19, [some (.ref v0), some (.int v1), some (.int v2), none, none, none, none], [.ref v0, .int v2])) rfl ?_
    obtain ⟨size7, e8, H⟩ := am_bd H
    refine am_G.gI rfl e8 ?_
    by_cases c9 : size7 ≤ v2
    · rw [if_pos c9] at H
      refine am_G.br (tgt := 279) rfl rfl (if_pos c9) rfl ?_
      obtain ⟨rfl, rfl⟩ := am_inj2 H
      refine am_G.fg [some (.ref v0), some (.int v1), none, none, none, none, none] (by simp only [am_sub, and_self]) ?_
      exact am_G.nd rfl
    · rw [if_neg c9] at H
      refine am_G.br (tgt := 25) rfl rfl (if_neg c9) rfl ?_
      refine am_G.fr 1 (g := (26, [some (.ref v0), some (.int v1), some (.int v2), none, none, none, none], [.ref v0])) rfl ?_
      obtain ⟨tape10, e11, H⟩ := am_bd H
      refine am_G.gR rfl e11 ?_
      refine am_G.fr 1 (g := (30, [some (.ref v0), some (.int v1), some (.int v2), none, none, none, none], [.int v2, .ref tape10])) rfl ?_
      obtain ⟨x12, e13, H⟩ := am_bd H
      refine am_G.aI rfl e13 ?_
      refine am_G.fr 3 (g := (35, [some (.ref v0), some (.int v1), some (.int v2), some (.int x12), none, none, none], [.int ((10 : Int32)), .int x12])) rfl ?_
      by_cases c14 : x12 = ((10 : Int32))
      · rw [if_pos c14] at H
        refine am_G.br (tgt := 44) rfl rfl (if_pos c14) rfl ?_
        refine am_G.fr 2 (g := (17, [some (.ref v0), some (.int v1), some (.int (v2 + (1 : Int32))), some (.int x12), none, none, none], [])) rfl ?_
        refine am_G.fg [some (.ref v0), some (.int v1), some (.int (v2 + (1 : Int32))), none, none, none, none] (by simp only [am_sub, and_self]) ?_
        exact ih _ _ _ _ _ _ H
      · rw [if_neg c14] at H
        refine am_G.br (tgt := 38) rfl rfl (if_neg c14) rfl ?_
        refine am_G.fr 2 (g := (41, [some (.ref v0), some (.int v1), some (.int v2), some (.int x12), none, none, none], [.int ((32 : Int32)), .int x12])) rfl ?_
        by_cases c15 : ¬ x12 = ((32 : Int32))
        · rw [if_pos c15] at H
          refine am_G.br (tgt := 50) rfl rfl (if_pos c15) rfl ?_
          refine am_G.fr 5 (g := (57, [some (.ref v0), some (.int v1), some (.int v2), some (.int x12), some (.int v2), some (.long ((0 : Int64))), none], [.ref v0])) rfl ?_
          obtain ⟨place16, e17, H⟩ := am_bd H
          refine am_G.gR rfl e17 ?_
          refine am_G.fr 2 (g := (62, [some (.ref v0), some (.int v1), some (.int v2), some (.int x12), some (.int v2), some (.long ((0 : Int64))), none], [.int v2, .int v1, .ref place16])) rfl ?_
          obtain ⟨hh18, e19, H⟩ := am_bd H
          refine am_G.sI rfl e19 ?_
          refine am_G.fr 1 (g := (64, [some (.ref v0), some (.int v1), some (.int v2), some (.int x12), some (.int v2), some (.long ((0 : Int64))), none], [.int x12])) rfl ?_
          obtain ⟨x21, e20, H⟩ := am_bd H
          refine am_G.cl [.int x12] [] (am_Cl.mono (by decide) (lX10_isLetter e20)) rfl rfl rfl rfl (Nat.le_of_ble_eq_true rfl) ?_
          obtain ⟨jv22, jv23, hh24, E98, H⟩ := am_bd3 H
          refine am_G.sq (t := ((265, [some (.ref v0), some (.int v1), some (.int jv22), none, none, some (.long jv23), none], []), hh24)) ?_ ?_
          · clear H
            have H := E98
            clear E98
            by_cases c25 : x21 = 0
            · rw [if_pos c25] at H
              refine am_G.br (tgt := 152) rfl rfl (if_pos c25) rfl ?_
              refine am_G.fr 1 (g := (153, [some (.ref v0), some (.int v1), some (.int v2), some (.int x12), some (.int v2), some (.long ((0 : Int64))), none], [.int x12])) rfl ?_
              obtain ⟨x27, e26, H⟩ := am_bd H
              refine am_G.cl [.int x12] [] (am_Cl.mono (by decide) (lX10_isDigit e26)) rfl rfl rfl rfl (Nat.le_of_ble_eq_true rfl) ?_
              by_cases c28 : x27 = 0
              · rw [if_pos c28] at H
                refine am_G.br (tgt := 240) rfl rfl (if_pos c28) rfl ?_
                refine am_G.fr 4 (g := (245, [some (.ref v0), some (.int v1), some (.int v2), some (.int x12), some (.int v2), some (.long x12.toInt64), none], [.ref v0])) rfl ?_
                obtain ⟨sort29, e30, H⟩ := am_bd H
                refine am_G.gR rfl e30 ?_
                refine am_G.fr 2 (g := (250, [some (.ref v0), some (.int v1), some (.int v2), some (.int x12), some (.int v2), some (.long x12.toInt64), none], [.int x12, .int v1, .ref sort29])) rfl ?_
                obtain ⟨x32, e31, H⟩ := am_bd H
                refine am_G.cl [.int x12] [.int v1, .ref sort29] (am_Cl.mono (by decide) (lX10_isSignOf e31)) rfl rfl rfl rfl (Nat.le_of_ble_eq_true rfl) ?_
                obtain ⟨js33, E37, H⟩ := am_bd H
                refine am_G.sq (t := ((261, [some (.ref v0), some (.int v1), some (.int v2), none, none, some (.long x12.toInt64), none], [.int js33, .int v1, .ref sort29]), hh18)) ?_ ?_
                · clear H
                  have H := E37
                  clear E37
                  by_cases c34 : x32 = 0
                  · rw [if_pos c34] at H
                    refine am_G.br (tgt := 260) rfl rfl (if_pos c34) rfl ?_
                    refine am_G.fr 1 (g := (261, [some (.ref v0), some (.int v1), some (.int v2), some (.int x12), some (.int v2), some (.long x12.toInt64), none], [.int ((4 : Int32)), .int v1, .ref sort29])) rfl ?_
                    obtain rfl := Option.some.inj H
                    refine am_G.fg [some (.ref v0), some (.int v1), some (.int v2), none, none, some (.long x12.toInt64), none] (by simp only [am_sub, and_self]) ?_
                    exact am_G.nd rfl
                  · rw [if_neg c34] at H
                    refine am_G.br (tgt := 256) rfl rfl (if_neg c34) rfl ?_
                    refine am_G.fr 2 (g := (261, [some (.ref v0), some (.int v1), some (.int v2), some (.int x12), some (.int v2), some (.long x12.toInt64), none], [.int ((3 : Int32)), .int v1, .ref sort29])) rfl ?_
                    obtain rfl := Option.some.inj H
                    refine am_G.fg [some (.ref v0), some (.int v1), some (.int v2), none, none, some (.long x12.toInt64), none] (by simp only [am_sub, and_self]) ?_
                    exact am_G.nd rfl
                · clear E37
                  obtain ⟨hh35, e36, H⟩ := am_bd H
                  refine am_G.sI rfl e36 ?_
                  refine am_G.fr 1 (g := (265, [some (.ref v0), some (.int v1), some (.int (v2 + (1 : Int32))), none, none, some (.long x12.toInt64), none], [])) rfl ?_
                  obtain ⟨rfl, rfl, rfl⟩ := am_inj3 H
                  exact am_G.nd rfl
              · rw [if_neg c28] at H
                refine am_G.br (tgt := 159) rfl rfl (if_neg c28) rfl ?_
                obtain ⟨lw55, lw56, E57, H⟩ := am_bd2 H
                refine am_G.fg [some (.ref v0), some (.int v1), some (.int v2), none, some (.int v2), some (.long ((0 : Int64))), none] (by simp only [am_sub, and_self]) ?_
                refine am_G.sq (lX10_cutAll_L159 _ _ _ _ _ _ _ _ _ E57) ?_
                clear E57
                refine am_G.fr 1 (g := (219, [some (.ref v0), some (.int v1), some (.int lw55), none, some (.int v2), some (.long lw56), none], [.ref v0])) rfl ?_
                obtain ⟨sort58, e59, H⟩ := am_bd H
                refine am_G.gR rfl e59 ?_
                refine am_G.fr 5 (g := (228, [some (.ref v0), some (.int v1), some (.int lw55), none, some (.int v2), some (.long lw56), none], [.int ((4 : Int32)), .int (lw55 - v2), .int v1, .ref sort58])) rfl ?_
                obtain ⟨js60, E64, H⟩ := am_bd H
                refine am_G.sq (t := ((236, [some (.ref v0), some (.int v1), some (.int lw55), none, none, some (.long lw56), none], [.int js60, .int v1, .ref sort58]), hh18)) ?_ ?_
                · clear H
                  have H := E64
                  clear E64
                  by_cases c61 : (lw55 - v2) ≤ ((4 : Int32))
                  · rw [if_pos c61] at H
                    refine am_G.br (tgt := 235) rfl rfl (if_pos c61) rfl ?_
                    refine am_G.fr 1 (g := (236, [some (.ref v0), some (.int v1), some (.int lw55), none, some (.int v2), some (.long lw56), none], [.int ((2 : Int32)), .int v1, .ref sort58])) rfl ?_
                    obtain rfl := Option.some.inj H
                    refine am_G.fg [some (.ref v0), some (.int v1), some (.int lw55), none, none, some (.long lw56), none] (by simp only [am_sub, and_self]) ?_
                    exact am_G.nd rfl
                  · rw [if_neg c61] at H
                    refine am_G.br (tgt := 231) rfl rfl (if_neg c61) rfl ?_
                    refine am_G.fr 2 (g := (236, [some (.ref v0), some (.int v1), some (.int lw55), none, some (.int v2), some (.long lw56), none], [.int ((4 : Int32)), .int v1, .ref sort58])) rfl ?_
                    obtain rfl := Option.some.inj H
                    refine am_G.fg [some (.ref v0), some (.int v1), some (.int lw55), none, none, some (.long lw56), none] (by simp only [am_sub, and_self]) ?_
                    exact am_G.nd rfl
                · clear E64
                  obtain ⟨hh62, e63, H⟩ := am_bd H
                  refine am_G.sI rfl e63 ?_
                  refine am_G.fr 1 (g := (265, [some (.ref v0), some (.int v1), some (.int lw55), none, none, some (.long lw56), none], [])) rfl ?_
                  obtain ⟨rfl, rfl, rfl⟩ := am_inj3 H
                  exact am_G.nd rfl
            · rw [if_neg c25] at H
              refine am_G.br (tgt := 70) rfl rfl (if_neg c25) rfl ?_
              obtain ⟨lw84, lw85, E86, H⟩ := am_bd2 H
              refine am_G.fg [some (.ref v0), some (.int v1), some (.int v2), none, some (.int v2), some (.long ((0 : Int64))), none] (by simp only [am_sub, and_self]) ?_
              refine am_G.sq (lX10_cutAll_L70 _ _ _ _ _ _ _ _ _ E86) ?_
              clear E86
              refine am_G.fr 1 (g := (130, [some (.ref v0), some (.int v1), some (.int lw84), none, some (.int v2), some (.long lw85), none], [.ref v0])) rfl ?_
              obtain ⟨sort87, e88, H⟩ := am_bd H
              refine am_G.gR rfl e88 ?_
              refine am_G.fr 5 (g := (140, [some (.ref v0), some (.int v1), some (.int lw84), none, some (.int v2), some (.long lw85), none], [.int ((8 : Int32)), .int (lw84 - v2), .int v1, .ref sort87])) rfl ?_
              obtain ⟨js89, E93, H⟩ := am_bd H
              refine am_G.sq (t := ((148, [some (.ref v0), some (.int v1), some (.int lw84), none, none, some (.long lw85), none], [.int js89, .int v1, .ref sort87]), hh18)) ?_ ?_
              · clear H
                have H := E93
                clear E93
                by_cases c90 : (lw84 - v2) ≤ ((8 : Int32))
                · rw [if_pos c90] at H
                  refine am_G.br (tgt := 147) rfl rfl (if_pos c90) rfl ?_
                  refine am_G.fr 1 (g := (148, [some (.ref v0), some (.int v1), some (.int lw84), none, some (.int v2), some (.long lw85), none], [.int ((1 : Int32)), .int v1, .ref sort87])) rfl ?_
                  obtain rfl := Option.some.inj H
                  refine am_G.fg [some (.ref v0), some (.int v1), some (.int lw84), none, none, some (.long lw85), none] (by simp only [am_sub, and_self]) ?_
                  exact am_G.nd rfl
                · rw [if_neg c90] at H
                  refine am_G.br (tgt := 143) rfl rfl (if_neg c90) rfl ?_
                  refine am_G.fr 2 (g := (148, [some (.ref v0), some (.int v1), some (.int lw84), none, some (.int v2), some (.long lw85), none], [.int ((4 : Int32)), .int v1, .ref sort87])) rfl ?_
                  obtain rfl := Option.some.inj H
                  refine am_G.fg [some (.ref v0), some (.int v1), some (.int lw84), none, none, some (.long lw85), none] (by simp only [am_sub, and_self]) ?_
                  exact am_G.nd rfl
              · clear E93
                obtain ⟨hh91, e92, H⟩ := am_bd H
                refine am_G.sI rfl e92 ?_
                refine am_G.fr 1 (g := (265, [some (.ref v0), some (.int v1), some (.int lw84), none, none, some (.long lw85), none], [])) rfl ?_
                obtain ⟨rfl, rfl, rfl⟩ := am_inj3 H
                exact am_G.nd rfl
          · clear E98
            refine am_G.fr 1 (g := (266, [some (.ref v0), some (.int v1), some (.int jv22), none, none, some (.long jv23), none], [.ref v0])) rfl ?_
            obtain ⟨value94, e95, H⟩ := am_bd H
            refine am_G.gR rfl e95 ?_
            refine am_G.fr 2 (g := (272, [some (.ref v0), some (.int v1), some (.int jv22), none, none, some (.long jv23), none], [.long jv23, .int v1, .ref value94])) rfl ?_
            obtain ⟨hh96, e97, H⟩ := am_bd H
            refine am_G.sL rfl e97 ?_
            refine am_G.fr 2 (g := (17, [some (.ref v0), some (.int (v1 + (1 : Int32))), some (.int jv22), none, none, some (.long jv23), none], [])) rfl ?_
            refine am_G.fg [some (.ref v0), some (.int (v1 + (1 : Int32))), some (.int jv22), none, none, none, none] (by simp only [am_sub, and_self]) ?_
            exact ih _ _ _ _ _ _ H
        · rw [if_neg c15] at H
          refine am_G.br (tgt := 44) rfl rfl (if_neg c15) rfl ?_
          refine am_G.fr 2 (g := (17, [some (.ref v0), some (.int v1), some (.int (v2 + (1 : Int32))), some (.int x12), none, none, none], [])) rfl ?_
          refine am_G.fg [some (.ref v0), some (.int v1), some (.int (v2 + (1 : Int32))), none, none, none, none] (by simp only [am_sub, and_self]) ?_
          exact ih _ _ _ _ _ _ H
set_option maxHeartbeats 4000000 in
set_option maxRecDepth 100000 in
theorem lX10_cutAll {sc : Nat × (Nat → Int32)} {a0 : Nat} {h : am_H} {h1 : am_H} (H : fX10_cutAll a0 h = some h1) : am_Cl am_T am_N sc 3 142 [.ref a0] h none h1 := by
  unfold fX10_cutAll at H
  obtain ⟨_, hO, H⟩ := am_bd H
  obtain ⟨fs0, hO⟩ := am_isO_ok hO
  refine am_mk (q := qX10_cutAll) rfl (fun _ => ⟨_, _, _, _, _, rfl, hO, rfl, rfl⟩) (fun z => absurd z (by decide)) (Nat.le_of_ble_eq_true rfl) rfl ?_
  show am_G sc (am_Cl am_T am_N sc 2) (am_at kX10_cutAll) (fun t => t.2 = h1 ∧ am_ret 0 (am_at kX10_cutAll) t.1 = some none) ((0, [some (.ref a0), none, none, none, none, none, none], []), h)
  refine am_G.fr 2 (g := (2, [some (.ref a0), none, none, none, none, none, none], [.ref a0, .ref a0])) rfl ?_
  obtain ⟨taped1, e2, H⟩ := am_bd H
  refine am_G.gI rfl e2 ?_
  obtain ⟨hh3, e4, H⟩ := am_bd H
  refine am_G.pF rfl e4 ?_
  refine am_G.fr 2 (g := (10, [some (.ref a0), none, none, none, none, none, none], [.int ((0 : Int32)), .ref a0])) rfl ?_
  obtain ⟨hh5, e6, H⟩ := am_bd H
  refine am_G.pF rfl e6 ?_
  refine am_G.fr 4 (g := (17, [some (.ref a0), some (.int ((0 : Int32))), some (.int ((0 : Int32))), none, none, none, none], [])) rfl ?_
  obtain ⟨lw99, hh100, E101, H⟩ := am_bd2 H
  refine am_G.sq (lX10_cutAll_L17 _ _ _ _ _ _ _ E101) ?_
  clear E101
  refine am_G.fr 1 (g := (280, [some (.ref a0), some (.int lw99), none, none, none, none, none], [.ref a0])) rfl ?_
  obtain ⟨sort102, e103, H⟩ := am_bd H
  refine am_G.gR rfl e103 ?_
  refine am_G.fr 2 (g := (285, [some (.ref a0), some (.int lw99), none, none, none, none, none], [.int ((0 : Int32)), .int lw99, .ref sort102])) rfl ?_
  obtain ⟨hh104, e105, H⟩ := am_bd H
  refine am_G.sI rfl e105 ?_
  refine am_G.fr 1 (g := (287, [some (.ref a0), some (.int lw99), none, none, none, none, none], [.ref a0])) rfl ?_
  obtain ⟨place106, e107, H⟩ := am_bd H
  refine am_G.gR rfl e107 ?_
  refine am_G.fr 2 (g := (292, [some (.ref a0), some (.int lw99), none, none, none, none, none], [.ref a0, .int lw99, .ref place106])) rfl ?_
  obtain ⟨size108, e109, H⟩ := am_bd H
  refine am_G.gI rfl e109 ?_
  obtain ⟨hh110, e111, H⟩ := am_bd H
  refine am_G.sI rfl e111 ?_
  refine am_G.fr 2 (g := (298, [some (.ref a0), some (.int lw99), none, none, none, none, none], [.int ((0 : Int32)), .ref a0])) rfl ?_
  obtain ⟨hh112, e113, H⟩ := am_bd H
  refine am_G.pF rfl e113 ?_
  refine am_G.fr 2 (g := (303, [some (.ref a0), some (.int lw99), none, none, none, none, none], [.int ((0 : Int32)), .ref a0])) rfl ?_
  obtain ⟨hh114, e115, H⟩ := am_bd H
  refine am_G.pF rfl e115 ?_
  obtain rfl := Option.some.inj H
  exact am_G.nd ⟨rfl, rfl⟩
def fX10_wrong (a0 : Nat) (a1 : Int32) (h : am_H) : Option (am_H) :=
  (am_isO h a0 9).bind fun _ =>
  (am_gI h a0 9 8).bind fun fault1 =>
  Option.bind (
    if ¬ fault1 = 0 then
      some h
    else
      (am_gR h a0 9 5).bind fun place5 =>
      (am_gI h a0 9 7).bind fun at7 =>
      (am_aI h 0 place5 at7).bind fun x9 =>
      (am_pF h a0 9 8 (.int (a1 + (((16 : Int32)) * x9)))).bind fun hh11 =>
      some hh11) fun hh3 =>
  some hh3
set_option maxHeartbeats 4000000 in
set_option maxRecDepth 100000 in
theorem lX10_wrong {sc : Nat × (Nat → Int32)} {a0 : Nat} {a1 : Int32} {h : am_H} {h1 : am_H} (H : fX10_wrong a0 a1 h = some h1) : am_Cl am_T am_N sc 1 143 [.ref a0, .int a1] h none h1 := by
  unfold fX10_wrong at H
  obtain ⟨_, hO, H⟩ := am_bd H
  obtain ⟨fs0, hO⟩ := am_isO_ok hO
  refine am_mk (q := qX10_wrong) rfl (fun _ => ⟨_, _, _, _, _, rfl, hO, rfl, rfl⟩) (fun z => absurd z (by decide)) (Nat.le_of_ble_eq_true rfl) rfl ?_
  show am_G sc (am_Cl am_T am_N sc 0) (am_at kX10_wrong) (fun t => t.2 = h1 ∧ am_ret 0 (am_at kX10_wrong) t.1 = some none) ((0, [some (.ref a0), some (.int a1)], []), h)
  refine am_G.fr 1 (g := (1, [some (.ref a0), some (.int a1)], [.ref a0])) rfl ?_
  obtain ⟨fault1, e2, H⟩ := am_bd H
  refine am_G.gI rfl e2 ?_
  obtain ⟨hh3, E13, H⟩ := am_bd H
  refine am_G.sq (t := ((25, [none, none], []), hh3)) ?_ ?_
  · clear H
    have H := E13
    clear E13
    by_cases c4 : ¬ fault1 = 0
    · rw [if_pos c4] at H
      refine am_G.br (tgt := 25) rfl rfl (if_pos c4) rfl ?_
      obtain rfl := Option.some.inj H
      refine am_G.fg [none, none] (by simp only [am_sub, and_self]) ?_
      exact am_G.nd rfl
    · rw [if_neg c4] at H
      refine am_G.br (tgt := 7) rfl rfl (if_neg c4) rfl ?_
      refine am_G.fr 4 (g := (12, [some (.ref a0), some (.int a1)], [.ref a0, .int ((16 : Int32)), .int a1, .ref a0])) rfl ?_
      obtain ⟨place5, e6, H⟩ := am_bd H
      refine am_G.gR rfl e6 ?_
      refine am_G.fr 1 (g := (16, [some (.ref a0), some (.int a1)], [.ref a0, .ref place5, .int ((16 : Int32)), .int a1, .ref a0])) rfl ?_
      obtain ⟨at7, e8, H⟩ := am_bd H
      refine am_G.gI rfl e8 ?_
      obtain ⟨x9, e10, H⟩ := am_bd H
      refine am_G.aI rfl e10 ?_
      refine am_G.fr 2 (g := (22, [some (.ref a0), some (.int a1)], [.int (a1 + (((16 : Int32)) * x9)), .ref a0])) rfl ?_
      obtain ⟨hh11, e12, H⟩ := am_bd H
      refine am_G.pF rfl e12 ?_
      obtain rfl := Option.some.inj H
      refine am_G.fg [none, none] (by simp only [am_sub, and_self]) ?_
      exact am_G.nd rfl
  · clear E13
    obtain rfl := Option.some.inj H
    exact am_G.nd ⟨rfl, rfl⟩
def fX10_isSign (a0 : Nat) (a1 : Int32) (h : am_H) : Option (Int32) :=
  (am_isO h a0 9).bind fun _ =>
  (am_gI h a0 9 8).bind fun fault1 =>
  Option.bind (
    if ¬ fault1 = 0 then
      some ((0 : Int32))
    else
      (am_gR h a0 9 4).bind fun sort5 =>
      (am_gI h a0 9 7).bind fun at7 =>
      (am_aI h 0 sort5 at7).bind fun x9 =>
      if ¬ x9 = ((3 : Int32)) then
        some ((0 : Int32))
      else
        (am_gR h a0 9 6).bind fun value12 =>
        (am_gI h a0 9 7).bind fun at14 =>
        (am_aL h value12 at14).bind fun x16 =>
        if ¬ (lg_cmp x16 a1.toInt64) = 0 then
          some ((0 : Int32))
        else
          some ((1 : Int32))) fun js3 =>
  (am_z01 js3).bind fun b19 =>
  some b19
set_option maxHeartbeats 4000000 in
set_option maxRecDepth 100000 in
theorem lX10_isSign {sc : Nat × (Nat → Int32)} {a0 : Nat} {a1 : Int32} {h : am_H} {r : Int32} (H : fX10_isSign a0 a1 h = some r) : am_Cl am_T am_N sc 1 144 [.ref a0, .int a1] h (some (.int r)) h := by
  unfold fX10_isSign at H
  obtain ⟨_, hO, H⟩ := am_bd H
  obtain ⟨fs0, hO⟩ := am_isO_ok hO
  refine am_mk (q := qX10_isSign) rfl (fun _ => ⟨_, _, _, _, _, rfl, hO, rfl, rfl⟩) (fun z => absurd z (by decide)) (Nat.le_of_ble_eq_true rfl) rfl ?_
  show am_G sc (am_Cl am_T am_N sc 0) (am_at kX10_isSign) (fun t => t.2 = h ∧ am_ret 2 (am_at kX10_isSign) t.1 = some (some (.int r))) ((0, [some (.ref a0), some (.int a1)], []), h)
  refine am_G.fr 1 (g := (1, [some (.ref a0), some (.int a1)], [.ref a0])) rfl ?_
  obtain ⟨fault1, e2, H⟩ := am_bd H
  refine am_G.gI rfl e2 ?_
  obtain ⟨js3, E21, H⟩ := am_bd H
  refine am_G.sq (t := ((40, [none, none], [.int js3]), h)) ?_ ?_
  · clear H
    have H := E21
    clear E21
    by_cases c4 : ¬ fault1 = 0
    · rw [if_pos c4] at H
      refine am_G.br (tgt := 39) rfl rfl (if_pos c4) rfl ?_
      refine am_G.fr 1 (g := (40, [some (.ref a0), some (.int a1)], [.int ((0 : Int32))])) rfl ?_
      obtain rfl := Option.some.inj H
      refine am_G.fg [none, none] (by simp only [am_sub, and_self]) ?_
      exact am_G.nd rfl
    · rw [if_neg c4] at H
      refine am_G.br (tgt := 7) rfl rfl (if_neg c4) rfl ?_
      refine am_G.fr 1 (g := (8, [some (.ref a0), some (.int a1)], [.ref a0])) rfl ?_
      obtain ⟨sort5, e6, H⟩ := am_bd H
      refine am_G.gR rfl e6 ?_
      refine am_G.fr 1 (g := (12, [some (.ref a0), some (.int a1)], [.ref a0, .ref sort5])) rfl ?_
      obtain ⟨at7, e8, H⟩ := am_bd H
      refine am_G.gI rfl e8 ?_
      obtain ⟨x9, e10, H⟩ := am_bd H
      refine am_G.aI rfl e10 ?_
      refine am_G.fr 1 (g := (17, [some (.ref a0), some (.int a1)], [.int ((3 : Int32)), .int x9])) rfl ?_
      by_cases c11 : ¬ x9 = ((3 : Int32))
      · rw [if_pos c11] at H
        refine am_G.br (tgt := 39) rfl rfl (if_pos c11) rfl ?_
        refine am_G.fr 1 (g := (40, [some (.ref a0), some (.int a1)], [.int ((0 : Int32))])) rfl ?_
        obtain rfl := Option.some.inj H
        refine am_G.fg [none, none] (by simp only [am_sub, and_self]) ?_
        exact am_G.nd rfl
      · rw [if_neg c11] at H
        refine am_G.br (tgt := 20) rfl rfl (if_neg c11) rfl ?_
        refine am_G.fr 1 (g := (21, [some (.ref a0), some (.int a1)], [.ref a0])) rfl ?_
        obtain ⟨value12, e13, H⟩ := am_bd H
        refine am_G.gR rfl e13 ?_
        refine am_G.fr 1 (g := (25, [some (.ref a0), some (.int a1)], [.ref a0, .ref value12])) rfl ?_
        obtain ⟨at14, e15, H⟩ := am_bd H
        refine am_G.gI rfl e15 ?_
        obtain ⟨x16, e17, H⟩ := am_bd H
        refine am_G.aL rfl e17 ?_
        refine am_G.fr 3 (g := (32, [some (.ref a0), some (.int a1)], [.int (lg_cmp x16 a1.toInt64)])) rfl ?_
        by_cases c18 : ¬ (lg_cmp x16 a1.toInt64) = 0
        · rw [if_pos c18] at H
          refine am_G.br (tgt := 39) rfl rfl (if_pos c18) rfl ?_
          refine am_G.fr 1 (g := (40, [some (.ref a0), some (.int a1)], [.int ((0 : Int32))])) rfl ?_
          obtain rfl := Option.some.inj H
          refine am_G.fg [none, none] (by simp only [am_sub, and_self]) ?_
          exact am_G.nd rfl
        · rw [if_neg c18] at H
          refine am_G.br (tgt := 35) rfl rfl (if_neg c18) rfl ?_
          refine am_G.fr 2 (g := (40, [some (.ref a0), some (.int a1)], [.int ((1 : Int32))])) rfl ?_
          obtain rfl := Option.some.inj H
          refine am_G.fg [none, none] (by simp only [am_sub, and_self]) ?_
          exact am_G.nd rfl
  · clear E21
    obtain ⟨b19, e20, H⟩ := am_bd H
    obtain rfl := Option.some.inj H
    exact am_G.nd ⟨rfl, am_ret2 rfl e20⟩
def fX10_isWord (a0 : Nat) (a1 : Int32) (h : am_H) : Option (Int32) :=
  (am_isO h a0 9).bind fun _ =>
  (am_gI h a0 9 8).bind fun fault1 =>
  Option.bind (
    if ¬ fault1 = 0 then
      some ((0 : Int32))
    else
      (am_gR h a0 9 4).bind fun sort5 =>
      (am_gI h a0 9 7).bind fun at7 =>
      (am_aI h 0 sort5 at7).bind fun x9 =>
      if ¬ x9 = ((1 : Int32)) then
        some ((0 : Int32))
      else
        (am_gR h a0 9 6).bind fun value12 =>
        (am_gI h a0 9 7).bind fun at14 =>
        (am_aL h value12 at14).bind fun x16 =>
        (am_gR h a0 9 9).bind fun words18 =>
        (am_aL h words18 a1).bind fun x20 =>
        if ¬ (lg_cmp x16 x20) = 0 then
          some ((0 : Int32))
        else
          some ((1 : Int32))) fun js3 =>
  (am_z01 js3).bind fun b23 =>
  some b23
set_option maxHeartbeats 4000000 in
set_option maxRecDepth 100000 in
theorem lX10_isWord {sc : Nat × (Nat → Int32)} {a0 : Nat} {a1 : Int32} {h : am_H} {r : Int32} (H : fX10_isWord a0 a1 h = some r) : am_Cl am_T am_N sc 1 145 [.ref a0, .int a1] h (some (.int r)) h := by
  unfold fX10_isWord at H
  obtain ⟨_, hO, H⟩ := am_bd H
  obtain ⟨fs0, hO⟩ := am_isO_ok hO
  refine am_mk (q := qX10_isWord) rfl (fun _ => ⟨_, _, _, _, _, rfl, hO, rfl, rfl⟩) (fun z => absurd z (by decide)) (Nat.le_of_ble_eq_true rfl) rfl ?_
  show am_G sc (am_Cl am_T am_N sc 0) (am_at kX10_isWord) (fun t => t.2 = h ∧ am_ret 2 (am_at kX10_isWord) t.1 = some (some (.int r))) ((0, [some (.ref a0), some (.int a1)], []), h)
  refine am_G.fr 1 (g := (1, [some (.ref a0), some (.int a1)], [.ref a0])) rfl ?_
  obtain ⟨fault1, e2, H⟩ := am_bd H
  refine am_G.gI rfl e2 ?_
  obtain ⟨js3, E25, H⟩ := am_bd H
  refine am_G.sq (t := ((44, [none, none], [.int js3]), h)) ?_ ?_
  · clear H
    have H := E25
    clear E25
    by_cases c4 : ¬ fault1 = 0
    · rw [if_pos c4] at H
      refine am_G.br (tgt := 43) rfl rfl (if_pos c4) rfl ?_
      refine am_G.fr 1 (g := (44, [some (.ref a0), some (.int a1)], [.int ((0 : Int32))])) rfl ?_
      obtain rfl := Option.some.inj H
      refine am_G.fg [none, none] (by simp only [am_sub, and_self]) ?_
      exact am_G.nd rfl
    · rw [if_neg c4] at H
      refine am_G.br (tgt := 7) rfl rfl (if_neg c4) rfl ?_
      refine am_G.fr 1 (g := (8, [some (.ref a0), some (.int a1)], [.ref a0])) rfl ?_
      obtain ⟨sort5, e6, H⟩ := am_bd H
      refine am_G.gR rfl e6 ?_
      refine am_G.fr 1 (g := (12, [some (.ref a0), some (.int a1)], [.ref a0, .ref sort5])) rfl ?_
      obtain ⟨at7, e8, H⟩ := am_bd H
      refine am_G.gI rfl e8 ?_
      obtain ⟨x9, e10, H⟩ := am_bd H
      refine am_G.aI rfl e10 ?_
      refine am_G.fr 1 (g := (17, [some (.ref a0), some (.int a1)], [.int ((1 : Int32)), .int x9])) rfl ?_
      by_cases c11 : ¬ x9 = ((1 : Int32))
      · rw [if_pos c11] at H
        refine am_G.br (tgt := 43) rfl rfl (if_pos c11) rfl ?_
        refine am_G.fr 1 (g := (44, [some (.ref a0), some (.int a1)], [.int ((0 : Int32))])) rfl ?_
        obtain rfl := Option.some.inj H
        refine am_G.fg [none, none] (by simp only [am_sub, and_self]) ?_
        exact am_G.nd rfl
      · rw [if_neg c11] at H
        refine am_G.br (tgt := 20) rfl rfl (if_neg c11) rfl ?_
        refine am_G.fr 1 (g := (21, [some (.ref a0), some (.int a1)], [.ref a0])) rfl ?_
        obtain ⟨value12, e13, H⟩ := am_bd H
        refine am_G.gR rfl e13 ?_
        refine am_G.fr 1 (g := (25, [some (.ref a0), some (.int a1)], [.ref a0, .ref value12])) rfl ?_
        obtain ⟨at14, e15, H⟩ := am_bd H
        refine am_G.gI rfl e15 ?_
        obtain ⟨x16, e17, H⟩ := am_bd H
        refine am_G.aL rfl e17 ?_
        refine am_G.fr 1 (g := (30, [some (.ref a0), some (.int a1)], [.ref a0, .long x16])) rfl ?_
        obtain ⟨words18, e19, H⟩ := am_bd H
        refine am_G.gR rfl e19 ?_
        refine am_G.fr 1 (g := (34, [some (.ref a0), some (.int a1)], [.int a1, .ref words18, .long x16])) rfl ?_
        obtain ⟨x20, e21, H⟩ := am_bd H
        refine am_G.aL rfl e21 ?_
        refine am_G.fr 1 (g := (36, [some (.ref a0), some (.int a1)], [.int (lg_cmp x16 x20)])) rfl ?_
        by_cases c22 : ¬ (lg_cmp x16 x20) = 0
        · rw [if_pos c22] at H
          refine am_G.br (tgt := 43) rfl rfl (if_pos c22) rfl ?_
          refine am_G.fr 1 (g := (44, [some (.ref a0), some (.int a1)], [.int ((0 : Int32))])) rfl ?_
          obtain rfl := Option.some.inj H
          refine am_G.fg [none, none] (by simp only [am_sub, and_self]) ?_
          exact am_G.nd rfl
        · rw [if_neg c22] at H
          refine am_G.br (tgt := 39) rfl rfl (if_neg c22) rfl ?_
          refine am_G.fr 2 (g := (44, [some (.ref a0), some (.int a1)], [.int ((1 : Int32))])) rfl ?_
          obtain rfl := Option.some.inj H
          refine am_G.fg [none, none] (by simp only [am_sub, and_self]) ?_
          exact am_G.nd rfl
  · clear E25
    obtain ⟨b23, e24, H⟩ := am_bd H
    obtain rfl := Option.some.inj H
    exact am_G.nd ⟨rfl, am_ret2 rfl e24⟩
def fX10_takeSign (a0 : Nat) (a1 : Int32) (h : am_H) : Option (am_H) :=
  (am_isO h a0 9).bind fun _ =>
  (fX10_isSign a0 a1 h).bind fun x2 =>
  Option.bind (
    if x2 = 0 then
      (fX10_wrong a0 ((1 : Int32)) h).bind fun hh6 =>
      some hh6
    else
      (am_gI h a0 9 7).bind fun at7 =>
      (am_pF h a0 9 7 (.int (at7 + ((1 : Int32))))).bind fun hh9 =>
      some hh9) fun hh3 =>
  some hh3
set_option maxHeartbeats 4000000 in
set_option maxRecDepth 100000 in
theorem lX10_takeSign {sc : Nat × (Nat → Int32)} {a0 : Nat} {a1 : Int32} {h : am_H} {h1 : am_H} (H : fX10_takeSign a0 a1 h = some h1) : am_Cl am_T am_N sc 2 146 [.ref a0, .int a1] h none h1 := by
  unfold fX10_takeSign at H
  obtain ⟨_, hO, H⟩ := am_bd H
  obtain ⟨fs0, hO⟩ := am_isO_ok hO
  refine am_mk (q := qX10_takeSign) rfl (fun _ => ⟨_, _, _, _, _, rfl, hO, rfl, rfl⟩) (fun z => absurd z (by decide)) (Nat.le_of_ble_eq_true rfl) rfl ?_
  show am_G sc (am_Cl am_T am_N sc 1) (am_at kX10_takeSign) (fun t => t.2 = h1 ∧ am_ret 0 (am_at kX10_takeSign) t.1 = some none) ((0, [some (.ref a0), some (.int a1)], []), h)
  refine am_G.fr 2 (g := (2, [some (.ref a0), some (.int a1)], [.int a1, .ref a0])) rfl ?_
  obtain ⟨x2, e1, H⟩ := am_bd H
  refine am_G.cl [.ref a0, .int a1] [] (am_Cl.mono (by decide) (lX10_isSign e1)) rfl rfl rfl rfl (Nat.le_of_ble_eq_true rfl) ?_
  obtain ⟨hh3, E11, H⟩ := am_bd H
  refine am_G.sq (t := ((26, [none, none], []), hh3)) ?_ ?_
  · clear H
    have H := E11
    clear E11
    by_cases c4 : x2 = 0
    · rw [if_pos c4] at H
      refine am_G.br (tgt := 21) rfl rfl (if_pos c4) rfl ?_
      refine am_G.fr 2 (g := (23, [some (.ref a0), some (.int a1)], [.int ((1 : Int32)), .ref a0])) rfl ?_
      obtain ⟨hh6, e5, H⟩ := am_bd H
      refine am_G.cl [.ref a0, .int ((1 : Int32))] [] (am_Cl.mono (by decide) (lX10_wrong e5)) rfl rfl rfl rfl (Nat.le_of_ble_eq_true rfl) ?_
      obtain rfl := Option.some.inj H
      refine am_G.fg [none, none] (by simp only [am_sub, and_self]) ?_
      exact am_G.nd rfl
    · rw [if_neg c4] at H
      refine am_G.br (tgt := 8) rfl rfl (if_neg c4) rfl ?_
      refine am_G.fr 2 (g := (10, [some (.ref a0), some (.int a1)], [.ref a0, .ref a0])) rfl ?_
      obtain ⟨at7, e8, H⟩ := am_bd H
      refine am_G.gI rfl e8 ?_
      refine am_G.fr 2 (g := (15, [some (.ref a0), some (.int a1)], [.int (at7 + ((1 : Int32))), .ref a0])) rfl ?_
      obtain ⟨hh9, e10, H⟩ := am_bd H
      refine am_G.pF rfl e10 ?_
      refine am_G.fr 1 (g := (26, [some (.ref a0), some (.int a1)], [])) rfl ?_
      obtain rfl := Option.some.inj H
      refine am_G.fg [none, none] (by simp only [am_sub, and_self]) ?_
      exact am_G.nd rfl
  · clear E11
    obtain rfl := Option.some.inj H
    exact am_G.nd ⟨rfl, rfl⟩
def fX10_hasSign (a0 : Nat) (a1 : Int32) (h : am_H) : Option (Int32 × am_H) :=
  (am_isO h a0 9).bind fun _ =>
  (fX10_isSign a0 a1 h).bind fun x2 =>
  (am_gI h a0 9 7).bind fun at3 =>
  Option.bind (
    if x2 = 0 then
      some ((0 : Int32))
    else
      some ((1 : Int32))) fun js5 =>
  (am_pF h a0 9 7 (.int (at3 + js5))).bind fun hh7 =>
  (am_z01 x2).bind fun b9 =>
  some (b9, hh7)
set_option maxHeartbeats 4000000 in
set_option maxRecDepth 100000 in
theorem lX10_hasSign {sc : Nat × (Nat → Int32)} {a0 : Nat} {a1 : Int32} {h : am_H} {r : Int32} {h1 : am_H} (H : fX10_hasSign a0 a1 h = some (r, h1)) : am_Cl am_T am_N sc 2 147 [.ref a0, .int a1] h (some (.int r)) h1 := by
  unfold fX10_hasSign at H
  obtain ⟨_, hO, H⟩ := am_bd H
  obtain ⟨fs0, hO⟩ := am_isO_ok hO
  refine am_mk (q := qX10_hasSign) rfl (fun _ => ⟨_, _, _, _, _, rfl, hO, rfl, rfl⟩) (fun z => absurd z (by decide)) (Nat.le_of_ble_eq_true rfl) rfl ?_
  show am_G sc (am_Cl am_T am_N sc 1) (am_at kX10_hasSign) (fun t => t.2 = h1 ∧ am_ret 2 (am_at kX10_hasSign) t.1 = some (some (.int r))) ((0, [some (.ref a0), some (.int a1), none], []), h)
  refine am_G.fr 2 (g := (2, [some (.ref a0), some (.int a1), none], [.int a1, .ref a0])) rfl ?_
  obtain ⟨x2, e1, H⟩ := am_bd H
  refine am_G.cl [.ref a0, .int a1] [] (am_Cl.mono (by decide) (lX10_isSign e1)) rfl rfl rfl rfl (Nat.le_of_ble_eq_true rfl) ?_
  refine am_G.fr 3 (g := (8, [some (.ref a0), some (.int a1), some (.int x2)], [.ref a0, .ref a0])) rfl ?_
  obtain ⟨at3, e4, H⟩ := am_bd H
  refine am_G.gI rfl e4 ?_
  refine am_G.fr 1 (g := (12, [some (.ref a0), some (.int a1), some (.int x2)], [.int x2, .int at3, .ref a0])) rfl ?_
  obtain ⟨js5, E11, H⟩ := am_bd H
  refine am_G.sq (t := ((20, [none, none, some (.int x2)], [.int js5, .int at3, .ref a0]), h)) ?_ ?_
  · clear H
    have H := E11
    clear E11
    by_cases c6 : x2 = 0
    · rw [if_pos c6] at H
      refine am_G.br (tgt := 19) rfl rfl (if_pos c6) rfl ?_
      refine am_G.fr 1 (g := (20, [some (.ref a0), some (.int a1), some (.int x2)], [.int ((0 : Int32)), .int at3, .ref a0])) rfl ?_
      obtain rfl := Option.some.inj H
      refine am_G.fg [none, none, some (.int x2)] (by simp only [am_sub, and_self]) ?_
      exact am_G.nd rfl
    · rw [if_neg c6] at H
      refine am_G.br (tgt := 15) rfl rfl (if_neg c6) rfl ?_
      refine am_G.fr 2 (g := (20, [some (.ref a0), some (.int a1), some (.int x2)], [.int ((1 : Int32)), .int at3, .ref a0])) rfl ?_
      obtain rfl := Option.some.inj H
      refine am_G.fg [none, none, some (.int x2)] (by simp only [am_sub, and_self]) ?_
      exact am_G.nd rfl
  · clear E11
    refine am_G.fr 1 (g := (21, [none, none, some (.int x2)], [.int (at3 + js5), .ref a0])) rfl ?_
    obtain ⟨hh7, e8, H⟩ := am_bd H
    refine am_G.pF rfl e8 ?_
    refine am_G.fr 1 (g := (25, [none, none, some (.int x2)], [.int x2])) rfl ?_
    obtain ⟨b9, e10, H⟩ := am_bd H
    obtain ⟨rfl, rfl⟩ := am_inj2 H
    exact am_G.nd ⟨rfl, am_ret2 rfl e10⟩
def fX10_hasWord (a0 : Nat) (a1 : Int32) (h : am_H) : Option (Int32 × am_H) :=
  (am_isO h a0 9).bind fun _ =>
  (fX10_isWord a0 a1 h).bind fun x2 =>
  (am_gI h a0 9 7).bind fun at3 =>
  Option.bind (
    if x2 = 0 then
      some ((0 : Int32))
    else
      some ((1 : Int32))) fun js5 =>
  (am_pF h a0 9 7 (.int (at3 + js5))).bind fun hh7 =>
  (am_z01 x2).bind fun b9 =>
  some (b9, hh7)
set_option maxHeartbeats 4000000 in
set_option maxRecDepth 100000 in
theorem lX10_hasWord {sc : Nat × (Nat → Int32)} {a0 : Nat} {a1 : Int32} {h : am_H} {r : Int32} {h1 : am_H} (H : fX10_hasWord a0 a1 h = some (r, h1)) : am_Cl am_T am_N sc 2 148 [.ref a0, .int a1] h (some (.int r)) h1 := by
  unfold fX10_hasWord at H
  obtain ⟨_, hO, H⟩ := am_bd H
  obtain ⟨fs0, hO⟩ := am_isO_ok hO
  refine am_mk (q := qX10_hasWord) rfl (fun _ => ⟨_, _, _, _, _, rfl, hO, rfl, rfl⟩) (fun z => absurd z (by decide)) (Nat.le_of_ble_eq_true rfl) rfl ?_
  show am_G sc (am_Cl am_T am_N sc 1) (am_at kX10_hasWord) (fun t => t.2 = h1 ∧ am_ret 2 (am_at kX10_hasWord) t.1 = some (some (.int r))) ((0, [some (.ref a0), some (.int a1), none], []), h)
  refine am_G.fr 2 (g := (2, [some (.ref a0), some (.int a1), none], [.int a1, .ref a0])) rfl ?_
  obtain ⟨x2, e1, H⟩ := am_bd H
  refine am_G.cl [.ref a0, .int a1] [] (am_Cl.mono (by decide) (lX10_isWord e1)) rfl rfl rfl rfl (Nat.le_of_ble_eq_true rfl) ?_
  refine am_G.fr 3 (g := (8, [some (.ref a0), some (.int a1), some (.int x2)], [.ref a0, .ref a0])) rfl ?_
  obtain ⟨at3, e4, H⟩ := am_bd H
  refine am_G.gI rfl e4 ?_
  refine am_G.fr 1 (g := (12, [some (.ref a0), some (.int a1), some (.int x2)], [.int x2, .int at3, .ref a0])) rfl ?_
  obtain ⟨js5, E11, H⟩ := am_bd H
  refine am_G.sq (t := ((20, [none, none, some (.int x2)], [.int js5, .int at3, .ref a0]), h)) ?_ ?_
  · clear H
    have H := E11
    clear E11
    by_cases c6 : x2 = 0
    · rw [if_pos c6] at H
      refine am_G.br (tgt := 19) rfl rfl (if_pos c6) rfl ?_
      refine am_G.fr 1 (g := (20, [some (.ref a0), some (.int a1), some (.int x2)], [.int ((0 : Int32)), .int at3, .ref a0])) rfl ?_
      obtain rfl := Option.some.inj H
      refine am_G.fg [none, none, some (.int x2)] (by simp only [am_sub, and_self]) ?_
      exact am_G.nd rfl
    · rw [if_neg c6] at H
      refine am_G.br (tgt := 15) rfl rfl (if_neg c6) rfl ?_
      refine am_G.fr 2 (g := (20, [some (.ref a0), some (.int a1), some (.int x2)], [.int ((1 : Int32)), .int at3, .ref a0])) rfl ?_
      obtain rfl := Option.some.inj H
      refine am_G.fg [none, none, some (.int x2)] (by simp only [am_sub, and_self]) ?_
      exact am_G.nd rfl
  · clear E11
    refine am_G.fr 1 (g := (21, [none, none, some (.int x2)], [.int (at3 + js5), .ref a0])) rfl ?_
    obtain ⟨hh7, e8, H⟩ := am_bd H
    refine am_G.pF rfl e8 ?_
    refine am_G.fr 1 (g := (25, [none, none, some (.int x2)], [.int x2])) rfl ?_
    obtain ⟨b9, e10, H⟩ := am_bd H
    obtain ⟨rfl, rfl⟩ := am_inj2 H
    exact am_G.nd ⟨rfl, am_ret2 rfl e10⟩
def fX10_takeWord (a0 : Nat) (a1 : Int32) (h : am_H) : Option (am_H) :=
  (am_isO h a0 9).bind fun _ =>
  am_b2 (fX10_hasWord a0 a1 h) fun x2 hh3 =>
  Option.bind (
    if ¬ x2 = 0 then
      some hh3
    else
      (fX10_wrong a0 ((1 : Int32)) hh3).bind fun hh7 =>
      some hh7) fun hh4 =>
  some hh4
set_option maxHeartbeats 4000000 in
set_option maxRecDepth 100000 in
theorem lX10_takeWord {sc : Nat × (Nat → Int32)} {a0 : Nat} {a1 : Int32} {h : am_H} {h1 : am_H} (H : fX10_takeWord a0 a1 h = some h1) : am_Cl am_T am_N sc 3 149 [.ref a0, .int a1] h none h1 := by
  unfold fX10_takeWord at H
  obtain ⟨_, hO, H⟩ := am_bd H
  obtain ⟨fs0, hO⟩ := am_isO_ok hO
  refine am_mk (q := qX10_takeWord) rfl (fun _ => ⟨_, _, _, _, _, rfl, hO, rfl, rfl⟩) (fun z => absurd z (by decide)) (Nat.le_of_ble_eq_true rfl) rfl ?_
  show am_G sc (am_Cl am_T am_N sc 2) (am_at kX10_takeWord) (fun t => t.2 = h1 ∧ am_ret 0 (am_at kX10_takeWord) t.1 = some none) ((0, [some (.ref a0), some (.int a1)], []), h)
  refine am_G.fr 2 (g := (2, [some (.ref a0), some (.int a1)], [.int a1, .ref a0])) rfl ?_
  obtain ⟨x2, hh3, e1, H⟩ := am_bd2 H
  refine am_G.cl [.ref a0, .int a1] [] (am_Cl.mono (by decide) (lX10_hasWord e1)) rfl rfl rfl rfl (Nat.le_of_ble_eq_true rfl) ?_
  obtain ⟨hh4, E8, H⟩ := am_bd H
  refine am_G.sq (t := ((13, [none, none], []), hh4)) ?_ ?_
  · clear H
    have H := E8
    clear E8
    by_cases c5 : ¬ x2 = 0
    · rw [if_pos c5] at H
      refine am_G.br (tgt := 13) rfl rfl (if_pos c5) rfl ?_
      obtain rfl := Option.some.inj H
      refine am_G.fg [none, none] (by simp only [am_sub, and_self]) ?_
      exact am_G.nd rfl
    · rw [if_neg c5] at H
      refine am_G.br (tgt := 8) rfl rfl (if_neg c5) rfl ?_
      refine am_G.fr 2 (g := (10, [some (.ref a0), some (.int a1)], [.int ((1 : Int32)), .ref a0])) rfl ?_
      obtain ⟨hh7, e6, H⟩ := am_bd H
      refine am_G.cl [.ref a0, .int ((1 : Int32))] [] (am_Cl.mono (by decide) (lX10_wrong e6)) rfl rfl rfl rfl (Nat.le_of_ble_eq_true rfl) ?_
      obtain rfl := Option.some.inj H
      refine am_G.fg [none, none] (by simp only [am_sub, and_self]) ?_
      exact am_G.nd rfl
  · clear E8
    obtain rfl := Option.some.inj H
    exact am_G.nd ⟨rfl, rfl⟩
def fX10_within (a0 : Int32) (a1 : Int32) (a2 : Int32) (h : am_H) : Option (Int32) :=
  Option.bind (
    if a0 < a1 then
      some ((0 : Int32))
    else
      if a2 < a0 then
        some ((0 : Int32))
      else
        some ((1 : Int32))) fun js1 =>
  (am_z01 js1).bind fun b4 =>
  some b4
set_option maxHeartbeats 4000000 in
set_option maxRecDepth 100000 in
theorem lX10_within {sc : Nat × (Nat → Int32)} {a0 : Int32} {a1 : Int32} {a2 : Int32} {h : am_H} {r : Int32} (H : fX10_within a0 a1 a2 h = some r) : am_Cl am_T am_N sc 1 150 [.int a0, .int a1, .int a2] h (some (.int r)) h := by
  unfold fX10_within at H
  refine am_mk (q := qX10_within) rfl (fun z => absurd z (by decide)) (fun z => absurd z (by decide)) (Nat.le_of_ble_eq_true rfl) rfl ?_
  show am_G sc (am_Cl am_T am_N sc 0) (am_at kX10_within) (fun t => t.2 = h ∧ am_ret 2 (am_at kX10_within) t.1 = some (some (.int r))) ((0, [some (.int a0), some (.int a1), some (.int a2)], []), h)
  refine am_G.fr 2 (g := (2, [some (.int a0), some (.int a1), some (.int a2)], [.int a1, .int a0])) rfl ?_
  obtain ⟨js1, E6, H⟩ := am_bd H
  refine am_G.sq (t := ((15, [none, none, none], [.int js1]), h)) ?_ ?_
  · clear H
    have H := E6
    clear E6
    by_cases c2 : a0 < a1
    · rw [if_pos c2] at H
      refine am_G.br (tgt := 14) rfl rfl (if_pos c2) rfl ?_
      refine am_G.fr 1 (g := (15, [some (.int a0), some (.int a1), some (.int a2)], [.int ((0 : Int32))])) rfl ?_
      obtain rfl := Option.some.inj H
      refine am_G.fg [none, none, none] (by simp only [am_sub, and_self]) ?_
      exact am_G.nd rfl
    · rw [if_neg c2] at H
      refine am_G.br (tgt := 5) rfl rfl (if_neg c2) rfl ?_
      refine am_G.fr 2 (g := (7, [some (.int a0), some (.int a1), some (.int a2)], [.int a2, .int a0])) rfl ?_
      by_cases c3 : a2 < a0
      · rw [if_pos c3] at H
        refine am_G.br (tgt := 14) rfl rfl (if_pos c3) rfl ?_
        refine am_G.fr 1 (g := (15, [some (.int a0), some (.int a1), some (.int a2)], [.int ((0 : Int32))])) rfl ?_
        obtain rfl := Option.some.inj H
        refine am_G.fg [none, none, none] (by simp only [am_sub, and_self]) ?_
        exact am_G.nd rfl
      · rw [if_neg c3] at H
        refine am_G.br (tgt := 10) rfl rfl (if_neg c3) rfl ?_
        refine am_G.fr 2 (g := (15, [some (.int a0), some (.int a1), some (.int a2)], [.int ((1 : Int32))])) rfl ?_
        obtain rfl := Option.some.inj H
        refine am_G.fg [none, none, none] (by simp only [am_sub, and_self]) ?_
        exact am_G.nd rfl
  · clear E6
    obtain ⟨b4, e5, H⟩ := am_bd H
    obtain rfl := Option.some.inj H
    exact am_G.nd ⟨rfl, am_ret2 rfl e5⟩
def fX10_takeNumber (a0 : Nat) (a1 : Int32) (a2 : Int32) (h : am_H) : Option (Int32 × am_H) :=
  (am_isO h a0 9).bind fun _ =>
  (am_gI h a0 9 8).bind fun fault1 =>
  Option.bind (
    if ¬ fault1 = 0 then
      (am_gI h a0 9 8).bind fun fault5 =>
      if ¬ fault5 = 0 then
        some h
      else
        (am_gR h a0 9 6).bind fun value8 =>
        (am_gI h a0 9 7).bind fun at10 =>
        (am_aL h value8 at10).bind fun x12 =>
        if (lg_cmp x12 a1.toInt64) < 0 then
          (fX10_wrong a0 ((4 : Int32)) h).bind fun hh16 =>
          some hh16
        else
          (am_gR h a0 9 6).bind fun value17 =>
          (am_gI h a0 9 7).bind fun at19 =>
          (am_aL h value17 at19).bind fun x21 =>
          if (lg_cmp x21 a2.toInt64) ≤ 0 then
            some h
          else
            (fX10_wrong a0 ((4 : Int32)) h).bind fun hh25 =>
            some hh25
    else
      (am_gR h a0 9 4).bind fun sort26 =>
      (am_gI h a0 9 7).bind fun at28 =>
      (am_aI h 0 sort26 at28).bind fun x30 =>
      if x30 = ((2 : Int32)) then
        (am_gI h a0 9 8).bind fun fault33 =>
        if ¬ fault33 = 0 then
          some h
        else
          (am_gR h a0 9 6).bind fun value36 =>
          (am_gI h a0 9 7).bind fun at38 =>
          (am_aL h value36 at38).bind fun x40 =>
          if (lg_cmp x40 a1.toInt64) < 0 then
            (fX10_wrong a0 ((4 : Int32)) h).bind fun hh44 =>
            some hh44
          else
            (am_gR h a0 9 6).bind fun value45 =>
            (am_gI h a0 9 7).bind fun at47 =>
            (am_aL h value45 at47).bind fun x49 =>
            if (lg_cmp x49 a2.toInt64) ≤ 0 then
              some h
            else
              (fX10_wrong a0 ((4 : Int32)) h).bind fun hh53 =>
              some hh53
      else
        (fX10_wrong a0 ((1 : Int32)) h).bind fun hh55 =>
        some hh55) fun hh3 =>
  (am_gI hh3 a0 9 8).bind fun fault56 =>
  if fault56 ≤ 0 then
    (am_gI hh3 a0 9 7).bind fun at59 =>
    (am_pF hh3 a0 9 7 (.int (at59 + ((1 : Int32))))).bind fun hh61 =>
    (am_gR hh61 a0 9 6).bind fun value63 =>
    (am_gI hh61 a0 9 7).bind fun at65 =>
    (am_aL hh61 value63 (at65 - ((1 : Int32)))).bind fun x67 =>
    some (x67.toInt32, hh61)
  else
    some ((0 : Int32), hh3)
set_option maxHeartbeats 4000000 in
set_option maxRecDepth 100000 in
theorem lX10_takeNumber {sc : Nat × (Nat → Int32)} {a0 : Nat} {a1 : Int32} {a2 : Int32} {h : am_H} {r : Int32} {h1 : am_H} (H : fX10_takeNumber a0 a1 a2 h = some (r, h1)) : am_Cl am_T am_N sc 2 152 [.ref a0, .int a1, .int a2] h (some (.int r)) h1 := by
  unfold fX10_takeNumber at H
  obtain ⟨_, hO, H⟩ := am_bd H
  obtain ⟨fs0, hO⟩ := am_isO_ok hO
  refine am_mk (q := qX10_takeNumber) rfl (fun _ => ⟨_, _, _, _, _, rfl, hO, rfl, rfl⟩) (fun z => absurd z (by decide)) (Nat.le_of_ble_eq_true rfl) rfl ?_
  show am_G sc (am_Cl am_T am_N sc 1) (am_at kX10_takeNumber) (fun t => t.2 = h1 ∧ am_ret 1 (am_at kX10_takeNumber) t.1 = some (some (.int r))) ((0, [some (.ref a0), some (.int a1), some (.int a2)], []), h)
  refine am_G.fr 1 (g := (1, [some (.ref a0), some (.int a1), some (.int a2)], [.ref a0])) rfl ?_
  obtain ⟨fault1, e2, H⟩ := am_bd H
  refine am_G.gI rfl e2 ?_
  obtain ⟨hh3, E69, H⟩ := am_bd H
  refine am_G.sq (t := ((70, [some (.ref a0), none, none], []), hh3)) ?_ ?_
  · clear H
    have H := E69
    clear E69
    by_cases c4 : ¬ fault1 = 0
    · rw [if_pos c4] at H
      refine am_G.br (tgt := 28) rfl rfl (if_pos c4) rfl ?_
      refine am_G.fr 1 (g := (29, [some (.ref a0), some (.int a1), some (.int a2)], [.ref a0])) rfl ?_
      obtain ⟨fault5, e6, H⟩ := am_bd H
      refine am_G.gI rfl e6 ?_
      by_cases c7 : ¬ fault5 = 0
      · rw [if_pos c7] at H
        refine am_G.br (tgt := 70) rfl rfl (if_pos c7) rfl ?_
        obtain rfl := Option.some.inj H
        refine am_G.fg [some (.ref a0), none, none] (by simp only [am_sub, and_self]) ?_
        exact am_G.nd rfl
      · rw [if_neg c7] at H
        refine am_G.br (tgt := 35) rfl rfl (if_neg c7) rfl ?_
        refine am_G.fr 1 (g := (36, [some (.ref a0), some (.int a1), some (.int a2)], [.ref a0])) rfl ?_
        obtain ⟨value8, e9, H⟩ := am_bd H
        refine am_G.gR rfl e9 ?_
        refine am_G.fr 1 (g := (40, [some (.ref a0), some (.int a1), some (.int a2)], [.ref a0, .ref value8])) rfl ?_
        obtain ⟨at10, e11, H⟩ := am_bd H
        refine am_G.gI rfl e11 ?_
        obtain ⟨x12, e13, H⟩ := am_bd H
        refine am_G.aL rfl e13 ?_
        refine am_G.fr 3 (g := (47, [some (.ref a0), some (.int a1), some (.int a2)], [.int (lg_cmp x12 a1.toInt64)])) rfl ?_
        by_cases c14 : (lg_cmp x12 a1.toInt64) < 0
        · rw [if_pos c14] at H
          refine am_G.br (tgt := 65) rfl rfl (if_pos c14) rfl ?_
          refine am_G.fr 2 (g := (67, [some (.ref a0), some (.int a1), some (.int a2)], [.int ((4 : Int32)), .ref a0])) rfl ?_
          obtain ⟨hh16, e15, H⟩ := am_bd H
          refine am_G.cl [.ref a0, .int ((4 : Int32))] [] (am_Cl.mono (by decide) (lX10_wrong e15)) rfl rfl rfl rfl (Nat.le_of_ble_eq_true rfl) ?_
          obtain rfl := Option.some.inj H
          refine am_G.fg [some (.ref a0), none, none] (by simp only [am_sub, and_self]) ?_
          exact am_G.nd rfl
        · rw [if_neg c14] at H
          refine am_G.br (tgt := 50) rfl rfl (if_neg c14) rfl ?_
          refine am_G.fr 1 (g := (51, [some (.ref a0), some (.int a1), some (.int a2)], [.ref a0])) rfl ?_
          obtain ⟨value17, e18, H⟩ := am_bd H
          refine am_G.gR rfl e18 ?_
          refine am_G.fr 1 (g := (55, [some (.ref a0), some (.int a1), some (.int a2)], [.ref a0, .ref value17])) rfl ?_
          obtain ⟨at19, e20, H⟩ := am_bd H
          refine am_G.gI rfl e20 ?_
          obtain ⟨x21, e22, H⟩ := am_bd H
          refine am_G.aL rfl e22 ?_
          refine am_G.fr 3 (g := (62, [some (.ref a0), some (.int a1), some (.int a2)], [.int (lg_cmp x21 a2.toInt64)])) rfl ?_
          by_cases c23 : (lg_cmp x21 a2.toInt64) ≤ 0
          · rw [if_pos c23] at H
            refine am_G.br (tgt := 70) rfl rfl (if_pos c23) rfl ?_
            obtain rfl := Option.some.inj H
            refine am_G.fg [some (.ref a0), none, none] (by simp only [am_sub, and_self]) ?_
            exact am_G.nd rfl
          · rw [if_neg c23] at H
            refine am_G.br (tgt := 65) rfl rfl (if_neg c23) rfl ?_
            refine am_G.fr 2 (g := (67, [some (.ref a0), some (.int a1), some (.int a2)], [.int ((4 : Int32)), .ref a0])) rfl ?_
            obtain ⟨hh25, e24, H⟩ := am_bd H
            refine am_G.cl [.ref a0, .int ((4 : Int32))] [] (am_Cl.mono (by decide) (lX10_wrong e24)) rfl rfl rfl rfl (Nat.le_of_ble_eq_true rfl) ?_
            obtain rfl := Option.some.inj H
            refine am_G.fg [some (.ref a0), none, none] (by simp only [am_sub, and_self]) ?_
            exact am_G.nd rfl
    · rw [if_neg c4] at H
      refine am_G.br (tgt := 7) rfl rfl (if_neg c4) rfl ?_
      refine am_G.fr 1 (g := (8, [some (.ref a0), some (.int a1), some (.int a2)], [.ref a0])) rfl ?_
      obtain ⟨sort26, e27, H⟩ := am_bd H
      refine am_G.gR rfl e27 ?_
      refine am_G.fr 1 (g := (12, [some (.ref a0), some (.int a1), some (.int a2)], [.ref a0, .ref sort26])) rfl ?_
      obtain ⟨at28, e29, H⟩ := am_bd H
      refine am_G.gI rfl e29 ?_
      obtain ⟨x30, e31, H⟩ := am_bd H
      refine am_G.aI rfl e31 ?_
      refine am_G.fr 1 (g := (17, [some (.ref a0), some (.int a1), some (.int a2)], [.int ((2 : Int32)), .int x30])) rfl ?_
      by_cases c32 : x30 = ((2 : Int32))
      · rw [if_pos c32] at H
        refine am_G.br (tgt := 28) rfl rfl (if_pos c32) rfl ?_
        refine am_G.fr 1 (g := (29, [some (.ref a0), some (.int a1), some (.int a2)], [.ref a0])) rfl ?_
        obtain ⟨fault33, e34, H⟩ := am_bd H
        refine am_G.gI rfl e34 ?_
        by_cases c35 : ¬ fault33 = 0
        · rw [if_pos c35] at H
          refine am_G.br (tgt := 70) rfl rfl (if_pos c35) rfl ?_
          obtain rfl := Option.some.inj H
          refine am_G.fg [some (.ref a0), none, none] (by simp only [am_sub, and_self]) ?_
          exact am_G.nd rfl
        · rw [if_neg c35] at H
          refine am_G.br (tgt := 35) rfl rfl (if_neg c35) rfl ?_
          refine am_G.fr 1 (g := (36, [some (.ref a0), some (.int a1), some (.int a2)], [.ref a0])) rfl ?_
          obtain ⟨value36, e37, H⟩ := am_bd H
          refine am_G.gR rfl e37 ?_
          refine am_G.fr 1 (g := (40, [some (.ref a0), some (.int a1), some (.int a2)], [.ref a0, .ref value36])) rfl ?_
          obtain ⟨at38, e39, H⟩ := am_bd H
          refine am_G.gI rfl e39 ?_
          obtain ⟨x40, e41, H⟩ := am_bd H
          refine am_G.aL rfl e41 ?_
          refine am_G.fr 3 (g := (47, [some (.ref a0), some (.int a1), some (.int a2)], [.int (lg_cmp x40 a1.toInt64)])) rfl ?_
          by_cases c42 : (lg_cmp x40 a1.toInt64) < 0
          · rw [if_pos c42] at H
            refine am_G.br (tgt := 65) rfl rfl (if_pos c42) rfl ?_
            refine am_G.fr 2 (g := (67, [some (.ref a0), some (.int a1), some (.int a2)], [.int ((4 : Int32)), .ref a0])) rfl ?_
            obtain ⟨hh44, e43, H⟩ := am_bd H
            refine am_G.cl [.ref a0, .int ((4 : Int32))] [] (am_Cl.mono (by decide) (lX10_wrong e43)) rfl rfl rfl rfl (Nat.le_of_ble_eq_true rfl) ?_
            obtain rfl := Option.some.inj H
            refine am_G.fg [some (.ref a0), none, none] (by simp only [am_sub, and_self]) ?_
            exact am_G.nd rfl
          · rw [if_neg c42] at H
            refine am_G.br (tgt := 50) rfl rfl (if_neg c42) rfl ?_
            refine am_G.fr 1 (g := (51, [some (.ref a0), some (.int a1), some (.int a2)], [.ref a0])) rfl ?_
            obtain ⟨value45, e46, H⟩ := am_bd H
            refine am_G.gR rfl e46 ?_
            refine am_G.fr 1 (g := (55, [some (.ref a0), some (.int a1), some (.int a2)], [.ref a0, .ref value45])) rfl ?_
            obtain ⟨at47, e48, H⟩ := am_bd H
            refine am_G.gI rfl e48 ?_
            obtain ⟨x49, e50, H⟩ := am_bd H
            refine am_G.aL rfl e50 ?_
            refine am_G.fr 3 (g := (62, [some (.ref a0), some (.int a1), some (.int a2)], [.int (lg_cmp x49 a2.toInt64)])) rfl ?_
            by_cases c51 : (lg_cmp x49 a2.toInt64) ≤ 0
            · rw [if_pos c51] at H
              refine am_G.br (tgt := 70) rfl rfl (if_pos c51) rfl ?_
              obtain rfl := Option.some.inj H
              refine am_G.fg [some (.ref a0), none, none] (by simp only [am_sub, and_self]) ?_
              exact am_G.nd rfl
            · rw [if_neg c51] at H
              refine am_G.br (tgt := 65) rfl rfl (if_neg c51) rfl ?_
              refine am_G.fr 2 (g := (67, [some (.ref a0), some (.int a1), some (.int a2)], [.int ((4 : Int32)), .ref a0])) rfl ?_
              obtain ⟨hh53, e52, H⟩ := am_bd H
              refine am_G.cl [.ref a0, .int ((4 : Int32))] [] (am_Cl.mono (by decide) (lX10_wrong e52)) rfl rfl rfl rfl (Nat.le_of_ble_eq_true rfl) ?_
              obtain rfl := Option.some.inj H
              refine am_G.fg [some (.ref a0), none, none] (by simp only [am_sub, and_self]) ?_
              exact am_G.nd rfl
      · rw [if_neg c32] at H
        refine am_G.br (tgt := 20) rfl rfl (if_neg c32) rfl ?_
        refine am_G.fr 2 (g := (22, [some (.ref a0), some (.int a1), some (.int a2)], [.int ((1 : Int32)), .ref a0])) rfl ?_
        obtain ⟨hh55, e54, H⟩ := am_bd H
        refine am_G.cl [.ref a0, .int ((1 : Int32))] [] (am_Cl.mono (by decide) (lX10_wrong e54)) rfl rfl rfl rfl (Nat.le_of_ble_eq_true rfl) ?_
        refine am_G.fr 1 (g := (70, [some (.ref a0), some (.int a1), some (.int a2)], [])) rfl ?_
        obtain rfl := Option.some.inj H
        refine am_G.fg [some (.ref a0), none, none] (by simp only [am_sub, and_self]) ?_
        exact am_G.nd rfl
  · clear E69
    refine am_G.fr 1 (g := (71, [some (.ref a0), none, none], [.ref a0])) rfl ?_
    obtain ⟨fault56, e57, H⟩ := am_bd H
    refine am_G.gI rfl e57 ?_
    by_cases c58 : fault56 ≤ 0
    · rw [if_pos c58] at H
      refine am_G.br (tgt := 79) rfl rfl (if_pos c58) rfl ?_
      refine am_G.fr 2 (g := (81, [some (.ref a0), none, none], [.ref a0, .ref a0])) rfl ?_
      obtain ⟨at59, e60, H⟩ := am_bd H
      refine am_G.gI rfl e60 ?_
      refine am_G.fr 2 (g := (86, [some (.ref a0), none, none], [.int (at59 + ((1 : Int32))), .ref a0])) rfl ?_
      obtain ⟨hh61, e62, H⟩ := am_bd H
      refine am_G.pF rfl e62 ?_
      refine am_G.fr 1 (g := (90, [some (.ref a0), none, none], [.ref a0])) rfl ?_
      obtain ⟨value63, e64, H⟩ := am_bd H
      refine am_G.gR rfl e64 ?_
      refine am_G.fr 1 (g := (94, [some (.ref a0), none, none], [.ref a0, .ref value63])) rfl ?_
      obtain ⟨at65, e66, H⟩ := am_bd H
      refine am_G.gI rfl e66 ?_
      refine am_G.fr 2 (g := (99, [some (.ref a0), none, none], [.int (at65 - ((1 : Int32))), .ref value63])) rfl ?_
      obtain ⟨x67, e68, H⟩ := am_bd H
      refine am_G.aL rfl e68 ?_
      refine am_G.fr 1 (g := (101, [some (.ref a0), none, none], [.int x67.toInt32])) rfl ?_
      obtain ⟨rfl, rfl⟩ := am_inj2 H
      exact am_G.nd ⟨rfl, rfl⟩
    · rw [if_neg c58] at H
      refine am_G.br (tgt := 77) rfl rfl (if_neg c58) rfl ?_
      refine am_G.fr 1 (g := (78, [some (.ref a0), none, none], [.int ((0 : Int32))])) rfl ?_
      obtain ⟨rfl, rfl⟩ := am_inj2 H
      exact am_G.nd ⟨rfl, rfl⟩
def fX10_takeAfter (a0 : Nat) (a1 : Int32) (a2 : Int32) (a3 : Int32) (h : am_H) : Option (Int32 × am_H) :=
  (am_isO h a0 9).bind fun _ =>
  (fX10_takeWord a0 a1 h).bind fun hh2 =>
  am_b2 (fX10_takeNumber a0 a2 a3 hh2) fun x4 hh5 =>
  some (x4, hh5)
set_option maxHeartbeats 4000000 in
set_option maxRecDepth 100000 in
theorem lX10_takeAfter {sc : Nat × (Nat → Int32)} {a0 : Nat} {a1 : Int32} {a2 : Int32} {a3 : Int32} {h : am_H} {r : Int32} {h1 : am_H} (H : fX10_takeAfter a0 a1 a2 a3 h = some (r, h1)) : am_Cl am_T am_N sc 4 153 [.ref a0, .int a1, .int a2, .int a3] h (some (.int r)) h1 := by
  unfold fX10_takeAfter at H
  obtain ⟨_, hO, H⟩ := am_bd H
  obtain ⟨fs0, hO⟩ := am_isO_ok hO
  refine am_mk (q := qX10_takeAfter) rfl (fun _ => ⟨_, _, _, _, _, rfl, hO, rfl, rfl⟩) (fun z => absurd z (by decide)) (Nat.le_of_ble_eq_true rfl) rfl ?_
  show am_G sc (am_Cl am_T am_N sc 3) (am_at kX10_takeAfter) (fun t => t.2 = h1 ∧ am_ret 1 (am_at kX10_takeAfter) t.1 = some (some (.int r))) ((0, [some (.ref a0), some (.int a1), some (.int a2), some (.int a3)], []), h)
  refine am_G.fr 2 (g := (2, [some (.ref a0), some (.int a1), some (.int a2), some (.int a3)], [.int a1, .ref a0])) rfl ?_
  obtain ⟨hh2, e1, H⟩ := am_bd H
  refine am_G.cl [.ref a0, .int a1] [] (am_Cl.mono (by decide) (lX10_takeWord e1)) rfl rfl rfl rfl (Nat.le_of_ble_eq_true rfl) ?_
  refine am_G.fr 3 (g := (8, [some (.ref a0), some (.int a1), some (.int a2), some (.int a3)], [.int a3, .int a2, .ref a0])) rfl ?_
  obtain ⟨x4, hh5, e3, H⟩ := am_bd2 H
  refine am_G.cl [.ref a0, .int a2, .int a3] [] (am_Cl.mono (by decide) (lX10_takeNumber e3)) rfl rfl rfl rfl (Nat.le_of_ble_eq_true rfl) ?_
  obtain ⟨rfl, rfl⟩ := am_inj2 H
  exact am_G.nd ⟨rfl, rfl⟩
def fX10_wordHere_L5 : Nat → Nat → Int32 → Int32 → Int32 → Int32 → am_H → Option (Int32)
  | 0, _, _, _, _, _, _ => none
  | n + 1, v0, v1, v2, v3, v4, h =>
    if v2 ≤ v4 then
      some v3
    else
      (fX10_isWord v0 (v1 + v4) h).bind fun x3 =>
      Option.bind (
        if x3 = 0 then
          some v3
        else
          some v4) fun js4 =>
      fX10_wordHere_L5 n v0 v1 v2 js4 (v4 + (1 : Int32)) h
def fX10_wordHere (a0 : Nat) (a1 : Int32) (a2 : Int32) (h : am_H) : Option (Int32) :=
  (am_isO h a0 9).bind fun _ =>
  Option.bind (fX10_wordHere_L5 4000 a0 a1 a2 ((-1 : Int32)) ((0 : Int32)) h) fun lw7 =>
  some lw7
set_option maxHeartbeats 4000000 in
set_option maxRecDepth 100000 in
theorem lX10_wordHere_L5 {sc : Nat × (Nat → Int32)} : ∀ (n : Nat) (v0 : Nat) (v1 : Int32) (v2 : Int32) (v3 : Int32) (v4 : Int32) (h : am_H) (w3 : Int32), fX10_wordHere_L5 n v0 v1 v2 v3 v4 h = some w3 → am_G sc (am_Cl am_T am_N sc 1) (am_at kX10_wordHere) (fun t => t = ((35, [none, none, none, some (.int w3), none], []), h)) ((5, [some (.ref v0), some (.int v1), some (.int v2), some (.int v3), some (.int v4)], []), h) := by
  intro n
  induction n with
  | zero => intro _ _ _ _ _ _ _ H; cases H
  | succ n ih =>
    intro v0 v1 v2 v3 v4 h w3 H
    rw [fX10_wordHere_L5] at H
    refine am_G.fr 2 (g := (8, [some (.ref v0), some (.int v1), some (.int v2), some (.int v3), some (.int v4)], [.int v2, .int v4])) rfl ?_
    by_cases c1 : v2 ≤ v4
    · rw [if_pos c1] at H
      refine am_G.br (tgt := 35) rfl rfl (if_pos c1) rfl ?_
      obtain rfl := Option.some.inj H
      refine am_G.fg [none, none, none, some (.int v3), none] (by simp only [am_sub, and_self]) ?_
      exact am_G.nd rfl
    · rw [if_neg c1] at H
      refine am_G.br (tgt := 11) rfl rfl (if_neg c1) rfl ?_
      refine am_G.fr 4 (g := (16, [some (.ref v0), some (.int v1), some (.int v2), some (.int v3), some (.int v4)], [.int (v1 + v4), .ref v0])) rfl ?_
      obtain ⟨x3, e2, H⟩ := am_bd H
      refine am_G.cl [.ref v0, .int (v1 + v4)] [] (am_Cl.mono (by decide) (lX10_isWord e2)) rfl rfl rfl rfl (Nat.le_of_ble_eq_true rfl) ?_
      obtain ⟨js4, E6, H⟩ := am_bd H
      refine am_G.sq (t := ((28, [some (.ref v0), some (.int v1), some (.int v2), none, some (.int v4)], [.int js4]), h)) ?_ ?_
      · clear H
        have H := E6
        clear E6
        by_cases c5 : x3 = 0
        · rw [if_pos c5] at H
          refine am_G.br (tgt := 27) rfl rfl (if_pos c5) rfl ?_
          refine am_G.fr 1 (g := (28, [some (.ref v0), some (.int v1), some (.int v2), some (.int v3), some (.int v4)], [.int v3])) rfl ?_
          obtain rfl := Option.some.inj H
          refine am_G.fg [some (.ref v0), some (.int v1), some (.int v2), none, some (.int v4)] (by simp only [am_sub, and_self]) ?_
          exact am_G.nd rfl
        · rw [if_neg c5] at H
          refine am_G.br (tgt := 22) rfl rfl (if_neg c5) rfl ?_
          refine am_G.fr 2 (g := (28, [some (.ref v0), some (.int v1), some (.int v2), some (.int v3), some (.int v4)], [.int v4])) rfl ?_
          obtain rfl := Option.some.inj H
          refine am_G.fg [some (.ref v0), some (.int v1), some (.int v2), none, some (.int v4)] (by simp only [am_sub, and_self]) ?_
          exact am_G.nd rfl
      · clear E6
        refine am_G.fr 3 (g := (5, [some (.ref v0), some (.int v1), some (.int v2), some (.int js4), some (.int (v4 + (1 : Int32)))], [])) rfl ?_
        exact ih _ _ _ _ _ _ _ H
set_option maxHeartbeats 4000000 in
set_option maxRecDepth 100000 in
theorem lX10_wordHere {sc : Nat × (Nat → Int32)} {a0 : Nat} {a1 : Int32} {a2 : Int32} {h : am_H} {r : Int32} (H : fX10_wordHere a0 a1 a2 h = some r) : am_Cl am_T am_N sc 2 154 [.ref a0, .int a1, .int a2] h (some (.int r)) h := by
  unfold fX10_wordHere at H
  obtain ⟨_, hO, H⟩ := am_bd H
  obtain ⟨fs0, hO⟩ := am_isO_ok hO
  refine am_mk (q := qX10_wordHere) rfl (fun _ => ⟨_, _, _, _, _, rfl, hO, rfl, rfl⟩) (fun z => absurd z (by decide)) (Nat.le_of_ble_eq_true rfl) rfl ?_
  show am_G sc (am_Cl am_T am_N sc 1) (am_at kX10_wordHere) (fun t => t.2 = h ∧ am_ret 1 (am_at kX10_wordHere) t.1 = some (some (.int r))) ((0, [some (.ref a0), some (.int a1), some (.int a2), none, none], []), h)
  refine am_G.fr 4 (g := (5, [some (.ref a0), some (.int a1), some (.int a2), some (.int ((-1 : Int32))), some (.int ((0 : Int32)))], [])) rfl ?_
  obtain ⟨lw7, E8, H⟩ := am_bd H
  refine am_G.sq (lX10_wordHere_L5 _ _ _ _ _ _ _ _ E8) ?_
  clear E8
  refine am_G.fr 1 (g := (36, [none, none, none, some (.int lw7), none], [.int lw7])) rfl ?_
  obtain rfl := Option.some.inj H
  exact am_G.nd ⟨rfl, rfl⟩
def fX10_takeOne (a0 : Nat) (a1 : Int32) (a2 : Int32) (h : am_H) : Option (Int32 × am_H) :=
  (am_isO h a0 9).bind fun _ =>
  (am_gI h a0 9 8).bind fun fault1 =>
  Option.bind (
    if fault1 ≤ 0 then
      (fX10_wordHere a0 a1 a2 h).bind fun x6 =>
      some x6
    else
      some ((-1 : Int32))) fun js3 =>
  (am_gI h a0 9 8).bind fun fault7 =>
  Option.bind (
    if ¬ fault7 = 0 then
      some h
    else
      if 0 ≤ js3 then
        some h
      else
        (fX10_wrong a0 ((1 : Int32)) h).bind fun hh13 =>
        some hh13) fun hh9 =>
  (am_gI hh9 a0 9 7).bind fun at14 =>
  (am_gI hh9 a0 9 8).bind fun fault16 =>
  Option.bind (
    if fault16 ≤ 0 then
      some ((1 : Int32))
    else
      some ((0 : Int32))) fun js18 =>
  (am_pF hh9 a0 9 7 (.int (at14 + js18))).bind fun hh20 =>
  (am_gI hh20 a0 9 8).bind fun fault22 =>
  Option.bind (
    if fault22 ≤ 0 then
      some js3
    else
      some ((0 : Int32))) fun js24 =>
  some (js24, hh20)
set_option maxHeartbeats 4000000 in
set_option maxRecDepth 100000 in
theorem lX10_takeOne {sc : Nat × (Nat → Int32)} {a0 : Nat} {a1 : Int32} {a2 : Int32} {h : am_H} {r : Int32} {h1 : am_H} (H : fX10_takeOne a0 a1 a2 h = some (r, h1)) : am_Cl am_T am_N sc 3 155 [.ref a0, .int a1, .int a2] h (some (.int r)) h1 := by
  unfold fX10_takeOne at H
  obtain ⟨_, hO, H⟩ := am_bd H
  obtain ⟨fs0, hO⟩ := am_isO_ok hO
  refine am_mk (q := qX10_takeOne) rfl (fun _ => ⟨_, _, _, _, _, rfl, hO, rfl, rfl⟩) (fun z => absurd z (by decide)) (Nat.le_of_ble_eq_true rfl) rfl ?_
  show am_G sc (am_Cl am_T am_N sc 2) (am_at kX10_takeOne) (fun t => t.2 = h1 ∧ am_ret 1 (am_at kX10_takeOne) t.1 = some (some (.int r))) ((0, [some (.ref a0), some (.int a1), some (.int a2), none], []), h)
  refine am_G.fr 1 (g := (1, [some (.ref a0), some (.int a1), some (.int a2), none], [.ref a0])) rfl ?_
  obtain ⟨fault1, e2, H⟩ := am_bd H
  refine am_G.gI rfl e2 ?_
  obtain ⟨js3, E29, H⟩ := am_bd H
  refine am_G.sq (t := ((17, [some (.ref a0), none, none, none], [.int js3]), h)) ?_ ?_
  · clear H
    have H := E29
    clear E29
    by_cases c4 : fault1 ≤ 0
    · rw [if_pos c4] at H
      refine am_G.br (tgt := 11) rfl rfl (if_pos c4) rfl ?_
      refine am_G.fr 3 (g := (14, [some (.ref a0), some (.int a1), some (.int a2), none], [.int a2, .int a1, .ref a0])) rfl ?_
      obtain ⟨x6, e5, H⟩ := am_bd H
      refine am_G.cl [.ref a0, .int a1, .int a2] [] (am_Cl.mono (by decide) (lX10_wordHere e5)) rfl rfl rfl rfl (Nat.le_of_ble_eq_true rfl) ?_
      obtain rfl := Option.some.inj H
      refine am_G.fg [some (.ref a0), none, none, none] (by simp only [am_sub, and_self]) ?_
      exact am_G.nd rfl
    · rw [if_neg c4] at H
      refine am_G.br (tgt := 7) rfl rfl (if_neg c4) rfl ?_
      refine am_G.fr 2 (g := (17, [some (.ref a0), some (.int a1), some (.int a2), none], [.int ((-1 : Int32))])) rfl ?_
      obtain rfl := Option.some.inj H
      refine am_G.fg [some (.ref a0), none, none, none] (by simp only [am_sub, and_self]) ?_
      exact am_G.nd rfl
  · clear E29
    refine am_G.fr 2 (g := (19, [some (.ref a0), none, none, some (.int js3)], [.ref a0])) rfl ?_
    obtain ⟨fault7, e8, H⟩ := am_bd H
    refine am_G.gI rfl e8 ?_
    obtain ⟨hh9, E28, H⟩ := am_bd H
    refine am_G.sq (t := ((34, [some (.ref a0), none, none, some (.int js3)], []), hh9)) ?_ ?_
    · clear H
      have H := E28
      clear E28
      by_cases c10 : ¬ fault7 = 0
      · rw [if_pos c10] at H
        refine am_G.br (tgt := 34) rfl rfl (if_pos c10) rfl ?_
        obtain rfl := Option.some.inj H
        exact am_G.nd rfl
      · rw [if_neg c10] at H
        refine am_G.br (tgt := 25) rfl rfl (if_neg c10) rfl ?_
        refine am_G.fr 1 (g := (26, [some (.ref a0), none, none, some (.int js3)], [.int js3])) rfl ?_
        by_cases c11 : 0 ≤ js3
        · rw [if_pos c11] at H
          refine am_G.br (tgt := 34) rfl rfl (if_pos c11) rfl ?_
          obtain rfl := Option.some.inj H
          exact am_G.nd rfl
        · rw [if_neg c11] at H
          refine am_G.br (tgt := 29) rfl rfl (if_neg c11) rfl ?_
          refine am_G.fr 2 (g := (31, [some (.ref a0), none, none, some (.int js3)], [.int ((1 : Int32)), .ref a0])) rfl ?_
          obtain ⟨hh13, e12, H⟩ := am_bd H
          refine am_G.cl [.ref a0, .int ((1 : Int32))] [] (am_Cl.mono (by decide) (lX10_wrong e12)) rfl rfl rfl rfl (Nat.le_of_ble_eq_true rfl) ?_
          obtain rfl := Option.some.inj H
          exact am_G.nd rfl
    · clear E28
      refine am_G.fr 2 (g := (36, [some (.ref a0), none, none, some (.int js3)], [.ref a0, .ref a0])) rfl ?_
      obtain ⟨at14, e15, H⟩ := am_bd H
      refine am_G.gI rfl e15 ?_
      refine am_G.fr 1 (g := (40, [some (.ref a0), none, none, some (.int js3)], [.ref a0, .int at14, .ref a0])) rfl ?_
      obtain ⟨fault16, e17, H⟩ := am_bd H
      refine am_G.gI rfl e17 ?_
      obtain ⟨js18, E27, H⟩ := am_bd H
      refine am_G.sq (t := ((51, [some (.ref a0), none, none, some (.int js3)], [.int js18, .int at14, .ref a0]), hh9)) ?_ ?_
      · clear H
        have H := E27
        clear E27
        by_cases c19 : fault16 ≤ 0
        · rw [if_pos c19] at H
          refine am_G.br (tgt := 50) rfl rfl (if_pos c19) rfl ?_
          refine am_G.fr 1 (g := (51, [some (.ref a0), none, none, some (.int js3)], [.int ((1 : Int32)), .int at14, .ref a0])) rfl ?_
          obtain rfl := Option.some.inj H
          exact am_G.nd rfl
        · rw [if_neg c19] at H
          refine am_G.br (tgt := 46) rfl rfl (if_neg c19) rfl ?_
          refine am_G.fr 2 (g := (51, [some (.ref a0), none, none, some (.int js3)], [.int ((0 : Int32)), .int at14, .ref a0])) rfl ?_
          obtain rfl := Option.some.inj H
          exact am_G.nd rfl
      · clear E27
        refine am_G.fr 1 (g := (52, [some (.ref a0), none, none, some (.int js3)], [.int (at14 + js18), .ref a0])) rfl ?_
        obtain ⟨hh20, e21, H⟩ := am_bd H
        refine am_G.pF rfl e21 ?_
        refine am_G.fr 1 (g := (56, [some (.ref a0), none, none, some (.int js3)], [.ref a0])) rfl ?_
        obtain ⟨fault22, e23, H⟩ := am_bd H
        refine am_G.gI rfl e23 ?_
        obtain ⟨js24, E26, H⟩ := am_bd H
        refine am_G.sq (t := ((67, [none, none, none, none], [.int js24]), hh20)) ?_ ?_
        · clear H
          have H := E26
          clear E26
          by_cases c25 : fault22 ≤ 0
          · rw [if_pos c25] at H
            refine am_G.br (tgt := 66) rfl rfl (if_pos c25) rfl ?_
            refine am_G.fr 1 (g := (67, [some (.ref a0), none, none, some (.int js3)], [.int js3])) rfl ?_
            obtain rfl := Option.some.inj H
            refine am_G.fg [none, none, none, none] (by simp only [am_sub, and_self]) ?_
            exact am_G.nd rfl
          · rw [if_neg c25] at H
            refine am_G.br (tgt := 62) rfl rfl (if_neg c25) rfl ?_
            refine am_G.fr 2 (g := (67, [some (.ref a0), none, none, some (.int js3)], [.int ((0 : Int32))])) rfl ?_
            obtain rfl := Option.some.inj H
            refine am_G.fg [none, none, none, none] (by simp only [am_sub, and_self]) ?_
            exact am_G.nd rfl
        · clear E26
          obtain ⟨rfl, rfl⟩ := am_inj2 H
          exact am_G.nd ⟨rfl, rfl⟩
def fX10_isName (a0 : Nat) (h : am_H) : Option (Int32) :=
  (am_isO h a0 9).bind fun _ =>
  (am_gI h a0 9 8).bind fun fault1 =>
  Option.bind (
    if ¬ fault1 = 0 then
      some ((0 : Int32))
    else
      (am_gR h a0 9 4).bind fun sort5 =>
      (am_gI h a0 9 7).bind fun at7 =>
      (am_aI h 0 sort5 at7).bind fun x9 =>
      if ¬ x9 = ((1 : Int32)) then
        some ((0 : Int32))
      else
        (fX10_wordHere a0 ((0 : Int32)) ((21 : Int32)) h).bind fun x13 =>
        if 0 ≤ x13 then
          some ((0 : Int32))
        else
          some ((1 : Int32))) fun js3 =>
  (am_z01 js3).bind fun b15 =>
  some b15
set_option maxHeartbeats 4000000 in
set_option maxRecDepth 100000 in
theorem lX10_isName {sc : Nat × (Nat → Int32)} {a0 : Nat} {h : am_H} {r : Int32} (H : fX10_isName a0 h = some r) : am_Cl am_T am_N sc 3 156 [.ref a0] h (some (.int r)) h := by
  unfold fX10_isName at H
  obtain ⟨_, hO, H⟩ := am_bd H
  obtain ⟨fs0, hO⟩ := am_isO_ok hO
  refine am_mk (q := qX10_isName) rfl (fun _ => ⟨_, _, _, _, _, rfl, hO, rfl, rfl⟩) (fun z => absurd z (by decide)) (Nat.le_of_ble_eq_true rfl) rfl ?_
  show am_G sc (am_Cl am_T am_N sc 2) (am_at kX10_isName) (fun t => t.2 = h ∧ am_ret 2 (am_at kX10_isName) t.1 = some (some (.int r))) ((0, [some (.ref a0)], []), h)
  refine am_G.fr 1 (g := (1, [some (.ref a0)], [.ref a0])) rfl ?_
  obtain ⟨fault1, e2, H⟩ := am_bd H
  refine am_G.gI rfl e2 ?_
  obtain ⟨js3, E17, H⟩ := am_bd H
  refine am_G.sq (t := ((35, [none], [.int js3]), h)) ?_ ?_
  · clear H
    have H := E17
    clear E17
    by_cases c4 : ¬ fault1 = 0
    · rw [if_pos c4] at H
      refine am_G.br (tgt := 34) rfl rfl (if_pos c4) rfl ?_
      refine am_G.fr 1 (g := (35, [some (.ref a0)], [.int ((0 : Int32))])) rfl ?_
      obtain rfl := Option.some.inj H
      refine am_G.fg [none] (by simp only [am_sub, and_self]) ?_
      exact am_G.nd rfl
    · rw [if_neg c4] at H
      refine am_G.br (tgt := 7) rfl rfl (if_neg c4) rfl ?_
      refine am_G.fr 1 (g := (8, [some (.ref a0)], [.ref a0])) rfl ?_
      obtain ⟨sort5, e6, H⟩ := am_bd H
      refine am_G.gR rfl e6 ?_
      refine am_G.fr 1 (g := (12, [some (.ref a0)], [.ref a0, .ref sort5])) rfl ?_
      obtain ⟨at7, e8, H⟩ := am_bd H
      refine am_G.gI rfl e8 ?_
      obtain ⟨x9, e10, H⟩ := am_bd H
      refine am_G.aI rfl e10 ?_
      refine am_G.fr 1 (g := (17, [some (.ref a0)], [.int ((1 : Int32)), .int x9])) rfl ?_
      by_cases c11 : ¬ x9 = ((1 : Int32))
      · rw [if_pos c11] at H
        refine am_G.br (tgt := 34) rfl rfl (if_pos c11) rfl ?_
        refine am_G.fr 1 (g := (35, [some (.ref a0)], [.int ((0 : Int32))])) rfl ?_
        obtain rfl := Option.some.inj H
        refine am_G.fg [none] (by simp only [am_sub, and_self]) ?_
        exact am_G.nd rfl
      · rw [if_neg c11] at H
        refine am_G.br (tgt := 20) rfl rfl (if_neg c11) rfl ?_
        refine am_G.fr 3 (g := (24, [some (.ref a0)], [.int ((21 : Int32)), .int ((0 : Int32)), .ref a0])) rfl ?_
        obtain ⟨x13, e12, H⟩ := am_bd H
        refine am_G.cl [.ref a0, .int ((0 : Int32)), .int ((21 : Int32))] [] (am_Cl.mono (by decide) (lX10_wordHere e12)) rfl rfl rfl rfl (Nat.le_of_ble_eq_true rfl) ?_
        by_cases c14 : 0 ≤ x13
        · rw [if_pos c14] at H
          refine am_G.br (tgt := 34) rfl rfl (if_pos c14) rfl ?_
          refine am_G.fr 1 (g := (35, [some (.ref a0)], [.int ((0 : Int32))])) rfl ?_
          obtain rfl := Option.some.inj H
          refine am_G.fg [none] (by simp only [am_sub, and_self]) ?_
          exact am_G.nd rfl
        · rw [if_neg c14] at H
          refine am_G.br (tgt := 30) rfl rfl (if_neg c14) rfl ?_
          refine am_G.fr 2 (g := (35, [some (.ref a0)], [.int ((1 : Int32))])) rfl ?_
          obtain rfl := Option.some.inj H
          refine am_G.fg [none] (by simp only [am_sub, and_self]) ?_
          exact am_G.nd rfl
  · clear E17
    obtain ⟨b15, e16, H⟩ := am_bd H
    obtain rfl := Option.some.inj H
    exact am_G.nd ⟨rfl, am_ret2 rfl e16⟩
def fX10_nameAt_L2 : Nat → Nat → Int32 → Int32 → am_H → Option ((Unit) ⊕ (Int32))
  | 0, _, _, _, _ => none
  | n + 1, v0, v1, v2, h =>
    Option.bind (
      if v1 = 0 then
        (am_gI h v0 9 18).bind fun namesMany3 =>
        some namesMany3
      else
        (am_gI h v0 9 19).bind fun readMany5 =>
        some readMany5) fun js1 =>
    if js1 ≤ v2 then
      some (.inl ())
    else
      Option.bind (
        if v1 = 0 then
          (am_gR h v0 9 14).bind fun names10 =>
          (am_aL h names10 v2).bind fun x12 =>
          some x12
        else
          (am_gR h v0 9 15).bind fun readNames14 =>
          (am_aL h readNames14 v2).bind fun x16 =>
          some x16) fun js8 =>
      (am_gR h v0 9 6).bind fun value18 =>
      (am_gI h v0 9 7).bind fun at20 =>
      (am_aL h value18 at20).bind fun x22 =>
      if ¬ (lg_cmp js8 x22) = 0 then
        fX10_nameAt_L2 n v0 v1 (v2 + (1 : Int32)) h
      else
        Option.bind (
          if v1 = 0 then
            (am_gR h v0 9 16).bind fun nameOf27 =>
            (am_aI h 0 nameOf27 v2).bind fun x29 =>
            some x29
          else
            (am_gR h v0 9 17).bind fun readNameOf31 =>
            (am_aI h 0 readNameOf31 v2).bind fun x33 =>
            some x33) fun js25 =>
        some (.inr js25)
def fX10_nameAt (a0 : Nat) (a1 : Int32) (h : am_H) : Option (Int32) :=
  (am_isO h a0 9).bind fun _ =>
  (fX10_nameAt_L2 4000 a0 a1 ((0 : Int32)) h).bind fun o39 => match o39 with
    | .inl _ =>
      some ((-1 : Int32))
    | .inr y40 => some y40
set_option maxHeartbeats 4000000 in
set_option maxRecDepth 100000 in
theorem lX10_nameAt_L2 {sc : Nat × (Nat → Int32)} : ∀ (n : Nat) (v0 : Nat) (v1 : Int32) (v2 : Int32) (h : am_H) (o : (Unit) ⊕ (Int32)), fX10_nameAt_L2 n v0 v1 v2 h = some o → am_G sc (am_Cl am_T am_N sc 0) (am_at kX10_nameAt) (fun t => match o with
    | .inl _ => t = ((79, [none, none, none], []), h)
    | .inr y => t.2 = h ∧ am_ret 1 (am_at kX10_nameAt) t.1 = some (some (.int y))) ((2, [some (.ref v0), some (.int v1), some (.int v2)], []), h) := by
  intro n
  induction n with
  | zero => intro _ _ _ _ _ H; cases H
  | succ n ih =>
    intro v0 v1 v2 h o H
    rw [fX10_nameAt_L2] at H
    refine am_G.fr 2 (g := (4, [some (.ref v0), some (.int v1), some (.int v2)], [.int v1, .int v2])) rfl ?_
    obtain ⟨js1, E37, H⟩ := am_bd H
    refine am_G.sq (t := ((18, [some (.ref v0), some (.int v1), some (.int v2)], [.int js1, .int v2]), h)) ?_ ?_
    · clear H
      have H := E37
      clear E37
      by_cases c2 : v1 = 0
      · rw [if_pos c2] at H
        refine am_G.br (tgt := 14) rfl rfl (if_pos c2) rfl ?_
        refine am_G.fr 1 (g := (15, [some (.ref v0), some (.int v1), some (.int v2)], [.ref v0, .int v2])) rfl ?_
        obtain ⟨namesMany3, e4, H⟩ := am_bd H
        refine am_G.gI rfl e4 ?_
        obtain rfl := Option.some.inj H
        exact am_G.nd rfl
      · rw [if_neg c2] at H
        refine am_G.br (tgt := 7) rfl rfl (if_neg c2) rfl ?_
        refine am_G.fr 1 (g := (8, [some (.ref v0), some (.int v1), some (.int v2)], [.ref v0, .int v2])) rfl ?_
        obtain ⟨readMany5, e6, H⟩ := am_bd H
        refine am_G.gI rfl e6 ?_
        refine am_G.fr 1 (g := (18, [some (.ref v0), some (.int v1), some (.int v2)], [.int readMany5, .int v2])) rfl ?_
        obtain rfl := Option.some.inj H
        exact am_G.nd rfl
    · clear E37
      by_cases c7 : js1 ≤ v2
      · rw [if_pos c7] at H
        refine am_G.br (tgt := 79) rfl rfl (if_pos c7) rfl ?_
        obtain rfl := Option.some.inj H
        refine am_G.fg [none, none, none] (by simp only [am_sub, and_self]) ?_
        exact am_G.nd rfl
      · rw [if_neg c7] at H
        refine am_G.br (tgt := 21) rfl rfl (if_neg c7) rfl ?_
        refine am_G.fr 1 (g := (22, [some (.ref v0), some (.int v1), some (.int v2)], [.int v1])) rfl ?_
        obtain ⟨js8, E36, H⟩ := am_bd H
        refine am_G.sq (t := ((40, [some (.ref v0), some (.int v1), some (.int v2)], [.long js8]), h)) ?_ ?_
        · clear H
          have H := E36
          clear E36
          by_cases c9 : v1 = 0
          · rw [if_pos c9] at H
            refine am_G.br (tgt := 34) rfl rfl (if_pos c9) rfl ?_
            refine am_G.fr 1 (g := (35, [some (.ref v0), some (.int v1), some (.int v2)], [.ref v0])) rfl ?_
            obtain ⟨names10, e11, H⟩ := am_bd H
            refine am_G.gR rfl e11 ?_
            refine am_G.fr 1 (g := (39, [some (.ref v0), some (.int v1), some (.int v2)], [.int v2, .ref names10])) rfl ?_
            obtain ⟨x12, e13, H⟩ := am_bd H
            refine am_G.aL rfl e13 ?_
            obtain rfl := Option.some.inj H
            exact am_G.nd rfl
          · rw [if_neg c9] at H
            refine am_G.br (tgt := 25) rfl rfl (if_neg c9) rfl ?_
            refine am_G.fr 1 (g := (26, [some (.ref v0), some (.int v1), some (.int v2)], [.ref v0])) rfl ?_
            obtain ⟨readNames14, e15, H⟩ := am_bd H
            refine am_G.gR rfl e15 ?_
            refine am_G.fr 1 (g := (30, [some (.ref v0), some (.int v1), some (.int v2)], [.int v2, .ref readNames14])) rfl ?_
            obtain ⟨x16, e17, H⟩ := am_bd H
            refine am_G.aL rfl e17 ?_
            refine am_G.fr 1 (g := (40, [some (.ref v0), some (.int v1), some (.int v2)], [.long x16])) rfl ?_
            obtain rfl := Option.some.inj H
            exact am_G.nd rfl
        · clear E36
          refine am_G.fr 1 (g := (41, [some (.ref v0), some (.int v1), some (.int v2)], [.ref v0, .long js8])) rfl ?_
          obtain ⟨value18, e19, H⟩ := am_bd H
          refine am_G.gR rfl e19 ?_
          refine am_G.fr 1 (g := (45, [some (.ref v0), some (.int v1), some (.int v2)], [.ref v0, .ref value18, .long js8])) rfl ?_
          obtain ⟨at20, e21, H⟩ := am_bd H
          refine am_G.gI rfl e21 ?_
          obtain ⟨x22, e23, H⟩ := am_bd H
          refine am_G.aL rfl e23 ?_
          refine am_G.fr 1 (g := (50, [some (.ref v0), some (.int v1), some (.int v2)], [.int (lg_cmp js8 x22)])) rfl ?_
          by_cases c24 : ¬ (lg_cmp js8 x22) = 0
          · rw [if_pos c24] at H
            refine am_G.br (tgt := 73) rfl rfl (if_pos c24) rfl ?_
            refine am_G.fr 2 (g := (2, [some (.ref v0), some (.int v1), some (.int (v2 + (1 : Int32)))], [])) rfl ?_
            exact ih _ _ _ _ _ H
          · rw [if_neg c24] at H
            refine am_G.br (tgt := 53) rfl rfl (if_neg c24) rfl ?_
            refine am_G.fr 1 (g := (54, [some (.ref v0), some (.int v1), some (.int v2)], [.int v1])) rfl ?_
            obtain ⟨js25, E35, H⟩ := am_bd H
            refine am_G.sq (t := ((72, [none, none, none], [.int js25]), h)) ?_ ?_
            · clear H
              have H := E35
              clear E35
              by_cases c26 : v1 = 0
              · rw [if_pos c26] at H
                refine am_G.br (tgt := 66) rfl rfl (if_pos c26) rfl ?_
                refine am_G.fr 1 (g := (67, [some (.ref v0), some (.int v1), some (.int v2)], [.ref v0])) rfl ?_
                obtain ⟨nameOf27, e28, H⟩ := am_bd H
                refine am_G.gR rfl e28 ?_
                refine am_G.fr 1 (g := (71, [some (.ref v0), some (.int v1), some (.int v2)], [.int v2, .ref nameOf27])) rfl ?_
                obtain ⟨x29, e30, H⟩ := am_bd H
                refine am_G.aI rfl e30 ?_
                obtain rfl := Option.some.inj H
                refine am_G.fg [none, none, none] (by simp only [am_sub, and_self]) ?_
                exact am_G.nd rfl
              · rw [if_neg c26] at H
                refine am_G.br (tgt := 57) rfl rfl (if_neg c26) rfl ?_
                refine am_G.fr 1 (g := (58, [some (.ref v0), some (.int v1), some (.int v2)], [.ref v0])) rfl ?_
                obtain ⟨readNameOf31, e32, H⟩ := am_bd H
                refine am_G.gR rfl e32 ?_
                refine am_G.fr 1 (g := (62, [some (.ref v0), some (.int v1), some (.int v2)], [.int v2, .ref readNameOf31])) rfl ?_
                obtain ⟨x33, e34, H⟩ := am_bd H
                refine am_G.aI rfl e34 ?_
                refine am_G.fr 1 (g := (72, [some (.ref v0), some (.int v1), some (.int v2)], [.int x33])) rfl ?_
                obtain rfl := Option.some.inj H
                refine am_G.fg [none, none, none] (by simp only [am_sub, and_self]) ?_
                exact am_G.nd rfl
            · clear E35
              obtain rfl := Option.some.inj H
              exact am_G.nd ⟨rfl, rfl⟩
set_option maxHeartbeats 4000000 in
set_option maxRecDepth 100000 in
theorem lX10_nameAt {sc : Nat × (Nat → Int32)} {a0 : Nat} {a1 : Int32} {h : am_H} {r : Int32} (H : fX10_nameAt a0 a1 h = some r) : am_Cl am_T am_N sc 1 157 [.ref a0, .int a1] h (some (.int r)) h := by
  unfold fX10_nameAt at H
  obtain ⟨_, hO, H⟩ := am_bd H
  obtain ⟨fs0, hO⟩ := am_isO_ok hO
  refine am_mk (q := qX10_nameAt) rfl (fun _ => ⟨_, _, _, _, _, rfl, hO, rfl, rfl⟩) (fun z => absurd z (by decide)) (Nat.le_of_ble_eq_true rfl) rfl ?_
  show am_G sc (am_Cl am_T am_N sc 0) (am_at kX10_nameAt) (fun t => t.2 = h ∧ am_ret 1 (am_at kX10_nameAt) t.1 = some (some (.int r))) ((0, [some (.ref a0), some (.int a1), none], []), h)
  refine am_G.fr 2 (g := (2, [some (.ref a0), some (.int a1), some (.int ((0 : Int32)))], [])) rfl ?_
  obtain ⟨o39, E38, H⟩ := am_bd H
  have hL := lX10_nameAt_L2 (sc := sc) _ _ _ _ _ _ E38
  clear E38
  rcases o39 with _ | y40
  · dsimp only at H
    refine am_G.sq hL ?_
    refine am_G.fr 1 (g := (80, [none, none, none], [.int ((-1 : Int32))])) rfl ?_
    obtain rfl := Option.some.inj H
    exact am_G.nd ⟨rfl, rfl⟩
  · dsimp only at H
    obtain rfl := Option.some.inj H
    exact hL
def fX10_takeTold (a0 : Nat) (a1 : Int32) (a2 : Int32) (a3 : Int32) (h : am_H) : Option (Int32 × am_H) :=
  (am_isO h a0 9).bind fun _ =>
  (am_gI h a0 9 8).bind fun fault1 =>
  Option.bind (
    if ¬ fault1 = 0 then
      some h
    else
      (fX10_isName a0 h).bind fun x6 =>
      if ¬ x6 = 0 then
        some h
      else
        (fX10_wrong a0 ((1 : Int32)) h).bind fun hh9 =>
        some hh9) fun hh3 =>
  (am_gI hh3 a0 9 8).bind fun fault10 =>
  Option.bind (
    if fault10 ≤ 0 then
      (fX10_nameAt a0 a1 hh3).bind fun x15 =>
      some (x15 - a2)
    else
      some ((-1 : Int32))) fun js12 =>
  (am_gI hh3 a0 9 8).bind fun fault16 =>
  Option.bind (
    if ¬ fault16 = 0 then
      (am_gI hh3 a0 9 8).bind fun fault20 =>
      if ¬ fault20 = 0 then
        some hh3
      else
        if ¬ ((a3 >>> (js12 &&& 31)) &&& ((1 : Int32))) = ((1 : Int32)) then
          some hh3
        else
          (fX10_wrong a0 ((3 : Int32)) hh3).bind fun hh25 =>
          some hh25
    else
      (fX10_within js12 ((0 : Int32)) ((5 : Int32)) hh3).bind fun x27 =>
      if ¬ x27 = 0 then
        (am_gI hh3 a0 9 8).bind fun fault29 =>
        if ¬ fault29 = 0 then
          some hh3
        else
          if ¬ ((a3 >>> (js12 &&& 31)) &&& ((1 : Int32))) = ((1 : Int32)) then
            some hh3
          else
            (fX10_wrong a0 ((3 : Int32)) hh3).bind fun hh34 =>
            some hh34
      else
        (fX10_wrong a0 ((2 : Int32)) hh3).bind fun hh36 =>
        some hh36) fun hh18 =>
  (am_gI hh18 a0 9 7).bind fun at37 =>
  (am_gI hh18 a0 9 8).bind fun fault39 =>
  Option.bind (
    if fault39 ≤ 0 then
      some ((1 : Int32))
    else
      some ((0 : Int32))) fun js41 =>
  (am_pF hh18 a0 9 7 (.int (at37 + js41))).bind fun hh43 =>
  (am_gI hh43 a0 9 8).bind fun fault45 =>
  Option.bind (
    if fault45 ≤ 0 then
      some js12
    else
      some ((0 : Int32))) fun js47 =>
  some (js47, hh43)
set_option maxHeartbeats 4000000 in
set_option maxRecDepth 100000 in
theorem lX10_takeTold {sc : Nat × (Nat → Int32)} {a0 : Nat} {a1 : Int32} {a2 : Int32} {a3 : Int32} {h : am_H} {r : Int32} {h1 : am_H} (H : fX10_takeTold a0 a1 a2 a3 h = some (r, h1)) : am_Cl am_T am_N sc 4 158 [.ref a0, .int a1, .int a2, .int a3] h (some (.int r)) h1 := by
  unfold fX10_takeTold at H
  obtain ⟨_, hO, H⟩ := am_bd H
  obtain ⟨fs0, hO⟩ := am_isO_ok hO
  refine am_mk (q := qX10_takeTold) rfl (fun _ => ⟨_, _, _, _, _, rfl, hO, rfl, rfl⟩) (fun z => absurd z (by decide)) (Nat.le_of_ble_eq_true rfl) rfl ?_
  show am_G sc (am_Cl am_T am_N sc 3) (am_at kX10_takeTold) (fun t => t.2 = h1 ∧ am_ret 1 (am_at kX10_takeTold) t.1 = some (some (.int r))) ((0, [some (.ref a0), some (.int a1), some (.int a2), some (.int a3), none], []), h)
  refine am_G.fr 1 (g := (1, [some (.ref a0), some (.int a1), some (.int a2), some (.int a3), none], [.ref a0])) rfl ?_
  obtain ⟨fault1, e2, H⟩ := am_bd H
  refine am_G.gI rfl e2 ?_
  obtain ⟨hh3, E53, H⟩ := am_bd H
  refine am_G.sq (t := ((19, [some (.ref a0), some (.int a1), some (.int a2), some (.int a3), none], []), hh3)) ?_ ?_
  · clear H
    have H := E53
    clear E53
    by_cases c4 : ¬ fault1 = 0
    · rw [if_pos c4] at H
      refine am_G.br (tgt := 19) rfl rfl (if_pos c4) rfl ?_
      obtain rfl := Option.some.inj H
      exact am_G.nd rfl
    · rw [if_neg c4] at H
      refine am_G.br (tgt := 7) rfl rfl (if_neg c4) rfl ?_
      refine am_G.fr 1 (g := (8, [some (.ref a0), some (.int a1), some (.int a2), some (.int a3), none], [.ref a0])) rfl ?_
      obtain ⟨x6, e5, H⟩ := am_bd H
      refine am_G.cl [.ref a0] [] (am_Cl.mono (by decide) (lX10_isName e5)) rfl rfl rfl rfl (Nat.le_of_ble_eq_true rfl) ?_
      by_cases c7 : ¬ x6 = 0
      · rw [if_pos c7] at H
        refine am_G.br (tgt := 19) rfl rfl (if_pos c7) rfl ?_
        obtain rfl := Option.some.inj H
        exact am_G.nd rfl
      · rw [if_neg c7] at H
        refine am_G.br (tgt := 14) rfl rfl (if_neg c7) rfl ?_
        refine am_G.fr 2 (g := (16, [some (.ref a0), some (.int a1), some (.int a2), some (.int a3), none], [.int ((1 : Int32)), .ref a0])) rfl ?_
        obtain ⟨hh9, e8, H⟩ := am_bd H
        refine am_G.cl [.ref a0, .int ((1 : Int32))] [] (am_Cl.mono (by decide) (lX10_wrong e8)) rfl rfl rfl rfl (Nat.le_of_ble_eq_true rfl) ?_
        obtain rfl := Option.some.inj H
        exact am_G.nd rfl
  · clear E53
    refine am_G.fr 1 (g := (20, [some (.ref a0), some (.int a1), some (.int a2), some (.int a3), none], [.ref a0])) rfl ?_
    obtain ⟨fault10, e11, H⟩ := am_bd H
    refine am_G.gI rfl e11 ?_
    obtain ⟨js12, E52, H⟩ := am_bd H
    refine am_G.sq (t := ((37, [some (.ref a0), none, none, some (.int a3), none], [.int js12]), hh3)) ?_ ?_
    · clear H
      have H := E52
      clear E52
      by_cases c13 : fault10 ≤ 0
      · rw [if_pos c13] at H
        refine am_G.br (tgt := 30) rfl rfl (if_pos c13) rfl ?_
        refine am_G.fr 2 (g := (32, [some (.ref a0), some (.int a1), some (.int a2), some (.int a3), none], [.int a1, .ref a0])) rfl ?_
        obtain ⟨x15, e14, H⟩ := am_bd H
        refine am_G.cl [.ref a0, .int a1] [] (am_Cl.mono (by decide) (lX10_nameAt e14)) rfl rfl rfl rfl (Nat.le_of_ble_eq_true rfl) ?_
        refine am_G.fr 2 (g := (37, [some (.ref a0), some (.int a1), some (.int a2), some (.int a3), none], [.int (x15 - a2)])) rfl ?_
        obtain rfl := Option.some.inj H
        refine am_G.fg [some (.ref a0), none, none, some (.int a3), none] (by simp only [am_sub, and_self]) ?_
        exact am_G.nd rfl
      · rw [if_neg c13] at H
        refine am_G.br (tgt := 26) rfl rfl (if_neg c13) rfl ?_
        refine am_G.fr 2 (g := (37, [some (.ref a0), some (.int a1), some (.int a2), some (.int a3), none], [.int ((-1 : Int32))])) rfl ?_
        obtain rfl := Option.some.inj H
        refine am_G.fg [some (.ref a0), none, none, some (.int a3), none] (by simp only [am_sub, and_self]) ?_
        exact am_G.nd rfl
    · clear E52
      refine am_G.fr 2 (g := (40, [some (.ref a0), none, none, some (.int a3), some (.int js12)], [.ref a0])) rfl ?_
      obtain ⟨fault16, e17, H⟩ := am_bd H
      refine am_G.gI rfl e17 ?_
      obtain ⟨hh18, E51, H⟩ := am_bd H
      refine am_G.sq (t := ((86, [some (.ref a0), none, none, none, some (.int js12)], []), hh18)) ?_ ?_
      · clear H
        have H := E51
        clear E51
        by_cases c19 : ¬ fault16 = 0
        · rw [if_pos c19] at H
          refine am_G.br (tgt := 64) rfl rfl (if_pos c19) rfl ?_
          refine am_G.fr 1 (g := (65, [some (.ref a0), none, none, some (.int a3), some (.int js12)], [.ref a0])) rfl ?_
          obtain ⟨fault20, e21, H⟩ := am_bd H
          refine am_G.gI rfl e21 ?_
          by_cases c22 : ¬ fault20 = 0
          · rw [if_pos c22] at H
            refine am_G.br (tgt := 86) rfl rfl (if_pos c22) rfl ?_
            obtain rfl := Option.some.inj H
            refine am_G.fg [some (.ref a0), none, none, none, some (.int js12)] (by simp only [am_sub, and_self]) ?_
            exact am_G.nd rfl
          · rw [if_neg c22] at H
            refine am_G.br (tgt := 71) rfl rfl (if_neg c22) rfl ?_
            refine am_G.fr 6 (g := (78, [some (.ref a0), none, none, some (.int a3), some (.int js12)], [.int ((1 : Int32)), .int ((a3 >>> (js12 &&& 31)) &&& ((1 : Int32)))])) rfl ?_
            by_cases c23 : ¬ ((a3 >>> (js12 &&& 31)) &&& ((1 : Int32))) = ((1 : Int32))
            · rw [if_pos c23] at H
              refine am_G.br (tgt := 86) rfl rfl (if_pos c23) rfl ?_
              obtain rfl := Option.some.inj H
              refine am_G.fg [some (.ref a0), none, none, none, some (.int js12)] (by simp only [am_sub, and_self]) ?_
              exact am_G.nd rfl
            · rw [if_neg c23] at H
              refine am_G.br (tgt := 81) rfl rfl (if_neg c23) rfl ?_
              refine am_G.fr 2 (g := (83, [some (.ref a0), none, none, some (.int a3), some (.int js12)], [.int ((3 : Int32)), .ref a0])) rfl ?_
              obtain ⟨hh25, e24, H⟩ := am_bd H
              refine am_G.cl [.ref a0, .int ((3 : Int32))] [] (am_Cl.mono (by decide) (lX10_wrong e24)) rfl rfl rfl rfl (Nat.le_of_ble_eq_true rfl) ?_
              obtain rfl := Option.some.inj H
              refine am_G.fg [some (.ref a0), none, none, none, some (.int js12)] (by simp only [am_sub, and_self]) ?_
              exact am_G.nd rfl
        · rw [if_neg c19] at H
          refine am_G.br (tgt := 46) rfl rfl (if_neg c19) rfl ?_
          refine am_G.fr 3 (g := (50, [some (.ref a0), none, none, some (.int a3), some (.int js12)], [.int ((5 : Int32)), .int ((0 : Int32)), .int js12])) rfl ?_
          obtain ⟨x27, e26, H⟩ := am_bd H
          refine am_G.cl [.int js12, .int ((0 : Int32)), .int ((5 : Int32))] [] (am_Cl.mono (by decide) (lX10_within e26)) rfl rfl rfl rfl (Nat.le_of_ble_eq_true rfl) ?_
          by_cases c28 : ¬ x27 = 0
          · rw [if_pos c28] at H
            refine am_G.br (tgt := 64) rfl rfl (if_pos c28) rfl ?_
            refine am_G.fr 1 (g := (65, [some (.ref a0), none, none, some (.int a3), some (.int js12)], [.ref a0])) rfl ?_
            obtain ⟨fault29, e30, H⟩ := am_bd H
            refine am_G.gI rfl e30 ?_
            by_cases c31 : ¬ fault29 = 0
            · rw [if_pos c31] at H
              refine am_G.br (tgt := 86) rfl rfl (if_pos c31) rfl ?_
              obtain rfl := Option.some.inj H
              refine am_G.fg [some (.ref a0), none, none, none, some (.int js12)] (by simp only [am_sub, and_self]) ?_
              exact am_G.nd rfl
            · rw [if_neg c31] at H
              refine am_G.br (tgt := 71) rfl rfl (if_neg c31) rfl ?_
              refine am_G.fr 6 (g := (78, [some (.ref a0), none, none, some (.int a3), some (.int js12)], [.int ((1 : Int32)), .int ((a3 >>> (js12 &&& 31)) &&& ((1 : Int32)))])) rfl ?_
              by_cases c32 : ¬ ((a3 >>> (js12 &&& 31)) &&& ((1 : Int32))) = ((1 : Int32))
              · rw [if_pos c32] at H
                refine am_G.br (tgt := 86) rfl rfl (if_pos c32) rfl ?_
                obtain rfl := Option.some.inj H
                refine am_G.fg [some (.ref a0), none, none, none, some (.int js12)] (by simp only [am_sub, and_self]) ?_
                exact am_G.nd rfl
              · rw [if_neg c32] at H
                refine am_G.br (tgt := 81) rfl rfl (if_neg c32) rfl ?_
                refine am_G.fr 2 (g := (83, [some (.ref a0), none, none, some (.int a3), some (.int js12)], [.int ((3 : Int32)), .ref a0])) rfl ?_
                obtain ⟨hh34, e33, H⟩ := am_bd H
                refine am_G.cl [.ref a0, .int ((3 : Int32))] [] (am_Cl.mono (by decide) (lX10_wrong e33)) rfl rfl rfl rfl (Nat.le_of_ble_eq_true rfl) ?_
                obtain rfl := Option.some.inj H
                refine am_G.fg [some (.ref a0), none, none, none, some (.int js12)] (by simp only [am_sub, and_self]) ?_
                exact am_G.nd rfl
          · rw [if_neg c28] at H
            refine am_G.br (tgt := 56) rfl rfl (if_neg c28) rfl ?_
            refine am_G.fr 2 (g := (58, [some (.ref a0), none, none, some (.int a3), some (.int js12)], [.int ((2 : Int32)), .ref a0])) rfl ?_
            obtain ⟨hh36, e35, H⟩ := am_bd H
            refine am_G.cl [.ref a0, .int ((2 : Int32))] [] (am_Cl.mono (by decide) (lX10_wrong e35)) rfl rfl rfl rfl (Nat.le_of_ble_eq_true rfl) ?_
            refine am_G.fr 1 (g := (86, [some (.ref a0), none, none, some (.int a3), some (.int js12)], [])) rfl ?_
            obtain rfl := Option.some.inj H
            refine am_G.fg [some (.ref a0), none, none, none, some (.int js12)] (by simp only [am_sub, and_self]) ?_
            exact am_G.nd rfl
      · clear E51
        refine am_G.fr 2 (g := (88, [some (.ref a0), none, none, none, some (.int js12)], [.ref a0, .ref a0])) rfl ?_
        obtain ⟨at37, e38, H⟩ := am_bd H
        refine am_G.gI rfl e38 ?_
        refine am_G.fr 1 (g := (92, [some (.ref a0), none, none, none, some (.int js12)], [.ref a0, .int at37, .ref a0])) rfl ?_
        obtain ⟨fault39, e40, H⟩ := am_bd H
        refine am_G.gI rfl e40 ?_
        obtain ⟨js41, E50, H⟩ := am_bd H
        refine am_G.sq (t := ((103, [some (.ref a0), none, none, none, some (.int js12)], [.int js41, .int at37, .ref a0]), hh18)) ?_ ?_
        · clear H
          have H := E50
          clear E50
          by_cases c42 : fault39 ≤ 0
          · rw [if_pos c42] at H
            refine am_G.br (tgt := 102) rfl rfl (if_pos c42) rfl ?_
            refine am_G.fr 1 (g := (103, [some (.ref a0), none, none, none, some (.int js12)], [.int ((1 : Int32)), .int at37, .ref a0])) rfl ?_
            obtain rfl := Option.some.inj H
            exact am_G.nd rfl
          · rw [if_neg c42] at H
            refine am_G.br (tgt := 98) rfl rfl (if_neg c42) rfl ?_
            refine am_G.fr 2 (g := (103, [some (.ref a0), none, none, none, some (.int js12)], [.int ((0 : Int32)), .int at37, .ref a0])) rfl ?_
            obtain rfl := Option.some.inj H
            exact am_G.nd rfl
        · clear E50
          refine am_G.fr 1 (g := (104, [some (.ref a0), none, none, none, some (.int js12)], [.int (at37 + js41), .ref a0])) rfl ?_
          obtain ⟨hh43, e44, H⟩ := am_bd H
          refine am_G.pF rfl e44 ?_
          refine am_G.fr 1 (g := (108, [some (.ref a0), none, none, none, some (.int js12)], [.ref a0])) rfl ?_
          obtain ⟨fault45, e46, H⟩ := am_bd H
          refine am_G.gI rfl e46 ?_
          obtain ⟨js47, E49, H⟩ := am_bd H
          refine am_G.sq (t := ((120, [none, none, none, none, none], [.int js47]), hh43)) ?_ ?_
          · clear H
            have H := E49
            clear E49
            by_cases c48 : fault45 ≤ 0
            · rw [if_pos c48] at H
              refine am_G.br (tgt := 118) rfl rfl (if_pos c48) rfl ?_
              refine am_G.fr 1 (g := (120, [some (.ref a0), none, none, none, some (.int js12)], [.int js12])) rfl ?_
              obtain rfl := Option.some.inj H
              refine am_G.fg [none, none, none, none, none] (by simp only [am_sub, and_self]) ?_
              exact am_G.nd rfl
            · rw [if_neg c48] at H
              refine am_G.br (tgt := 114) rfl rfl (if_neg c48) rfl ?_
              refine am_G.fr 2 (g := (120, [some (.ref a0), none, none, none, some (.int js12)], [.int ((0 : Int32))])) rfl ?_
              obtain rfl := Option.some.inj H
              refine am_G.fg [none, none, none, none, none] (by simp only [am_sub, and_self]) ?_
              exact am_G.nd rfl
          · clear E49
            obtain ⟨rfl, rfl⟩ := am_inj2 H
            exact am_G.nd ⟨rfl, rfl⟩
def fX10_readName (a0 : Nat) (a1 : Int32) (a2 : Int32) (a3 : Int32) (h : am_H) : Option (am_H) :=
  (am_isO h a0 9).bind fun _ =>
  (am_gR h a0 9 10).bind fun vales1 =>
  (am_aI h 0 vales1 (((50 : Int32)) + a1)).bind fun x3 =>
  if ¬ x3 = a2 then
    (am_gI h a0 9 7).bind fun at6 =>
    (am_pF h a0 9 7 (.int (at6 + ((1 : Int32))))).bind fun hh8 =>
    (fX10_isName a0 hh8).bind fun x11 =>
    Option.bind (
      if ¬ x11 = 0 then
        (fX10_nameAt a0 ((1 : Int32)) hh8).bind fun x15 =>
        if x15 < 0 then
          some hh8
        else
          (fX10_wrong a0 ((3 : Int32)) hh8).bind fun hh18 =>
          some hh18
      else
        (fX10_wrong a0 ((1 : Int32)) hh8).bind fun hh20 =>
        some hh20) fun hh12 =>
    (am_gI hh12 a0 9 8).bind fun fault21 =>
    Option.bind (
      if ¬ fault21 = 0 then
        some hh12
      else
        (am_gR hh12 a0 9 15).bind fun readNames25 =>
        (am_gI hh12 a0 9 19).bind fun readMany27 =>
        (am_gR hh12 a0 9 6).bind fun value29 =>
        (am_gI hh12 a0 9 7).bind fun at31 =>
        (am_aL hh12 value29 at31).bind fun x33 =>
        (am_sL hh12 readNames25 readMany27 x33).bind fun hh35 =>
        (am_gR hh35 a0 9 17).bind fun readNameOf37 =>
        (am_gI hh35 a0 9 19).bind fun readMany39 =>
        (am_sI hh35 0 readNameOf37 readMany39 (a3 + x3)).bind fun hh41 =>
        (am_gI hh41 a0 9 19).bind fun readMany43 =>
        (am_pF hh41 a0 9 19 (.int (readMany43 + ((1 : Int32))))).bind fun hh45 =>
        (am_gI hh45 a0 9 7).bind fun at47 =>
        (am_pF hh45 a0 9 7 (.int (at47 + ((1 : Int32))))).bind fun hh49 =>
        (am_gR hh49 a0 9 10).bind fun vales51 =>
        (am_aI hh49 0 vales51 (((50 : Int32)) + a1)).bind fun x53 =>
        (am_sI hh49 0 vales51 (((50 : Int32)) + a1) (x53 + ((1 : Int32)))).bind fun hh55 =>
        some hh55) fun hh23 =>
    some hh23
  else
    (fX10_wrong a0 ((5 : Int32)) h).bind fun hh60 =>
    some hh60
set_option maxHeartbeats 4000000 in
set_option maxRecDepth 100000 in
theorem lX10_readName {sc : Nat × (Nat → Int32)} {a0 : Nat} {a1 : Int32} {a2 : Int32} {a3 : Int32} {h : am_H} {h1 : am_H} (H : fX10_readName a0 a1 a2 a3 h = some h1) : am_Cl am_T am_N sc 4 162 [.ref a0, .int a1, .int a2, .int a3] h none h1 := by
  unfold fX10_readName at H
  obtain ⟨_, hO, H⟩ := am_bd H
  obtain ⟨fs0, hO⟩ := am_isO_ok hO
  refine am_mk (q := qX10_readName) rfl (fun _ => ⟨_, _, _, _, _, rfl, hO, rfl, rfl⟩) (fun z => absurd z (by decide)) (Nat.le_of_ble_eq_true rfl) rfl ?_
  show am_G sc (am_Cl am_T am_N sc 3) (am_at kX10_readName) (fun t => t.2 = h1 ∧ am_ret 0 (am_at kX10_readName) t.1 = some none) ((0, [some (.ref a0), some (.int a1), some (.int a2), some (.int a3), none], []), h)
  refine am_G.fr 1 (g := (1, [some (.ref a0), some (.int a1), some (.int a2), some (.int a3), none], [.ref a0])) rfl ?_
  obtain ⟨vales1, e2, H⟩ := am_bd H
  refine am_G.gR rfl e2 ?_
  refine am_G.fr 3 (g := (8, [some (.ref a0), some (.int a1), some (.int a2), some (.int a3), none], [.int (((50 : Int32)) + a1), .ref vales1])) rfl ?_
  obtain ⟨x3, e4, H⟩ := am_bd H
  refine am_G.aI rfl e4 ?_
  refine am_G.fr 3 (g := (14, [some (.ref a0), some (.int a1), some (.int a2), some (.int a3), some (.int x3)], [.int a2, .int x3])) rfl ?_
  by_cases c5 : ¬ x3 = a2
  · rw [if_pos c5] at H
    refine am_G.br (tgt := 23) rfl rfl (if_pos c5) rfl ?_
    refine am_G.fr 2 (g := (25, [some (.ref a0), some (.int a1), some (.int a2), some (.int a3), some (.int x3)], [.ref a0, .ref a0])) rfl ?_
    obtain ⟨at6, e7, H⟩ := am_bd H
    refine am_G.gI rfl e7 ?_
    refine am_G.fr 2 (g := (30, [some (.ref a0), some (.int a1), some (.int a2), some (.int a3), some (.int x3)], [.int (at6 + ((1 : Int32))), .ref a0])) rfl ?_
    obtain ⟨hh8, e9, H⟩ := am_bd H
    refine am_G.pF rfl e9 ?_
    refine am_G.fr 1 (g := (34, [some (.ref a0), some (.int a1), some (.int a2), some (.int a3), some (.int x3)], [.ref a0])) rfl ?_
    obtain ⟨x11, e10, H⟩ := am_bd H
    refine am_G.cl [.ref a0] [] (am_Cl.mono (by decide) (lX10_isName e10)) rfl rfl rfl rfl (Nat.le_of_ble_eq_true rfl) ?_
    obtain ⟨hh12, E58, H⟩ := am_bd H
    refine am_G.sq (t := ((61, [some (.ref a0), some (.int a1), none, some (.int a3), some (.int x3)], []), hh12)) ?_ ?_
    · clear H
      have H := E58
      clear E58
      by_cases c13 : ¬ x11 = 0
      · rw [if_pos c13] at H
        refine am_G.br (tgt := 48) rfl rfl (if_pos c13) rfl ?_
        refine am_G.fr 2 (g := (50, [some (.ref a0), some (.int a1), some (.int a2), some (.int a3), some (.int x3)], [.int ((1 : Int32)), .ref a0])) rfl ?_
        obtain ⟨x15, e14, H⟩ := am_bd H
        refine am_G.cl [.ref a0, .int ((1 : Int32))] [] (am_Cl.mono (by decide) (lX10_nameAt e14)) rfl rfl rfl rfl (Nat.le_of_ble_eq_true rfl) ?_
        by_cases c16 : x15 < 0
        · rw [if_pos c16] at H
          refine am_G.br (tgt := 61) rfl rfl (if_pos c16) rfl ?_
          obtain rfl := Option.some.inj H
          refine am_G.fg [some (.ref a0), some (.int a1), none, some (.int a3), some (.int x3)] (by simp only [am_sub, and_self]) ?_
          exact am_G.nd rfl
        · rw [if_neg c16] at H
          refine am_G.br (tgt := 56) rfl rfl (if_neg c16) rfl ?_
          refine am_G.fr 2 (g := (58, [some (.ref a0), some (.int a1), some (.int a2), some (.int a3), some (.int x3)], [.int ((3 : Int32)), .ref a0])) rfl ?_
          obtain ⟨hh18, e17, H⟩ := am_bd H
          refine am_G.cl [.ref a0, .int ((3 : Int32))] [] (am_Cl.mono (by decide) (lX10_wrong e17)) rfl rfl rfl rfl (Nat.le_of_ble_eq_true rfl) ?_
          obtain rfl := Option.some.inj H
          refine am_G.fg [some (.ref a0), some (.int a1), none, some (.int a3), some (.int x3)] (by simp only [am_sub, and_self]) ?_
          exact am_G.nd rfl
      · rw [if_neg c13] at H
        refine am_G.br (tgt := 40) rfl rfl (if_neg c13) rfl ?_
        refine am_G.fr 2 (g := (42, [some (.ref a0), some (.int a1), some (.int a2), some (.int a3), some (.int x3)], [.int ((1 : Int32)), .ref a0])) rfl ?_
        obtain ⟨hh20, e19, H⟩ := am_bd H
        refine am_G.cl [.ref a0, .int ((1 : Int32))] [] (am_Cl.mono (by decide) (lX10_wrong e19)) rfl rfl rfl rfl (Nat.le_of_ble_eq_true rfl) ?_
        refine am_G.fr 1 (g := (61, [some (.ref a0), some (.int a1), some (.int a2), some (.int a3), some (.int x3)], [])) rfl ?_
        obtain rfl := Option.some.inj H
        refine am_G.fg [some (.ref a0), some (.int a1), none, some (.int a3), some (.int x3)] (by simp only [am_sub, and_self]) ?_
        exact am_G.nd rfl
    · clear E58
      refine am_G.fr 1 (g := (62, [some (.ref a0), some (.int a1), none, some (.int a3), some (.int x3)], [.ref a0])) rfl ?_
      obtain ⟨fault21, e22, H⟩ := am_bd H
      refine am_G.gI rfl e22 ?_
      obtain ⟨hh23, E57, H⟩ := am_bd H
      refine am_G.sq (t := ((132, [none, none, none, none, none], []), hh23)) ?_ ?_
      · clear H
        have H := E57
        clear E57
        by_cases c24 : ¬ fault21 = 0
        · rw [if_pos c24] at H
          refine am_G.br (tgt := 132) rfl rfl (if_pos c24) rfl ?_
          obtain rfl := Option.some.inj H
          refine am_G.fg [none, none, none, none, none] (by simp only [am_sub, and_self]) ?_
          exact am_G.nd rfl
        · rw [if_neg c24] at H
          refine am_G.br (tgt := 68) rfl rfl (if_neg c24) rfl ?_
          refine am_G.fr 1 (g := (69, [some (.ref a0), some (.int a1), none, some (.int a3), some (.int x3)], [.ref a0])) rfl ?_
          obtain ⟨readNames25, e26, H⟩ := am_bd H
          refine am_G.gR rfl e26 ?_
          refine am_G.fr 1 (g := (73, [some (.ref a0), some (.int a1), none, some (.int a3), some (.int x3)], [.ref a0, .ref readNames25])) rfl ?_
          obtain ⟨readMany27, e28, H⟩ := am_bd H
          refine am_G.gI rfl e28 ?_
          refine am_G.fr 1 (g := (77, [some (.ref a0), some (.int a1), none, some (.int a3), some (.int x3)], [.ref a0, .int readMany27, .ref readNames25])) rfl ?_
          obtain ⟨value29, e30, H⟩ := am_bd H
          refine am_G.gR rfl e30 ?_
          refine am_G.fr 1 (g := (81, [some (.ref a0), some (.int a1), none, some (.int a3), some (.int x3)], [.ref a0, .ref value29, .int readMany27, .ref readNames25])) rfl ?_
          obtain ⟨at31, e32, H⟩ := am_bd H
          refine am_G.gI rfl e32 ?_
          obtain ⟨x33, e34, H⟩ := am_bd H
          refine am_G.aL rfl e34 ?_
          obtain ⟨hh35, e36, H⟩ := am_bd H
          refine am_G.sL rfl e36 ?_
          refine am_G.fr 1 (g := (87, [some (.ref a0), some (.int a1), none, some (.int a3), some (.int x3)], [.ref a0])) rfl ?_
          obtain ⟨readNameOf37, e38, H⟩ := am_bd H
          refine am_G.gR rfl e38 ?_
          refine am_G.fr 1 (g := (91, [some (.ref a0), some (.int a1), none, some (.int a3), some (.int x3)], [.ref a0, .ref readNameOf37])) rfl ?_
          obtain ⟨readMany39, e40, H⟩ := am_bd H
          refine am_G.gI rfl e40 ?_
          refine am_G.fr 3 (g := (98, [some (.ref a0), some (.int a1), none, some (.int a3), some (.int x3)], [.int (a3 + x3), .int readMany39, .ref readNameOf37])) rfl ?_
          obtain ⟨hh41, e42, H⟩ := am_bd H
          refine am_G.sI rfl e42 ?_
          refine am_G.fr 2 (g := (101, [some (.ref a0), some (.int a1), none, some (.int a3), some (.int x3)], [.ref a0, .ref a0])) rfl ?_
          obtain ⟨readMany43, e44, H⟩ := am_bd H
          refine am_G.gI rfl e44 ?_
          refine am_G.fr 2 (g := (106, [some (.ref a0), some (.int a1), none, some (.int a3), some (.int x3)], [.int (readMany43 + ((1 : Int32))), .ref a0])) rfl ?_
          obtain ⟨hh45, e46, H⟩ := am_bd H
          refine am_G.pF rfl e46 ?_
          refine am_G.fr 2 (g := (111, [some (.ref a0), some (.int a1), none, some (.int a3), some (.int x3)], [.ref a0, .ref a0])) rfl ?_
          obtain ⟨at47, e48, H⟩ := am_bd H
          refine am_G.gI rfl e48 ?_
          refine am_G.fr 2 (g := (116, [some (.ref a0), some (.int a1), none, some (.int a3), some (.int x3)], [.int (at47 + ((1 : Int32))), .ref a0])) rfl ?_
          obtain ⟨hh49, e50, H⟩ := am_bd H
          refine am_G.pF rfl e50 ?_
          refine am_G.fr 1 (g := (120, [some (.ref a0), some (.int a1), none, some (.int a3), some (.int x3)], [.ref a0])) rfl ?_
          obtain ⟨vales51, e52, H⟩ := am_bd H
          refine am_G.gR rfl e52 ?_
          refine am_G.fr 4 (g := (128, [some (.ref a0), some (.int a1), none, some (.int a3), some (.int x3)], [.int (((50 : Int32)) + a1), .ref vales51, .int (((50 : Int32)) + a1), .ref vales51])) rfl ?_
          obtain ⟨x53, e54, H⟩ := am_bd H
          refine am_G.aI rfl e54 ?_
          refine am_G.fr 2 (g := (131, [some (.ref a0), some (.int a1), none, some (.int a3), some (.int x3)], [.int (x53 + ((1 : Int32))), .int (((50 : Int32)) + a1), .ref vales51])) rfl ?_
          obtain ⟨hh55, e56, H⟩ := am_bd H
          refine am_G.sI rfl e56 ?_
          obtain rfl := Option.some.inj H
          refine am_G.fg [none, none, none, none, none] (by simp only [am_sub, and_self]) ?_
          exact am_G.nd rfl
      · clear E57
        obtain rfl := Option.some.inj H
        exact am_G.nd ⟨rfl, rfl⟩
  · rw [if_neg c5] at H
    refine am_G.br (tgt := 17) rfl rfl (if_neg c5) rfl ?_
    refine am_G.fr 2 (g := (19, [some (.ref a0), some (.int a1), some (.int a2), some (.int a3), some (.int x3)], [.int ((5 : Int32)), .ref a0])) rfl ?_
    obtain ⟨hh60, e59, H⟩ := am_bd H
    refine am_G.cl [.ref a0, .int ((5 : Int32))] [] (am_Cl.mono (by decide) (lX10_wrong e59)) rfl rfl rfl rfl (Nat.le_of_ble_eq_true rfl) ?_
    obtain rfl := Option.some.inj H
    exact am_G.nd ⟨rfl, rfl⟩
def fX10_readDay (a0 : Nat) (h : am_H) : Option (am_H) :=
  (am_isO h a0 9).bind fun _ =>
  (am_gR h a0 9 10).bind fun vales1 =>
  (am_aI h 0 vales1 ((51 : Int32))).bind fun x3 =>
  (fX10_readName a0 ((1 : Int32)) ((6 : Int32)) ((20 : Int32)) h).bind fun hh6 =>
  am_b2 (fX10_takeOne a0 ((14 : Int32)) ((4 : Int32)) hh6) fun x8 hh9 =>
  (fX10_takeWord a0 ((4 : Int32)) hh9).bind fun hh11 =>
  am_b2 (fX10_takeTold a0 ((1 : Int32)) ((0 : Int32)) ((0 : Int32)) hh11) fun x13 hh14 =>
  am_b2 (fX10_takeAfter a0 ((5 : Int32)) ((0 : Int32)) ((11 : Int32)) hh14) fun x16 hh17 =>
  am_b2 (fX10_takeAfter a0 ((6 : Int32)) ((0 : Int32)) ((40 : Int32)) hh17) fun x19 hh20 =>
  (am_gI hh20 a0 9 8).bind fun fault21 =>
  Option.bind (
    if ¬ fault21 = 0 then
      some hh20
    else
      (am_gR hh20 a0 9 10).bind fun vales25 =>
      (am_sI hh20 0 vales25 (((62 : Int32)) + (((5 : Int32)) * x3)) x8).bind fun hh27 =>
      (am_gR hh27 a0 9 10).bind fun vales29 =>
      (am_sI hh27 0 vales29 ((((62 : Int32)) + (((5 : Int32)) * x3)) + ((1 : Int32))) x13).bind fun hh31 =>
      (am_gR hh31 a0 9 10).bind fun vales33 =>
      (am_sI hh31 0 vales33 ((((62 : Int32)) + (((5 : Int32)) * x3)) + ((2 : Int32))) x16).bind fun hh35 =>
      (am_gR hh35 a0 9 10).bind fun vales37 =>
      (am_sI hh35 0 vales37 ((((62 : Int32)) + (((5 : Int32)) * x3)) + ((3 : Int32))) x19).bind fun hh39 =>
      some hh39) fun hh23 =>
  some hh23
set_option maxHeartbeats 4000000 in
set_option maxRecDepth 100000 in
theorem lX10_readDay {sc : Nat × (Nat → Int32)} {a0 : Nat} {h : am_H} {h1 : am_H} (H : fX10_readDay a0 h = some h1) : am_Cl am_T am_N sc 5 163 [.ref a0] h none h1 := by
  unfold fX10_readDay at H
  obtain ⟨_, hO, H⟩ := am_bd H
  obtain ⟨fs0, hO⟩ := am_isO_ok hO
  refine am_mk (q := qX10_readDay) rfl (fun _ => ⟨_, _, _, _, _, rfl, hO, rfl, rfl⟩) (fun z => absurd z (by decide)) (Nat.le_of_ble_eq_true rfl) rfl ?_
  show am_G sc (am_Cl am_T am_N sc 4) (am_at kX10_readDay) (fun t => t.2 = h1 ∧ am_ret 0 (am_at kX10_readDay) t.1 = some none) ((0, [some (.ref a0), none, none, none, none, none], []), h)
  refine am_G.fr 3 (g := (4, [some (.ref a0), none, none, none, none, none], [.ref a0, .int ((5 : Int32)), .int ((62 : Int32))])) rfl ?_
  obtain ⟨vales1, e2, H⟩ := am_bd H
  refine am_G.gR rfl e2 ?_
  refine am_G.fr 1 (g := (9, [some (.ref a0), none, none, none, none, none], [.int ((51 : Int32)), .ref vales1, .int ((5 : Int32)), .int ((62 : Int32))])) rfl ?_
  obtain ⟨x3, e4, H⟩ := am_bd H
  refine am_G.aI rfl e4 ?_
  refine am_G.fr 7 (g := (19, [some (.ref a0), some (.int (((62 : Int32)) + (((5 : Int32)) * x3))), none, none, none, none], [.int ((20 : Int32)), .int ((6 : Int32)), .int ((1 : Int32)), .ref a0])) rfl ?_
  obtain ⟨hh6, e5, H⟩ := am_bd H
  refine am_G.cl [.ref a0, .int ((1 : Int32)), .int ((6 : Int32)), .int ((20 : Int32))] [] (am_Cl.mono (by decide) (lX10_readName e5)) rfl rfl rfl rfl (Nat.le_of_ble_eq_true rfl) ?_
  refine am_G.fr 3 (g := (26, [some (.ref a0), some (.int (((62 : Int32)) + (((5 : Int32)) * x3))), none, none, none, none], [.int ((4 : Int32)), .int ((14 : Int32)), .ref a0])) rfl ?_
  obtain ⟨x8, hh9, e7, H⟩ := am_bd2 H
  refine am_G.cl [.ref a0, .int ((14 : Int32)), .int ((4 : Int32))] [] (am_Cl.mono (by decide) (lX10_takeOne e7)) rfl rfl rfl rfl (Nat.le_of_ble_eq_true rfl) ?_
  refine am_G.fr 3 (g := (32, [some (.ref a0), some (.int (((62 : Int32)) + (((5 : Int32)) * x3))), some (.int x8), none, none, none], [.int ((4 : Int32)), .ref a0])) rfl ?_
  obtain ⟨hh11, e10, H⟩ := am_bd H
  refine am_G.cl [.ref a0, .int ((4 : Int32))] [] (am_Cl.mono (by decide) (lX10_takeWord e10)) rfl rfl rfl rfl (Nat.le_of_ble_eq_true rfl) ?_
  refine am_G.fr 4 (g := (39, [some (.ref a0), some (.int (((62 : Int32)) + (((5 : Int32)) * x3))), some (.int x8), none, none, none], [.int ((0 : Int32)), .int ((0 : Int32)), .int ((1 : Int32)), .ref a0])) rfl ?_
  obtain ⟨x13, hh14, e12, H⟩ := am_bd2 H
  refine am_G.cl [.ref a0, .int ((1 : Int32)), .int ((0 : Int32)), .int ((0 : Int32))] [] (am_Cl.mono (by decide) (lX10_takeTold e12)) rfl rfl rfl rfl (Nat.le_of_ble_eq_true rfl) ?_
  refine am_G.fr 5 (g := (48, [some (.ref a0), some (.int (((62 : Int32)) + (((5 : Int32)) * x3))), some (.int x8), some (.int x13), none, none], [.int ((11 : Int32)), .int ((0 : Int32)), .int ((5 : Int32)), .ref a0])) rfl ?_
  obtain ⟨x16, hh17, e15, H⟩ := am_bd2 H
  refine am_G.cl [.ref a0, .int ((5 : Int32)), .int ((0 : Int32)), .int ((11 : Int32))] [] (am_Cl.mono (by decide) (lX10_takeAfter e15)) rfl rfl rfl rfl (Nat.le_of_ble_eq_true rfl) ?_
  refine am_G.fr 5 (g := (59, [some (.ref a0), some (.int (((62 : Int32)) + (((5 : Int32)) * x3))), some (.int x8), some (.int x13), some (.int x16), none], [.int ((40 : Int32)), .int ((0 : Int32)), .int ((6 : Int32)), .ref a0])) rfl ?_
  obtain ⟨x19, hh20, e18, H⟩ := am_bd2 H
  refine am_G.cl [.ref a0, .int ((6 : Int32)), .int ((0 : Int32)), .int ((40 : Int32))] [] (am_Cl.mono (by decide) (lX10_takeAfter e18)) rfl rfl rfl rfl (Nat.le_of_ble_eq_true rfl) ?_
  refine am_G.fr 2 (g := (65, [some (.ref a0), some (.int (((62 : Int32)) + (((5 : Int32)) * x3))), some (.int x8), some (.int x13), some (.int x16), some (.int x19)], [.ref a0])) rfl ?_
  obtain ⟨fault21, e22, H⟩ := am_bd H
  refine am_G.gI rfl e22 ?_
  obtain ⟨hh23, E41, H⟩ := am_bd H
  refine am_G.sq (t := ((107, [none, none, none, none, none, none], []), hh23)) ?_ ?_
  · clear H
    have H := E41
    clear E41
    by_cases c24 : ¬ fault21 = 0
    · rw [if_pos c24] at H
      refine am_G.br (tgt := 107) rfl rfl (if_pos c24) rfl ?_
      obtain rfl := Option.some.inj H
      refine am_G.fg [none, none, none, none, none, none] (by simp only [am_sub, and_self]) ?_
      exact am_G.nd rfl
    · rw [if_neg c24] at H
      refine am_G.br (tgt := 71) rfl rfl (if_neg c24) rfl ?_
      refine am_G.fr 1 (g := (72, [some (.ref a0), some (.int (((62 : Int32)) + (((5 : Int32)) * x3))), some (.int x8), some (.int x13), some (.int x16), some (.int x19)], [.ref a0])) rfl ?_
      obtain ⟨vales25, e26, H⟩ := am_bd H
      refine am_G.gR rfl e26 ?_
      refine am_G.fr 2 (g := (77, [some (.ref a0), some (.int (((62 : Int32)) + (((5 : Int32)) * x3))), some (.int x8), some (.int x13), some (.int x16), some (.int x19)], [.int x8, .int (((62 : Int32)) + (((5 : Int32)) * x3)), .ref vales25])) rfl ?_
      obtain ⟨hh27, e28, H⟩ := am_bd H
      refine am_G.sI rfl e28 ?_
      refine am_G.fr 1 (g := (79, [some (.ref a0), some (.int (((62 : Int32)) + (((5 : Int32)) * x3))), some (.int x8), some (.int x13), some (.int x16), some (.int x19)], [.ref a0])) rfl ?_
      obtain ⟨vales29, e30, H⟩ := am_bd H
      refine am_G.gR rfl e30 ?_
      refine am_G.fr 4 (g := (86, [some (.ref a0), some (.int (((62 : Int32)) + (((5 : Int32)) * x3))), some (.int x8), some (.int x13), some (.int x16), some (.int x19)], [.int x13, .int ((((62 : Int32)) + (((5 : Int32)) * x3)) + ((1 : Int32))), .ref vales29])) rfl ?_
      obtain ⟨hh31, e32, H⟩ := am_bd H
      refine am_G.sI rfl e32 ?_
      refine am_G.fr 1 (g := (88, [some (.ref a0), some (.int (((62 : Int32)) + (((5 : Int32)) * x3))), some (.int x8), some (.int x13), some (.int x16), some (.int x19)], [.ref a0])) rfl ?_
      obtain ⟨vales33, e34, H⟩ := am_bd H
      refine am_G.gR rfl e34 ?_
      refine am_G.fr 4 (g := (96, [some (.ref a0), some (.int (((62 : Int32)) + (((5 : Int32)) * x3))), some (.int x8), some (.int x13), some (.int x16), some (.int x19)], [.int x16, .int ((((62 : Int32)) + (((5 : Int32)) * x3)) + ((2 : Int32))), .ref vales33])) rfl ?_
      obtain ⟨hh35, e36, H⟩ := am_bd H
      refine am_G.sI rfl e36 ?_
      refine am_G.fr 1 (g := (98, [some (.ref a0), some (.int (((62 : Int32)) + (((5 : Int32)) * x3))), some (.int x8), some (.int x13), some (.int x16), some (.int x19)], [.ref a0])) rfl ?_
      obtain ⟨vales37, e38, H⟩ := am_bd H
      refine am_G.gR rfl e38 ?_
      refine am_G.fr 4 (g := (106, [some (.ref a0), some (.int (((62 : Int32)) + (((5 : Int32)) * x3))), some (.int x8), some (.int x13), some (.int x16), some (.int x19)], [.int x19, .int ((((62 : Int32)) + (((5 : Int32)) * x3)) + ((3 : Int32))), .ref vales37])) rfl ?_
      obtain ⟨hh39, e40, H⟩ := am_bd H
      refine am_G.sI rfl e40 ?_
      obtain rfl := Option.some.inj H
      refine am_G.fg [none, none, none, none, none, none] (by simp only [am_sub, and_self]) ?_
      exact am_G.nd rfl
  · clear E41
    obtain rfl := Option.some.inj H
    exact am_G.nd ⟨rfl, rfl⟩
def fX10_emit (a0 : Nat) (a1 : Int32) (a2 : Int32) (h : am_H) : Option (am_H) :=
  (am_isO h a0 9).bind fun _ =>
  (am_gR h a0 9 11).bind fun op1 =>
  (am_gI h a0 9 13).bind fun codes3 =>
  (am_sI h 0 op1 (((1100 : Int32)) + codes3) a1).bind fun hh5 =>
  (am_gR hh5 a0 9 12).bind fun arg7 =>
  (am_gI hh5 a0 9 13).bind fun codes9 =>
  (am_sI hh5 0 arg7 (((1100 : Int32)) + codes9) a2).bind fun hh11 =>
  (am_gI hh11 a0 9 13).bind fun codes13 =>
  (am_pF hh11 a0 9 13 (.int (codes13 + ((1 : Int32))))).bind fun hh15 =>
  some hh15
set_option maxHeartbeats 4000000 in
set_option maxRecDepth 100000 in
theorem lX10_emit {sc : Nat × (Nat → Int32)} {a0 : Nat} {a1 : Int32} {a2 : Int32} {h : am_H} {h1 : am_H} (H : fX10_emit a0 a1 a2 h = some h1) : am_Cl am_T am_N sc 1 166 [.ref a0, .int a1, .int a2] h none h1 := by
  unfold fX10_emit at H
  obtain ⟨_, hO, H⟩ := am_bd H
  obtain ⟨fs0, hO⟩ := am_isO_ok hO
  refine am_mk (q := qX10_emit) rfl (fun _ => ⟨_, _, _, _, _, rfl, hO, rfl, rfl⟩) (fun z => absurd z (by decide)) (Nat.le_of_ble_eq_true rfl) rfl ?_
  show am_G sc (am_Cl am_T am_N sc 0) (am_at kX10_emit) (fun t => t.2 = h1 ∧ am_ret 0 (am_at kX10_emit) t.1 = some none) ((0, [some (.ref a0), some (.int a1), some (.int a2)], []), h)
  refine am_G.fr 1 (g := (1, [some (.ref a0), some (.int a1), some (.int a2)], [.ref a0])) rfl ?_
  obtain ⟨op1, e2, H⟩ := am_bd H
  refine am_G.gR rfl e2 ?_
  refine am_G.fr 2 (g := (8, [some (.ref a0), some (.int a1), some (.int a2)], [.ref a0, .int ((1100 : Int32)), .ref op1])) rfl ?_
  obtain ⟨codes3, e4, H⟩ := am_bd H
  refine am_G.gI rfl e4 ?_
  refine am_G.fr 2 (g := (13, [some (.ref a0), some (.int a1), some (.int a2)], [.int a1, .int (((1100 : Int32)) + codes3), .ref op1])) rfl ?_
  obtain ⟨hh5, e6, H⟩ := am_bd H
  refine am_G.sI rfl e6 ?_
  refine am_G.fr 1 (g := (15, [some (.ref a0), some (.int a1), some (.int a2)], [.ref a0])) rfl ?_
  obtain ⟨arg7, e8, H⟩ := am_bd H
  refine am_G.gR rfl e8 ?_
  refine am_G.fr 2 (g := (22, [some (.ref a0), some (.int a1), some (.int a2)], [.ref a0, .int ((1100 : Int32)), .ref arg7])) rfl ?_
  obtain ⟨codes9, e10, H⟩ := am_bd H
  refine am_G.gI rfl e10 ?_
  refine am_G.fr 2 (g := (27, [some (.ref a0), some (.int a1), some (.int a2)], [.int a2, .int (((1100 : Int32)) + codes9), .ref arg7])) rfl ?_
  obtain ⟨hh11, e12, H⟩ := am_bd H
  refine am_G.sI rfl e12 ?_
  refine am_G.fr 2 (g := (30, [some (.ref a0), some (.int a1), some (.int a2)], [.ref a0, .ref a0])) rfl ?_
  obtain ⟨codes13, e14, H⟩ := am_bd H
  refine am_G.gI rfl e14 ?_
  refine am_G.fr 2 (g := (35, [some (.ref a0), some (.int a1), some (.int a2)], [.int (codes13 + ((1 : Int32))), .ref a0])) rfl ?_
  obtain ⟨hh15, e16, H⟩ := am_bd H
  refine am_G.pF rfl e16 ?_
  obtain rfl := Option.some.inj H
  exact am_G.nd ⟨rfl, rfl⟩
def fX10_readPair (a0 : Nat) (a1 : Int32) (a2 : Int32) (a3 : Int32) (h : am_H) : Option (am_H) :=
  (am_isO h a0 9).bind fun _ =>
  (am_gI h a0 9 7).bind fun at1 =>
  (am_pF h a0 9 7 (.int (at1 + ((1 : Int32))))).bind fun hh3 =>
  am_b2 (fX10_takeTold a0 ((1 : Int32)) a1 ((0 : Int32)) hh3) fun x6 hh7 =>
  (am_gR hh7 a0 9 10).bind fun vales8 =>
  (am_aI hh7 0 vales8 ((((50 : Int32)) + a2) + (a3 * x6))).bind fun x10 =>
  am_b2 (fX10_takeTold a0 ((1 : Int32)) a1 (x10 ||| (((1 : Int32)) <<< (x6 &&& 31))) hh7) fun x13 hh14 =>
  (am_gI hh14 a0 9 8).bind fun fault15 =>
  Option.bind (
    if ¬ fault15 = 0 then
      some hh14
    else
      (am_gR hh14 a0 9 10).bind fun vales19 =>
      (am_aI hh14 0 vales19 ((((50 : Int32)) + a2) + (a3 * x6))).bind fun x21 =>
      (am_sI hh14 0 vales19 ((((50 : Int32)) + a2) + (a3 * x6)) (x21 ||| (((1 : Int32)) <<< (x13 &&& 31)))).bind fun hh23 =>
      (am_gR hh23 a0 9 10).bind fun vales25 =>
      (am_aI hh23 0 vales25 ((((50 : Int32)) + a2) + (a3 * x13))).bind fun x27 =>
      (am_sI hh23 0 vales25 ((((50 : Int32)) + a2) + (a3 * x13)) (x27 ||| (((1 : Int32)) <<< (x6 &&& 31)))).bind fun hh29 =>
      some hh29) fun hh17 =>
  some hh17
set_option maxHeartbeats 4000000 in
set_option maxRecDepth 100000 in
theorem lX10_readPair {sc : Nat × (Nat → Int32)} {a0 : Nat} {a1 : Int32} {a2 : Int32} {a3 : Int32} {h : am_H} {h1 : am_H} (H : fX10_readPair a0 a1 a2 a3 h = some h1) : am_Cl am_T am_N sc 5 161 [.ref a0, .int a1, .int a2, .int a3] h none h1 := by
  unfold fX10_readPair at H
  obtain ⟨_, hO, H⟩ := am_bd H
  obtain ⟨fs0, hO⟩ := am_isO_ok hO
  refine am_mk (q := qX10_readPair) rfl (fun _ => ⟨_, _, _, _, _, rfl, hO, rfl, rfl⟩) (fun z => absurd z (by decide)) (Nat.le_of_ble_eq_true rfl) rfl ?_
  show am_G sc (am_Cl am_T am_N sc 4) (am_at kX10_readPair) (fun t => t.2 = h1 ∧ am_ret 0 (am_at kX10_readPair) t.1 = some none) ((0, [some (.ref a0), some (.int a1), some (.int a2), some (.int a3), none, none, none], []), h)
  refine am_G.fr 2 (g := (2, [some (.ref a0), some (.int a1), some (.int a2), some (.int a3), none, none, none], [.ref a0, .ref a0])) rfl ?_
  obtain ⟨at1, e2, H⟩ := am_bd H
  refine am_G.gI rfl e2 ?_
  refine am_G.fr 2 (g := (7, [some (.ref a0), some (.int a1), some (.int a2), some (.int a3), none, none, none], [.int (at1 + ((1 : Int32))), .ref a0])) rfl ?_
  obtain ⟨hh3, e4, H⟩ := am_bd H
  refine am_G.pF rfl e4 ?_
  refine am_G.fr 4 (g := (14, [some (.ref a0), some (.int a1), some (.int a2), some (.int a3), none, none, none], [.int ((0 : Int32)), .int a1, .int ((1 : Int32)), .ref a0])) rfl ?_
  obtain ⟨x6, hh7, e5, H⟩ := am_bd2 H
  refine am_G.cl [.ref a0, .int ((1 : Int32)), .int a1, .int ((0 : Int32))] [] (am_Cl.mono (by decide) (lX10_takeTold e5)) rfl rfl rfl rfl (Nat.le_of_ble_eq_true rfl) ?_
  refine am_G.fr 13 (g := (34, [some (.ref a0), some (.int a1), some (.int a2), some (.int a3), some (.int x6), some (.int ((((50 : Int32)) + a2) + (a3 * x6))), none], [.ref a0, .int a1, .int ((1 : Int32)), .ref a0])) rfl ?_
  obtain ⟨vales8, e9, H⟩ := am_bd H
  refine am_G.gR rfl e9 ?_
  refine am_G.fr 1 (g := (39, [some (.ref a0), some (.int a1), some (.int a2), some (.int a3), some (.int x6), some (.int ((((50 : Int32)) + a2) + (a3 * x6))), none], [.int ((((50 : Int32)) + a2) + (a3 * x6)), .ref vales8, .int a1, .int ((1 : Int32)), .ref a0])) rfl ?_
  obtain ⟨x10, e11, H⟩ := am_bd H
  refine am_G.aI rfl e11 ?_
  refine am_G.fr 4 (g := (45, [some (.ref a0), some (.int a1), some (.int a2), some (.int a3), some (.int x6), some (.int ((((50 : Int32)) + a2) + (a3 * x6))), none], [.int (x10 ||| (((1 : Int32)) <<< (x6 &&& 31))), .int a1, .int ((1 : Int32)), .ref a0])) rfl ?_
  obtain ⟨x13, hh14, e12, H⟩ := am_bd2 H
  refine am_G.cl [.ref a0, .int ((1 : Int32)), .int a1, .int (x10 ||| (((1 : Int32)) <<< (x6 &&& 31)))] [] (am_Cl.mono (by decide) (lX10_takeTold e12)) rfl rfl rfl rfl (Nat.le_of_ble_eq_true rfl) ?_
  refine am_G.fr 2 (g := (51, [some (.ref a0), some (.int a1), some (.int a2), some (.int a3), some (.int x6), some (.int ((((50 : Int32)) + a2) + (a3 * x6))), some (.int x13)], [.ref a0])) rfl ?_
  obtain ⟨fault15, e16, H⟩ := am_bd H
  refine am_G.gI rfl e16 ?_
  obtain ⟨hh17, E31, H⟩ := am_bd H
  refine am_G.sq (t := ((92, [none, none, none, none, none, none, none], []), hh17)) ?_ ?_
  · clear H
    have H := E31
    clear E31
    by_cases c18 : ¬ fault15 = 0
    · rw [if_pos c18] at H
      refine am_G.br (tgt := 92) rfl rfl (if_pos c18) rfl ?_
      obtain rfl := Option.some.inj H
      refine am_G.fg [none, none, none, none, none, none, none] (by simp only [am_sub, and_self]) ?_
      exact am_G.nd rfl
    · rw [if_neg c18] at H
      refine am_G.br (tgt := 57) rfl rfl (if_neg c18) rfl ?_
      refine am_G.fr 1 (g := (58, [some (.ref a0), some (.int a1), some (.int a2), some (.int a3), some (.int x6), some (.int ((((50 : Int32)) + a2) + (a3 * x6))), some (.int x13)], [.ref a0])) rfl ?_
      obtain ⟨vales19, e20, H⟩ := am_bd H
      refine am_G.gR rfl e20 ?_
      refine am_G.fr 2 (g := (64, [some (.ref a0), some (.int a1), some (.int a2), some (.int a3), some (.int x6), some (.int ((((50 : Int32)) + a2) + (a3 * x6))), some (.int x13)], [.int ((((50 : Int32)) + a2) + (a3 * x6)), .ref vales19, .int ((((50 : Int32)) + a2) + (a3 * x6)), .ref vales19])) rfl ?_
      obtain ⟨x21, e22, H⟩ := am_bd H
      refine am_G.aI rfl e22 ?_
      refine am_G.fr 4 (g := (70, [some (.ref a0), some (.int a1), some (.int a2), some (.int a3), some (.int x6), some (.int ((((50 : Int32)) + a2) + (a3 * x6))), some (.int x13)], [.int (x21 ||| (((1 : Int32)) <<< (x13 &&& 31))), .int ((((50 : Int32)) + a2) + (a3 * x6)), .ref vales19])) rfl ?_
      obtain ⟨hh23, e24, H⟩ := am_bd H
      refine am_G.sI rfl e24 ?_
      refine am_G.fr 1 (g := (72, [some (.ref a0), some (.int a1), some (.int a2), some (.int a3), some (.int x6), some (.int ((((50 : Int32)) + a2) + (a3 * x6))), some (.int x13)], [.ref a0])) rfl ?_
      obtain ⟨vales25, e26, H⟩ := am_bd H
      refine am_G.gR rfl e26 ?_
      refine am_G.fr 8 (g := (85, [some (.ref a0), some (.int a1), some (.int a2), some (.int a3), some (.int x6), some (.int ((((50 : Int32)) + a2) + (a3 * x6))), some (.int x13)], [.int ((((50 : Int32)) + a2) + (a3 * x13)), .ref vales25, .int ((((50 : Int32)) + a2) + (a3 * x13)), .ref vales25])) rfl ?_
      obtain ⟨x27, e28, H⟩ := am_bd H
      refine am_G.aI rfl e28 ?_
      refine am_G.fr 4 (g := (91, [some (.ref a0), some (.int a1), some (.int a2), some (.int a3), some (.int x6), some (.int ((((50 : Int32)) + a2) + (a3 * x6))), some (.int x13)], [.int (x27 ||| (((1 : Int32)) <<< (x6 &&& 31))), .int ((((50 : Int32)) + a2) + (a3 * x13)), .ref vales25])) rfl ?_
      obtain ⟨hh29, e30, H⟩ := am_bd H
      refine am_G.sI rfl e30 ?_
      obtain rfl := Option.some.inj H
      refine am_G.fg [none, none, none, none, none, none, none] (by simp only [am_sub, and_self]) ?_
      exact am_G.nd rfl
  · clear E31
    obtain rfl := Option.some.inj H
    exact am_G.nd ⟨rfl, rfl⟩
def fX10_year_L11 : Nat → Nat → Int32 → am_H → Option (Int32 × am_H)
  | 0, _, _, _ => none
  | n + 1, v0, v1, h =>
    (am_gI h v0 9 8).bind fun fault5 =>
    if ¬ fault5 = 0 then
      some (v1, h)
    else
      (am_gR h v0 9 4).bind fun sort8 =>
      (am_gI h v0 9 7).bind fun at10 =>
      (am_aI h 0 sort8 at10).bind fun x12 =>
      if x12 = 0 then
        some (v1, h)
      else
        (fX10_wordHere v0 ((10 : Int32)) ((4 : Int32)) h).bind fun x16 =>
        am_b2 (
          if 0 ≤ x16 then
            if ¬ v1 = ((40 : Int32)) then
              (am_gI h v0 9 7).bind fun at21 =>
              (am_pF h v0 9 7 (.int (at21 + ((1 : Int32))))).bind fun hh23 =>
              (am_gR hh23 v0 9 21).bind fun lines25 =>
              (am_sI hh23 0 lines25 (((125 : Int32)) + (((3 : Int32)) * v1)) x16).bind fun hh27 =>
              (am_gR hh27 v0 9 21).bind fun lines29 =>
              am_b2 (
                if ¬ x16 = 0 then
                  Option.bind (
                    if ¬ x16 = ((3 : Int32)) then
                      some ((20 : Int32))
                    else
                      some ((0 : Int32))) fun js34 =>
                  am_b2 (fX10_takeTold v0 ((0 : Int32)) js34 ((0 : Int32)) hh27) fun x37 hh38 =>
                  some (x37, hh38)
                else
                  some ((0 : Int32), hh27)) fun js31 hh32 =>
              (am_sI hh32 0 lines29 ((((125 : Int32)) + (((3 : Int32)) * v1)) + ((1 : Int32))) js31).bind fun hh40 =>
              (am_gR hh40 v0 9 21).bind fun lines42 =>
              am_b2 (
                if ¬ x16 = ((1 : Int32)) then
                  some ((0 : Int32), hh40)
                else
                  am_b2 (fX10_takeTold v0 ((0 : Int32)) ((0 : Int32)) ((0 : Int32)) hh40) fun x48 hh49 =>
                  some (x48, hh49)) fun js44 hh45 =>
              (am_sI hh45 0 lines42 ((((125 : Int32)) + (((3 : Int32)) * v1)) + ((2 : Int32))) js44).bind fun hh50 =>
              some (v1 + (1 : Int32), hh50)
            else
              (fX10_wrong v0 ((5 : Int32)) h).bind fun hh55 =>
              some (v1, hh55)
          else
            (fX10_wrong v0 ((1 : Int32)) h).bind fun hh57 =>
            some (v1, hh57)) fun jv17 hh18 =>
        (fX10_takeSign v0 ((59 : Int32)) hh18).bind fun hh59 =>
        fX10_year_L11 n v0 jv17 hh59
def fX10_year_L178 : Nat → Nat → Int32 → Int32 → am_H → Option (am_H)
  | 0, _, _, _, _ => none
  | n + 1, v0, v1, v2, h =>
    if (((3 : Int32)) * v1) ≤ v2 then
      some h
    else
      (am_gR h v0 9 21).bind fun lines72 =>
      (am_gR h v0 9 21).bind fun lines74 =>
      (am_aI h 0 lines74 (((125 : Int32)) + v2)).bind fun x76 =>
      (am_sI h 0 lines72 (((1 : Int32)) + v2) x76).bind fun hh78 =>
      fX10_year_L178 n v0 v1 (v2 + (1 : Int32)) hh78
def fX10_year (a0 : Nat) (h : am_H) : Option (Int32 × am_H) :=
  (am_isO h a0 9).bind fun _ =>
  (am_pF h a0 9 0 (.int ((0 : Int32)))).bind fun hh1 =>
  (fX10_cutAll a0 hh1).bind fun hh4 =>
  am_b2 (fX10_year_L11 4000 a0 ((0 : Int32)) hh4) fun lw61 hh62 =>
  (am_gI hh62 a0 9 8).bind fun fault64 =>
  if fault64 ≤ 0 then
    (am_gR hh62 a0 9 21).bind fun lines67 =>
    (am_sI hh62 0 lines67 ((0 : Int32)) lw61).bind fun hh69 =>
    Option.bind (fX10_year_L178 4000 a0 lw61 ((0 : Int32)) hh69) fun hh80 =>
    some ((0 : Int32), hh80)
  else
    (am_gI hh62 a0 9 8).bind fun fault82 =>
    some (fault82, hh62)
set_option maxHeartbeats 4000000 in
set_option maxRecDepth 100000 in
theorem lX10_year_L11 {sc : Nat × (Nat → Int32)} : ∀ (n : Nat) (v0 : Nat) (v1 : Int32) (h : am_H) (w1 : Int32) (h1 : am_H), fX10_year_L11 n v0 v1 h = some (w1, h1) → am_G sc (am_Cl am_T am_N sc 4) (am_at kX10_year) (fun t => t = ((157, [some (.ref v0), some (.int w1), none, none], []), h1)) ((11, [some (.ref v0), some (.int v1), none, none], []), h) := by
  intro n
  induction n with
  | zero => intro _ _ _ _ _ H; cases H
  | succ n ih =>
    intro v0 v1 h w1 h1 H
    rw [fX10_year_L11] at H
    refine am_G.fr 1 (g := (12, [some (.ref v0), some (.int v1), none, none], [.ref v0])) rfl ?_
    obtain ⟨fault5, e6, H⟩ := am_bd H
    refine am_G.gI rfl e6 ?_
    by_cases c7 : ¬ fault5 = 0
    · rw [if_pos c7] at H
      refine am_G.br (tgt := 157) rfl rfl (if_pos c7) rfl ?_
      obtain ⟨rfl, rfl⟩ := am_inj2 H
      exact am_G.nd rfl
    · rw [if_neg c7] at H
      refine am_G.br (tgt := 18) rfl rfl (if_neg c7) rfl ?_
      refine am_G.fr 1 (g := (19, [some (.ref v0), some (.int v1), none, none], [.ref v0])) rfl ?_
      obtain ⟨sort8, e9, H⟩ := am_bd H
      refine am_G.gR rfl e9 ?_
      refine am_G.fr 1 (g := (23, [some (.ref v0), some (.int v1), none, none], [.ref v0, .ref sort8])) rfl ?_
      obtain ⟨at10, e11, H⟩ := am_bd H
      refine am_G.gI rfl e11 ?_
      obtain ⟨x12, e13, H⟩ := am_bd H
      refine am_G.aI rfl e13 ?_
      by_cases c14 : x12 = 0
      · rw [if_pos c14] at H
        refine am_G.br (tgt := 157) rfl rfl (if_pos c14) rfl ?_
        obtain ⟨rfl, rfl⟩ := am_inj2 H
        exact am_G.nd rfl
      · rw [if_neg c14] at H
        refine am_G.br (tgt := 30) rfl rfl (if_neg c14) rfl ?_
        refine am_G.fr 3 (g := (34, [some (.ref v0), some (.int v1), none, none], [.int ((4 : Int32)), .int ((10 : Int32)), .ref v0])) rfl ?_
        obtain ⟨x16, e15, H⟩ := am_bd H
        refine am_G.cl [.ref v0, .int ((10 : Int32)), .int ((4 : Int32))] [] (am_Cl.mono (by decide) (lX10_wordHere e15)) rfl rfl rfl rfl (Nat.le_of_ble_eq_true rfl) ?_
        refine am_G.fr 2 (g := (39, [some (.ref v0), some (.int v1), some (.int x16), none], [.int x16])) rfl ?_
        obtain ⟨jv17, hh18, E60, H⟩ := am_bd2 H
        refine am_G.sq (t := ((148, [some (.ref v0), some (.int jv17), none, none], []), hh18)) ?_ ?_
        · clear H
          have H := E60
          clear E60
          by_cases c19 : 0 ≤ x16
          · rw [if_pos c19] at H
            refine am_G.br (tgt := 50) rfl rfl (if_pos c19) rfl ?_
            refine am_G.fr 2 (g := (53, [some (.ref v0), some (.int v1), some (.int x16), none], [.int ((40 : Int32)), .int v1])) rfl ?_
            by_cases c20 : ¬ v1 = ((40 : Int32))
            · rw [if_pos c20] at H
              refine am_G.br (tgt := 64) rfl rfl (if_pos c20) rfl ?_
              refine am_G.fr 2 (g := (66, [some (.ref v0), some (.int v1), some (.int x16), none], [.ref v0, .ref v0])) rfl ?_
              obtain ⟨at21, e22, H⟩ := am_bd H
              refine am_G.gI rfl e22 ?_
              refine am_G.fr 2 (g := (71, [some (.ref v0), some (.int v1), some (.int x16), none], [.int (at21 + ((1 : Int32))), .ref v0])) rfl ?_
              obtain ⟨hh23, e24, H⟩ := am_bd H
              refine am_G.pF rfl e24 ?_
              refine am_G.fr 7 (g := (82, [some (.ref v0), some (.int v1), some (.int x16), some (.int (((125 : Int32)) + (((3 : Int32)) * v1)))], [.ref v0])) rfl ?_
              obtain ⟨lines25, e26, H⟩ := am_bd H
              refine am_G.gR rfl e26 ?_
              refine am_G.fr 2 (g := (87, [some (.ref v0), some (.int v1), some (.int x16), some (.int (((125 : Int32)) + (((3 : Int32)) * v1)))], [.int x16, .int (((125 : Int32)) + (((3 : Int32)) * v1)), .ref lines25])) rfl ?_
              obtain ⟨hh27, e28, H⟩ := am_bd H
              refine am_G.sI rfl e28 ?_
              refine am_G.fr 1 (g := (89, [some (.ref v0), some (.int v1), some (.int x16), some (.int (((125 : Int32)) + (((3 : Int32)) * v1)))], [.ref v0])) rfl ?_
              obtain ⟨lines29, e30, H⟩ := am_bd H
              refine am_G.gR rfl e30 ?_
              refine am_G.fr 4 (g := (96, [some (.ref v0), some (.int v1), some (.int x16), some (.int (((125 : Int32)) + (((3 : Int32)) * v1)))], [.int x16, .int ((((125 : Int32)) + (((3 : Int32)) * v1)) + ((1 : Int32))), .ref lines29])) rfl ?_
              obtain ⟨js31, hh32, E53, H⟩ := am_bd2 H
              refine am_G.sq (t := ((120, [some (.ref v0), some (.int v1), some (.int x16), some (.int (((125 : Int32)) + (((3 : Int32)) * v1)))], [.int js31, .int ((((125 : Int32)) + (((3 : Int32)) * v1)) + ((1 : Int32))), .ref lines29]), hh32)) ?_ ?_
              · clear H
                have H := E53
                clear E53
                by_cases c33 : ¬ x16 = 0
                · rw [if_pos c33] at H
                  refine am_G.br (tgt := 103) rfl rfl (if_pos c33) rfl ?_
                  refine am_G.fr 4 (g := (107, [some (.ref v0), some (.int v1), some (.int x16), some (.int (((125 : Int32)) + (((3 : Int32)) * v1)))], [.int ((3 : Int32)), .int x16, .int ((0 : Int32)), .ref v0, .int ((((125 : Int32)) + (((3 : Int32)) * v1)) + ((1 : Int32))), .ref lines29])) rfl ?_
                  obtain ⟨js34, E39, H⟩ := am_bd H
                  refine am_G.sq (t := ((116, [some (.ref v0), some (.int v1), some (.int x16), some (.int (((125 : Int32)) + (((3 : Int32)) * v1)))], [.int js34, .int ((0 : Int32)), .ref v0, .int ((((125 : Int32)) + (((3 : Int32)) * v1)) + ((1 : Int32))), .ref lines29]), hh27)) ?_ ?_
                  · clear H
                    have H := E39
                    clear E39
                    by_cases c35 : ¬ x16 = ((3 : Int32))
                    · rw [if_pos c35] at H
                      refine am_G.br (tgt := 114) rfl rfl (if_pos c35) rfl ?_
                      refine am_G.fr 1 (g := (116, [some (.ref v0), some (.int v1), some (.int x16), some (.int (((125 : Int32)) + (((3 : Int32)) * v1)))], [.int ((20 : Int32)), .int ((0 : Int32)), .ref v0, .int ((((125 : Int32)) + (((3 : Int32)) * v1)) + ((1 : Int32))), .ref lines29])) rfl ?_
                      obtain rfl := Option.some.inj H
                      exact am_G.nd rfl
                    · rw [if_neg c35] at H
                      refine am_G.br (tgt := 110) rfl rfl (if_neg c35) rfl ?_
                      refine am_G.fr 2 (g := (116, [some (.ref v0), some (.int v1), some (.int x16), some (.int (((125 : Int32)) + (((3 : Int32)) * v1)))], [.int ((0 : Int32)), .int ((0 : Int32)), .ref v0, .int ((((125 : Int32)) + (((3 : Int32)) * v1)) + ((1 : Int32))), .ref lines29])) rfl ?_
                      obtain rfl := Option.some.inj H
                      exact am_G.nd rfl
                  · clear E39
                    refine am_G.fr 1 (g := (117, [some (.ref v0), some (.int v1), some (.int x16), some (.int (((125 : Int32)) + (((3 : Int32)) * v1)))], [.int ((0 : Int32)), .int js34, .int ((0 : Int32)), .ref v0, .int ((((125 : Int32)) + (((3 : Int32)) * v1)) + ((1 : Int32))), .ref lines29])) rfl ?_
                    obtain ⟨x37, hh38, e36, H⟩ := am_bd2 H
                    refine am_G.cl [.ref v0, .int ((0 : Int32)), .int js34, .int ((0 : Int32))] [.int ((((125 : Int32)) + (((3 : Int32)) * v1)) + ((1 : Int32))), .ref lines29] (am_Cl.mono (by decide) (lX10_takeTold e36)) rfl rfl rfl rfl (Nat.le_of_ble_eq_true rfl) ?_
                    obtain ⟨rfl, rfl⟩ := am_inj2 H
                    exact am_G.nd rfl
                · rw [if_neg c33] at H
                  refine am_G.br (tgt := 99) rfl rfl (if_neg c33) rfl ?_
                  refine am_G.fr 2 (g := (120, [some (.ref v0), some (.int v1), some (.int x16), some (.int (((125 : Int32)) + (((3 : Int32)) * v1)))], [.int ((0 : Int32)), .int ((((125 : Int32)) + (((3 : Int32)) * v1)) + ((1 : Int32))), .ref lines29])) rfl ?_
                  obtain ⟨rfl, rfl⟩ := am_inj2 H
                  exact am_G.nd rfl
              · clear E53
                obtain ⟨hh40, e41, H⟩ := am_bd H
                refine am_G.sI rfl e41 ?_
                refine am_G.fr 1 (g := (122, [some (.ref v0), some (.int v1), some (.int x16), some (.int (((125 : Int32)) + (((3 : Int32)) * v1)))], [.ref v0])) rfl ?_
                obtain ⟨lines42, e43, H⟩ := am_bd H
                refine am_G.gR rfl e43 ?_
                refine am_G.fr 5 (g := (130, [some (.ref v0), some (.int v1), some (.int x16), some (.int (((125 : Int32)) + (((3 : Int32)) * v1)))], [.int ((1 : Int32)), .int x16, .int ((((125 : Int32)) + (((3 : Int32)) * v1)) + ((2 : Int32))), .ref lines42])) rfl ?_
                obtain ⟨js44, hh45, E52, H⟩ := am_bd2 H
                refine am_G.sq (t := ((144, [some (.ref v0), some (.int v1), none, none], [.int js44, .int ((((125 : Int32)) + (((3 : Int32)) * v1)) + ((2 : Int32))), .ref lines42]), hh45)) ?_ ?_
                · clear H
                  have H := E52
                  clear E52
                  by_cases c46 : ¬ x16 = ((1 : Int32))
                  · rw [if_pos c46] at H
                    refine am_G.br (tgt := 143) rfl rfl (if_pos c46) rfl ?_
                    refine am_G.fr 1 (g := (144, [some (.ref v0), some (.int v1), some (.int x16), some (.int (((125 : Int32)) + (((3 : Int32)) * v1)))], [.int ((0 : Int32)), .int ((((125 : Int32)) + (((3 : Int32)) * v1)) + ((2 : Int32))), .ref lines42])) rfl ?_
                    obtain ⟨rfl, rfl⟩ := am_inj2 H
                    refine am_G.fg [some (.ref v0), some (.int v1), none, none] (by simp only [am_sub, and_self]) ?_
                    exact am_G.nd rfl
                  · rw [if_neg c46] at H
                    refine am_G.br (tgt := 133) rfl rfl (if_neg c46) rfl ?_
                    refine am_G.fr 4 (g := (137, [some (.ref v0), some (.int v1), some (.int x16), some (.int (((125 : Int32)) + (((3 : Int32)) * v1)))], [.int ((0 : Int32)), .int ((0 : Int32)), .int ((0 : Int32)), .ref v0, .int ((((125 : Int32)) + (((3 : Int32)) * v1)) + ((2 : Int32))), .ref lines42])) rfl ?_
                    obtain ⟨x48, hh49, e47, H⟩ := am_bd2 H
                    refine am_G.cl [.ref v0, .int ((0 : Int32)), .int ((0 : Int32)), .int ((0 : Int32))] [.int ((((125 : Int32)) + (((3 : Int32)) * v1)) + ((2 : Int32))), .ref lines42] (am_Cl.mono (by decide) (lX10_takeTold e47)) rfl rfl rfl rfl (Nat.le_of_ble_eq_true rfl) ?_
                    refine am_G.fr 1 (g := (144, [some (.ref v0), some (.int v1), some (.int x16), some (.int (((125 : Int32)) + (((3 : Int32)) * v1)))], [.int x48, .int ((((125 : Int32)) + (((3 : Int32)) * v1)) + ((2 : Int32))), .ref lines42])) rfl ?_
                    obtain ⟨rfl, rfl⟩ := am_inj2 H
                    refine am_G.fg [some (.ref v0), some (.int v1), none, none] (by simp only [am_sub, and_self]) ?_
                    exact am_G.nd rfl
                · clear E52
                  obtain ⟨hh50, e51, H⟩ := am_bd H
                  refine am_G.sI rfl e51 ?_
                  refine am_G.fr 1 (g := (148, [some (.ref v0), some (.int (v1 + (1 : Int32))), none, none], [])) rfl ?_
                  obtain ⟨rfl, rfl⟩ := am_inj2 H
                  exact am_G.nd rfl
            · rw [if_neg c20] at H
              refine am_G.br (tgt := 56) rfl rfl (if_neg c20) rfl ?_
              refine am_G.fr 2 (g := (58, [some (.ref v0), some (.int v1), some (.int x16), none], [.int ((5 : Int32)), .ref v0])) rfl ?_
              obtain ⟨hh55, e54, H⟩ := am_bd H
              refine am_G.cl [.ref v0, .int ((5 : Int32))] [] (am_Cl.mono (by decide) (lX10_wrong e54)) rfl rfl rfl rfl (Nat.le_of_ble_eq_true rfl) ?_
              refine am_G.fr 1 (g := (148, [some (.ref v0), some (.int v1), some (.int x16), none], [])) rfl ?_
              obtain ⟨rfl, rfl⟩ := am_inj2 H
              refine am_G.fg [some (.ref v0), some (.int v1), none, none] (by simp only [am_sub, and_self]) ?_
              exact am_G.nd rfl
          · rw [if_neg c19] at H
            refine am_G.br (tgt := 42) rfl rfl (if_neg c19) rfl ?_
            refine am_G.fr 2 (g := (44, [some (.ref v0), some (.int v1), some (.int x16), none], [.int ((1 : Int32)), .ref v0])) rfl ?_
            obtain ⟨hh57, e56, H⟩ := am_bd H
            refine am_G.cl [.ref v0, .int ((1 : Int32))] [] (am_Cl.mono (by decide) (lX10_wrong e56)) rfl rfl rfl rfl (Nat.le_of_ble_eq_true rfl) ?_
            refine am_G.fr 1 (g := (148, [some (.ref v0), some (.int v1), some (.int x16), none], [])) rfl ?_
            obtain ⟨rfl, rfl⟩ := am_inj2 H
            refine am_G.fg [some (.ref v0), some (.int v1), none, none] (by simp only [am_sub, and_self]) ?_
            exact am_G.nd rfl
        · clear E60
          refine am_G.fr 2 (g := (151, [some (.ref v0), some (.int jv17), none, none], [.int ((59 : Int32)), .ref v0])) rfl ?_
          obtain ⟨hh59, e58, H⟩ := am_bd H
          refine am_G.cl [.ref v0, .int ((59 : Int32))] [] (am_Cl.mono (by decide) (lX10_takeSign e58)) rfl rfl rfl rfl (Nat.le_of_ble_eq_true rfl) ?_
          refine am_G.fr 1 (g := (11, [some (.ref v0), some (.int jv17), none, none], [])) rfl ?_
          exact ih _ _ _ _ _ H
set_option maxHeartbeats 4000000 in
set_option maxRecDepth 100000 in
theorem lX10_year_L178 {sc : Nat × (Nat → Int32)} : ∀ (n : Nat) (v0 : Nat) (v1 : Int32) (v2 : Int32) (h : am_H) (h1 : am_H), fX10_year_L178 n v0 v1 v2 h = some h1 → am_G sc (am_Cl am_T am_N sc 4) (am_at kX10_year) (fun t => t = ((208, [none, none, none, none], []), h1)) ((178, [some (.ref v0), some (.int v1), some (.int v2), none], []), h) := by
  intro n
  induction n with
  | zero => intro _ _ _ _ _ H; cases H
  | succ n ih =>
    intro v0 v1 v2 h h1 H
    rw [fX10_year_L178] at H
    refine am_G.fr 4 (g := (182, [some (.ref v0), some (.int v1), some (.int v2), none], [.int (((3 : Int32)) * v1), .int v2])) rfl ?_
    by_cases c71 : (((3 : Int32)) * v1) ≤ v2
    · rw [if_pos c71] at H
      refine am_G.br (tgt := 208) rfl rfl (if_pos c71) rfl ?_
      obtain rfl := Option.some.inj H
      refine am_G.fg [none, none, none, none] (by simp only [am_sub, and_self]) ?_
      exact am_G.nd rfl
    · rw [if_neg c71] at H
      refine am_G.br (tgt := 185) rfl rfl (if_neg c71) rfl ?_
      refine am_G.fr 1 (g := (186, [some (.ref v0), some (.int v1), some (.int v2), none], [.ref v0])) rfl ?_
      obtain ⟨lines72, e73, H⟩ := am_bd H
      refine am_G.gR rfl e73 ?_
      refine am_G.fr 4 (g := (193, [some (.ref v0), some (.int v1), some (.int v2), none], [.ref v0, .int (((1 : Int32)) + v2), .ref lines72])) rfl ?_
      obtain ⟨lines74, e75, H⟩ := am_bd H
      refine am_G.gR rfl e75 ?_
      refine am_G.fr 3 (g := (200, [some (.ref v0), some (.int v1), some (.int v2), none], [.int (((125 : Int32)) + v2), .ref lines74, .int (((1 : Int32)) + v2), .ref lines72])) rfl ?_
      obtain ⟨x76, e77, H⟩ := am_bd H
      refine am_G.aI rfl e77 ?_
      obtain ⟨hh78, e79, H⟩ := am_bd H
      refine am_G.sI rfl e79 ?_
      refine am_G.fr 2 (g := (178, [some (.ref v0), some (.int v1), some (.int (v2 + (1 : Int32))), none], [])) rfl ?_
      exact ih _ _ _ _ _ H
set_option maxHeartbeats 4000000 in
set_option maxRecDepth 100000 in
theorem lX10_year {sc : Nat × (Nat → Int32)} {a0 : Nat} {h : am_H} {r : Int32} {h1 : am_H} (H : fX10_year a0 h = some (r, h1)) : am_Cl am_T am_N sc 5 165 [.ref a0] h (some (.int r)) h1 := by
  unfold fX10_year at H
  obtain ⟨_, hO, H⟩ := am_bd H
  obtain ⟨fs0, hO⟩ := am_isO_ok hO
  refine am_mk (q := qX10_year) rfl (fun _ => ⟨_, _, _, _, _, rfl, hO, rfl, rfl⟩) (fun z => absurd z (by decide)) (Nat.le_of_ble_eq_true rfl) rfl ?_
  show am_G sc (am_Cl am_T am_N sc 4) (am_at kX10_year) (fun t => t.2 = h1 ∧ am_ret 1 (am_at kX10_year) t.1 = some (some (.int r))) ((0, [some (.ref a0), none, none, none], []), h)
  refine am_G.fr 2 (g := (2, [some (.ref a0), none, none, none], [.int ((0 : Int32)), .ref a0])) rfl ?_
  obtain ⟨hh1, e2, H⟩ := am_bd H
  refine am_G.pF rfl e2 ?_
  refine am_G.fr 1 (g := (6, [some (.ref a0), none, none, none], [.ref a0])) rfl ?_
  obtain ⟨hh4, e3, H⟩ := am_bd H
  refine am_G.cl [.ref a0] [] (am_Cl.mono (by decide) (lX10_cutAll e3)) rfl rfl rfl rfl (Nat.le_of_ble_eq_true rfl) ?_
  refine am_G.fr 2 (g := (11, [some (.ref a0), some (.int ((0 : Int32))), none, none], [])) rfl ?_
  obtain ⟨lw61, hh62, E63, H⟩ := am_bd2 H
  refine am_G.sq (lX10_year_L11 _ _ _ _ _ _ E63) ?_
  clear E63
  refine am_G.fr 1 (g := (158, [some (.ref a0), some (.int lw61), none, none], [.ref a0])) rfl ?_
  obtain ⟨fault64, e65, H⟩ := am_bd H
  refine am_G.gI rfl e65 ?_
  by_cases c66 : fault64 ≤ 0
  · rw [if_pos c66] at H
    refine am_G.br (tgt := 169) rfl rfl (if_pos c66) rfl ?_
    refine am_G.fr 1 (g := (170, [some (.ref a0), some (.int lw61), none, none], [.ref a0])) rfl ?_
    obtain ⟨lines67, e68, H⟩ := am_bd H
    refine am_G.gR rfl e68 ?_
    refine am_G.fr 2 (g := (175, [some (.ref a0), some (.int lw61), none, none], [.int lw61, .int ((0 : Int32)), .ref lines67])) rfl ?_
    obtain ⟨hh69, e70, H⟩ := am_bd H
    refine am_G.sI rfl e70 ?_
    refine am_G.fr 2 (g := (178, [some (.ref a0), some (.int lw61), some (.int ((0 : Int32))), none], [])) rfl ?_
    obtain ⟨hh80, E81, H⟩ := am_bd H
    refine am_G.sq (lX10_year_L178 _ _ _ _ _ _ E81) ?_
    clear E81
    refine am_G.fr 1 (g := (209, [none, none, none, none], [.int ((0 : Int32))])) rfl ?_
    obtain ⟨rfl, rfl⟩ := am_inj2 H
    exact am_G.nd ⟨rfl, rfl⟩
  · rw [if_neg c66] at H
    refine am_G.br (tgt := 164) rfl rfl (if_neg c66) rfl ?_
    refine am_G.fr 1 (g := (165, [some (.ref a0), some (.int lw61), none, none], [.ref a0])) rfl ?_
    obtain ⟨fault82, e83, H⟩ := am_bd H
    refine am_G.gI rfl e83 ?_
    obtain ⟨rfl, rfl⟩ := am_inj2 H
    exact am_G.nd ⟨rfl, rfl⟩
def fX10_both (a0 : Int32) (a1 : Int32) (a2 : Int32) (h : am_H) : Option (Int32) :=
  if a0.toInt < 4 ∨ 9 < a0.toInt then
    Option.bind (
      if ¬ a1 = 0 then
        some ((1 : Int32))
      else
        if a2 = 0 then
          some ((0 : Int32))
        else
          some ((1 : Int32))) fun js4 =>
    some js4
  else (some (a0.toInt - 4).toNat).bind fun k2 =>
  if k2 = 0 then
    some (a1 + a2)
  else if k2 = 1 then
    some (a1 - a2)
  else if k2 = 2 then
    some (a1 * a2)
  else if k2 = 3 then
    Option.bind (
      if a2 ≤ a1 then
        some ((0 : Int32))
      else
        some ((1 : Int32))) fun js11 =>
    some js11
  else if k2 = 4 then
    Option.bind (
      if ¬ a1 = a2 then
        some ((0 : Int32))
      else
        some ((1 : Int32))) fun js15 =>
    some js15
  else if k2 = 5 then
    Option.bind (
      if a1 = 0 then
        some ((0 : Int32))
      else
        if a2 = 0 then
          some ((0 : Int32))
        else
          some ((1 : Int32))) fun js19 =>
    some js19
  else none
set_option maxHeartbeats 4000000 in
set_option maxRecDepth 100000 in
theorem lX10_both {sc : Nat × (Nat → Int32)} {a0 : Int32} {a1 : Int32} {a2 : Int32} {h : am_H} {r : Int32} (H : fX10_both a0 a1 a2 h = some r) : am_Cl am_T am_N sc 1 173 [.int a0, .int a1, .int a2] h (some (.int r)) h := by
  unfold fX10_both at H
  refine am_mk (q := qX10_both) rfl (fun z => absurd z (by decide)) (fun z => absurd z (by decide)) (Nat.le_of_ble_eq_true rfl) rfl ?_
  show am_G sc (am_Cl am_T am_N sc 0) (am_at kX10_both) (fun t => t.2 = h ∧ am_ret 1 (am_at kX10_both) t.1 = some (some (.int r))) ((0, [some (.int a0), some (.int a1), some (.int a2)], []), h)
  refine am_G.fr 1 (g := (1, [some (.int a0), some (.int a1), some (.int a2)], [.int a0])) rfl ?_
  by_cases c1 : a0.toInt < 4 ∨ 9 < a0.toInt
  · rw [if_pos c1] at H
    refine am_G.swD (tgt := 88) rfl c1 rfl ?_
    refine am_G.fr 1 (g := (89, [some (.int a0), some (.int a1), some (.int a2)], [.int a1])) rfl ?_
    obtain ⟨js4, E7, H⟩ := am_bd H
    refine am_G.sq (t := ((101, [none, none, none], [.int js4]), h)) ?_ ?_
    · clear H
      have H := E7
      clear E7
      by_cases c5 : ¬ a1 = 0
      · rw [if_pos c5] at H
        refine am_G.br (tgt := 96) rfl rfl (if_pos c5) rfl ?_
        refine am_G.fr 2 (g := (101, [some (.int a0), some (.int a1), some (.int a2)], [.int ((1 : Int32))])) rfl ?_
        obtain rfl := Option.some.inj H
        refine am_G.fg [none, none, none] (by simp only [am_sub, and_self]) ?_
        exact am_G.nd rfl
      · rw [if_neg c5] at H
        refine am_G.br (tgt := 92) rfl rfl (if_neg c5) rfl ?_
        refine am_G.fr 1 (g := (93, [some (.int a0), some (.int a1), some (.int a2)], [.int a2])) rfl ?_
        by_cases c6 : a2 = 0
        · rw [if_pos c6] at H
          refine am_G.br (tgt := 100) rfl rfl (if_pos c6) rfl ?_
          refine am_G.fr 1 (g := (101, [some (.int a0), some (.int a1), some (.int a2)], [.int ((0 : Int32))])) rfl ?_
          obtain rfl := Option.some.inj H
          refine am_G.fg [none, none, none] (by simp only [am_sub, and_self]) ?_
          exact am_G.nd rfl
        · rw [if_neg c6] at H
          refine am_G.br (tgt := 96) rfl rfl (if_neg c6) rfl ?_
          refine am_G.fr 2 (g := (101, [some (.int a0), some (.int a1), some (.int a2)], [.int ((1 : Int32))])) rfl ?_
          obtain rfl := Option.some.inj H
          refine am_G.fg [none, none, none] (by simp only [am_sub, and_self]) ?_
          exact am_G.nd rfl
    · clear E7
      obtain rfl := Option.some.inj H
      exact am_G.nd ⟨rfl, rfl⟩
  · rw [if_neg c1] at H
    obtain ⟨k2, e3, H⟩ := am_bd H
    by_cases c8 : k2 = 0
    · rw [if_pos c8] at H
      refine am_G.sw (tgt := 40) (k0 := 0) rfl c1 ((Option.some.inj e3).trans c8) rfl rfl ?_
      refine am_G.fr 3 (g := (43, [some (.int a0), some (.int a1), some (.int a2)], [.int (a1 + a2)])) rfl ?_
      obtain rfl := Option.some.inj H
      exact am_G.nd ⟨rfl, rfl⟩
    · rw [if_neg c8] at H
      by_cases c9 : k2 = 1
      · rw [if_pos c9] at H
        refine am_G.sw (tgt := 44) (k0 := 1) rfl c1 ((Option.some.inj e3).trans c9) rfl rfl ?_
        refine am_G.fr 3 (g := (47, [some (.int a0), some (.int a1), some (.int a2)], [.int (a1 - a2)])) rfl ?_
        obtain rfl := Option.some.inj H
        exact am_G.nd ⟨rfl, rfl⟩
      · rw [if_neg c9] at H
        by_cases c10 : k2 = 2
        · rw [if_pos c10] at H
          refine am_G.sw (tgt := 48) (k0 := 2) rfl c1 ((Option.some.inj e3).trans c10) rfl rfl ?_
          refine am_G.fr 3 (g := (51, [some (.int a0), some (.int a1), some (.int a2)], [.int (a1 * a2)])) rfl ?_
          obtain rfl := Option.some.inj H
          exact am_G.nd ⟨rfl, rfl⟩
        · rw [if_neg c10] at H
          by_cases c14 : k2 = 3
          · rw [if_pos c14] at H
            refine am_G.sw (tgt := 52) (k0 := 3) rfl c1 ((Option.some.inj e3).trans c14) rfl rfl ?_
            refine am_G.fr 2 (g := (54, [some (.int a0), some (.int a1), some (.int a2)], [.int a2, .int a1])) rfl ?_
            obtain ⟨js11, E13, H⟩ := am_bd H
            refine am_G.sq (t := ((62, [none, none, none], [.int js11]), h)) ?_ ?_
            · clear H
              have H := E13
              clear E13
              by_cases c12 : a2 ≤ a1
              · rw [if_pos c12] at H
                refine am_G.br (tgt := 61) rfl rfl (if_pos c12) rfl ?_
                refine am_G.fr 1 (g := (62, [some (.int a0), some (.int a1), some (.int a2)], [.int ((0 : Int32))])) rfl ?_
                obtain rfl := Option.some.inj H
                refine am_G.fg [none, none, none] (by simp only [am_sub, and_self]) ?_
                exact am_G.nd rfl
              · rw [if_neg c12] at H
                refine am_G.br (tgt := 57) rfl rfl (if_neg c12) rfl ?_
                refine am_G.fr 2 (g := (62, [some (.int a0), some (.int a1), some (.int a2)], [.int ((1 : Int32))])) rfl ?_
                obtain rfl := Option.some.inj H
                refine am_G.fg [none, none, none] (by simp only [am_sub, and_self]) ?_
                exact am_G.nd rfl
            · clear E13
              obtain rfl := Option.some.inj H
              exact am_G.nd ⟨rfl, rfl⟩
          · rw [if_neg c14] at H
            by_cases c18 : k2 = 4
            · rw [if_pos c18] at H
              refine am_G.sw (tgt := 63) (k0 := 4) rfl c1 ((Option.some.inj e3).trans c18) rfl rfl ?_
              refine am_G.fr 2 (g := (65, [some (.int a0), some (.int a1), some (.int a2)], [.int a2, .int a1])) rfl ?_
              obtain ⟨js15, E17, H⟩ := am_bd H
              refine am_G.sq (t := ((73, [none, none, none], [.int js15]), h)) ?_ ?_
              · clear H
                have H := E17
                clear E17
                by_cases c16 : ¬ a1 = a2
                · rw [if_pos c16] at H
                  refine am_G.br (tgt := 72) rfl rfl (if_pos c16) rfl ?_
                  refine am_G.fr 1 (g := (73, [some (.int a0), some (.int a1), some (.int a2)], [.int ((0 : Int32))])) rfl ?_
                  obtain rfl := Option.some.inj H
                  refine am_G.fg [none, none, none] (by simp only [am_sub, and_self]) ?_
                  exact am_G.nd rfl
                · rw [if_neg c16] at H
                  refine am_G.br (tgt := 68) rfl rfl (if_neg c16) rfl ?_
                  refine am_G.fr 2 (g := (73, [some (.int a0), some (.int a1), some (.int a2)], [.int ((1 : Int32))])) rfl ?_
                  obtain rfl := Option.some.inj H
                  refine am_G.fg [none, none, none] (by simp only [am_sub, and_self]) ?_
                  exact am_G.nd rfl
              · clear E17
                obtain rfl := Option.some.inj H
                exact am_G.nd ⟨rfl, rfl⟩
            · rw [if_neg c18] at H
              by_cases c23 : k2 = 5
              · rw [if_pos c23] at H
                refine am_G.sw (tgt := 74) (k0 := 5) rfl c1 ((Option.some.inj e3).trans c23) rfl rfl ?_
                refine am_G.fr 1 (g := (75, [some (.int a0), some (.int a1), some (.int a2)], [.int a1])) rfl ?_
                obtain ⟨js19, E22, H⟩ := am_bd H
                refine am_G.sq (t := ((87, [none, none, none], [.int js19]), h)) ?_ ?_
                · clear H
                  have H := E22
                  clear E22
                  by_cases c20 : a1 = 0
                  · rw [if_pos c20] at H
                    refine am_G.br (tgt := 86) rfl rfl (if_pos c20) rfl ?_
                    refine am_G.fr 1 (g := (87, [some (.int a0), some (.int a1), some (.int a2)], [.int ((0 : Int32))])) rfl ?_
                    obtain rfl := Option.some.inj H
                    refine am_G.fg [none, none, none] (by simp only [am_sub, and_self]) ?_
                    exact am_G.nd rfl
                  · rw [if_neg c20] at H
                    refine am_G.br (tgt := 78) rfl rfl (if_neg c20) rfl ?_
                    refine am_G.fr 1 (g := (79, [some (.int a0), some (.int a1), some (.int a2)], [.int a2])) rfl ?_
                    by_cases c21 : a2 = 0
                    · rw [if_pos c21] at H
                      refine am_G.br (tgt := 86) rfl rfl (if_pos c21) rfl ?_
                      refine am_G.fr 1 (g := (87, [some (.int a0), some (.int a1), some (.int a2)], [.int ((0 : Int32))])) rfl ?_
                      obtain rfl := Option.some.inj H
                      refine am_G.fg [none, none, none] (by simp only [am_sub, and_self]) ?_
                      exact am_G.nd rfl
                    · rw [if_neg c21] at H
                      refine am_G.br (tgt := 82) rfl rfl (if_neg c21) rfl ?_
                      refine am_G.fr 2 (g := (87, [some (.int a0), some (.int a1), some (.int a2)], [.int ((1 : Int32))])) rfl ?_
                      obtain rfl := Option.some.inj H
                      refine am_G.fg [none, none, none] (by simp only [am_sub, and_self]) ?_
                      exact am_G.nd rfl
                · clear E22
                  obtain rfl := Option.some.inj H
                  exact am_G.nd ⟨rfl, rfl⟩
              · rw [if_neg c23] at H
                cases H
def fX10_worthAt_L4 : Nat → Nat → Int32 → Int32 → am_H → Option (am_H)
  | 0, _, _, _, _ => none
  | n + 1, v0, v2, v3, h =>
    (am_gR h v0 9 11).bind fun op1 =>
    (am_aI h 0 op1 v3).bind fun x3 =>
    if x3 = 0 then
      some h
    else
      (am_gR h v0 9 11).bind fun op6 =>
      (am_aI h 0 op6 v3).bind fun x8 =>
      am_b2 (
        if x8 = ((1 : Int32)) then
          (am_gR h v0 9 23).bind fun pile13 =>
          Option.bind (
            if ¬ x8 = ((1 : Int32)) then
              (am_gR h v0 9 22).bind fun facts17 =>
              (am_gR h v0 9 12).bind fun arg19 =>
              (am_aI h 0 arg19 v3).bind fun x21 =>
              (am_aI h 0 facts17 x21).bind fun x23 =>
              some x23
            else
              (am_gR h v0 9 12).bind fun arg25 =>
              (am_aI h 0 arg25 v3).bind fun x27 =>
              some x27) fun js15 =>
          (am_sI h 0 pile13 v2 js15).bind fun hh29 =>
          some (v2 + (1 : Int32), hh29)
        else
          if ¬ x8 = ((2 : Int32)) then
            if ¬ x8 = ((3 : Int32)) then
              (am_gR h v0 9 23).bind fun pile34 =>
              (am_gR h v0 9 23).bind fun pile36 =>
              (am_aI h 0 pile36 ((v2 + (-1 : Int32)) - ((1 : Int32)))).bind fun x38 =>
              (am_gR h v0 9 23).bind fun pile40 =>
              (am_aI h 0 pile40 (v2 + (-1 : Int32))).bind fun x42 =>
              (fX10_both x8 x38 x42 h).bind fun x45 =>
              (am_sI h 0 pile34 ((v2 + (-1 : Int32)) - ((1 : Int32))) x45).bind fun hh46 =>
              some (v2 + (-1 : Int32), hh46)
            else
              (am_gR h v0 9 23).bind fun pile48 =>
              (am_gR h v0 9 23).bind fun pile50 =>
              (am_aI h 0 pile50 (v2 - ((1 : Int32)))).bind fun x52 =>
              Option.bind (
                if ¬ x52 = 0 then
                  some ((0 : Int32))
                else
                  some ((1 : Int32))) fun js54 =>
              (am_sI h 0 pile48 (v2 - ((1 : Int32))) js54).bind fun hh56 =>
              some (v2, hh56)
          else
            (am_gR h v0 9 23).bind fun pile59 =>
            Option.bind (
              if ¬ x8 = ((1 : Int32)) then
                (am_gR h v0 9 22).bind fun facts63 =>
                (am_gR h v0 9 12).bind fun arg65 =>
                (am_aI h 0 arg65 v3).bind fun x67 =>
                (am_aI h 0 facts63 x67).bind fun x69 =>
                some x69
              else
                (am_gR h v0 9 12).bind fun arg71 =>
                (am_aI h 0 arg71 v3).bind fun x73 =>
                some x73) fun js61 =>
            (am_sI h 0 pile59 v2 js61).bind fun hh75 =>
            some (v2 + (1 : Int32), hh75)) fun jv10 hh11 =>
      fX10_worthAt_L4 n v0 jv10 (v3 + (1 : Int32)) hh11
def fX10_worthAt (a0 : Nat) (a1 : Int32) (h : am_H) : Option (Int32 × am_H) :=
  (am_isO h a0 9).bind fun _ =>
  Option.bind (fX10_worthAt_L4 4000 a0 ((0 : Int32)) a1 h) fun hh79 =>
  (am_gR hh79 a0 9 23).bind fun pile81 =>
  (am_aI hh79 0 pile81 ((0 : Int32))).bind fun x83 =>
  some (x83, hh79)
set_option maxHeartbeats 4000000 in
set_option maxRecDepth 100000 in
theorem lX10_worthAt_L4 {sc : Nat × (Nat → Int32)} : ∀ (n : Nat) (v0 : Nat) (v2 : Int32) (v3 : Int32) (h : am_H) (h1 : am_H), fX10_worthAt_L4 n v0 v2 v3 h = some h1 → am_G sc (am_Cl am_T am_N sc 1) (am_at kX10_worthAt) (fun t => t = ((140, [some (.ref v0), none, none, none, none], []), h1)) ((4, [some (.ref v0), none, some (.int v2), some (.int v3), none], []), h) := by
  intro n
  induction n with
  | zero => intro _ _ _ _ _ H; cases H
  | succ n ih =>
    intro v0 v2 v3 h h1 H
    rw [fX10_worthAt_L4] at H
    refine am_G.fr 1 (g := (5, [some (.ref v0), none, some (.int v2), some (.int v3), none], [.ref v0])) rfl ?_
    obtain ⟨op1, e2, H⟩ := am_bd H
    refine am_G.gR rfl e2 ?_
    refine am_G.fr 1 (g := (9, [some (.ref v0), none, some (.int v2), some (.int v3), none], [.int v3, .ref op1])) rfl ?_
    obtain ⟨x3, e4, H⟩ := am_bd H
    refine am_G.aI rfl e4 ?_
    by_cases c5 : x3 = 0
    · rw [if_pos c5] at H
      refine am_G.br (tgt := 140) rfl rfl (if_pos c5) rfl ?_
      obtain rfl := Option.some.inj H
      refine am_G.fg [some (.ref v0), none, none, none, none] (by simp only [am_sub, and_self]) ?_
      exact am_G.nd rfl
    · rw [if_neg c5] at H
      refine am_G.br (tgt := 13) rfl rfl (if_neg c5) rfl ?_
      refine am_G.fr 1 (g := (14, [some (.ref v0), none, some (.int v2), some (.int v3), none], [.ref v0])) rfl ?_
      obtain ⟨op6, e7, H⟩ := am_bd H
      refine am_G.gR rfl e7 ?_
      refine am_G.fr 1 (g := (18, [some (.ref v0), none, some (.int v2), some (.int v3), none], [.int v3, .ref op6])) rfl ?_
      obtain ⟨x8, e9, H⟩ := am_bd H
      refine am_G.aI rfl e9 ?_
      refine am_G.fr 3 (g := (24, [some (.ref v0), none, some (.int v2), some (.int v3), some (.int x8)], [.int ((1 : Int32)), .int x8])) rfl ?_
      obtain ⟨jv10, hh11, E78, H⟩ := am_bd2 H
      refine am_G.sq (t := ((134, [some (.ref v0), none, some (.int jv10), some (.int v3), none], []), hh11)) ?_ ?_
      · clear H
        have H := E78
        clear E78
        by_cases c12 : x8 = ((1 : Int32))
        · rw [if_pos c12] at H
          refine am_G.br (tgt := 33) rfl rfl (if_pos c12) rfl ?_
          refine am_G.fr 1 (g := (34, [some (.ref v0), none, some (.int v2), some (.int v3), some (.int x8)], [.ref v0])) rfl ?_
          obtain ⟨pile13, e14, H⟩ := am_bd H
          refine am_G.gR rfl e14 ?_
          refine am_G.fr 3 (g := (41, [some (.ref v0), none, some (.int v2), some (.int v3), some (.int x8)], [.int ((1 : Int32)), .int x8, .int v2, .ref pile13])) rfl ?_
          obtain ⟨js15, E31, H⟩ := am_bd H
          refine am_G.sq (t := ((64, [some (.ref v0), none, some (.int v2), some (.int v3), none], [.int js15, .int v2, .ref pile13]), h)) ?_ ?_
          · clear H
            have H := E31
            clear E31
            by_cases c16 : ¬ x8 = ((1 : Int32))
            · rw [if_pos c16] at H
              refine am_G.br (tgt := 53) rfl rfl (if_pos c16) rfl ?_
              refine am_G.fr 1 (g := (54, [some (.ref v0), none, some (.int v2), some (.int v3), some (.int x8)], [.ref v0, .int v2, .ref pile13])) rfl ?_
              obtain ⟨facts17, e18, H⟩ := am_bd H
              refine am_G.gR rfl e18 ?_
              refine am_G.fr 1 (g := (58, [some (.ref v0), none, some (.int v2), some (.int v3), some (.int x8)], [.ref v0, .ref facts17, .int v2, .ref pile13])) rfl ?_
              obtain ⟨arg19, e20, H⟩ := am_bd H
              refine am_G.gR rfl e20 ?_
              refine am_G.fr 1 (g := (62, [some (.ref v0), none, some (.int v2), some (.int v3), some (.int x8)], [.int v3, .ref arg19, .ref facts17, .int v2, .ref pile13])) rfl ?_
              obtain ⟨x21, e22, H⟩ := am_bd H
              refine am_G.aI rfl e22 ?_
              obtain ⟨x23, e24, H⟩ := am_bd H
              refine am_G.aI rfl e24 ?_
              obtain rfl := Option.some.inj H
              refine am_G.fg [some (.ref v0), none, some (.int v2), some (.int v3), none] (by simp only [am_sub, and_self]) ?_
              exact am_G.nd rfl
            · rw [if_neg c16] at H
              refine am_G.br (tgt := 44) rfl rfl (if_neg c16) rfl ?_
              refine am_G.fr 1 (g := (45, [some (.ref v0), none, some (.int v2), some (.int v3), some (.int x8)], [.ref v0, .int v2, .ref pile13])) rfl ?_
              obtain ⟨arg25, e26, H⟩ := am_bd H
              refine am_G.gR rfl e26 ?_
              refine am_G.fr 1 (g := (49, [some (.ref v0), none, some (.int v2), some (.int v3), some (.int x8)], [.int v3, .ref arg25, .int v2, .ref pile13])) rfl ?_
              obtain ⟨x27, e28, H⟩ := am_bd H
              refine am_G.aI rfl e28 ?_
              refine am_G.fr 1 (g := (64, [some (.ref v0), none, some (.int v2), some (.int v3), some (.int x8)], [.int x27, .int v2, .ref pile13])) rfl ?_
              obtain rfl := Option.some.inj H
              refine am_G.fg [some (.ref v0), none, some (.int v2), some (.int v3), none] (by simp only [am_sub, and_self]) ?_
              exact am_G.nd rfl
          · clear E31
            obtain ⟨hh29, e30, H⟩ := am_bd H
            refine am_G.sI rfl e30 ?_
            refine am_G.fr 2 (g := (134, [some (.ref v0), none, some (.int (v2 + (1 : Int32))), some (.int v3), none], [])) rfl ?_
            obtain ⟨rfl, rfl⟩ := am_inj2 H
            exact am_G.nd rfl
        · rw [if_neg c12] at H
          refine am_G.br (tgt := 27) rfl rfl (if_neg c12) rfl ?_
          refine am_G.fr 2 (g := (30, [some (.ref v0), none, some (.int v2), some (.int v3), some (.int x8)], [.int ((2 : Int32)), .int x8])) rfl ?_
          by_cases c32 : ¬ x8 = ((2 : Int32))
          · rw [if_pos c32] at H
            refine am_G.br (tgt := 71) rfl rfl (if_pos c32) rfl ?_
            refine am_G.fr 2 (g := (74, [some (.ref v0), none, some (.int v2), some (.int v3), some (.int x8)], [.int ((3 : Int32)), .int x8])) rfl ?_
            by_cases c33 : ¬ x8 = ((3 : Int32))
            · rw [if_pos c33] at H
              refine am_G.br (tgt := 104) rfl rfl (if_pos c33) rfl ?_
              refine am_G.fr 2 (g := (108, [some (.ref v0), none, some (.int (v2 + (-1 : Int32))), some (.int v3), some (.int x8)], [.ref v0])) rfl ?_
              obtain ⟨pile34, e35, H⟩ := am_bd H
              refine am_G.gR rfl e35 ?_
              refine am_G.fr 5 (g := (117, [some (.ref v0), none, some (.int (v2 + (-1 : Int32))), some (.int v3), some (.int x8)], [.ref v0, .int x8, .int ((v2 + (-1 : Int32)) - ((1 : Int32))), .ref pile34])) rfl ?_
              obtain ⟨pile36, e37, H⟩ := am_bd H
              refine am_G.gR rfl e37 ?_
              refine am_G.fr 3 (g := (123, [some (.ref v0), none, some (.int (v2 + (-1 : Int32))), some (.int v3), some (.int x8)], [.int ((v2 + (-1 : Int32)) - ((1 : Int32))), .ref pile36, .int x8, .int ((v2 + (-1 : Int32)) - ((1 : Int32))), .ref pile34])) rfl ?_
              obtain ⟨x38, e39, H⟩ := am_bd H
              refine am_G.aI rfl e39 ?_
              refine am_G.fr 1 (g := (125, [some (.ref v0), none, some (.int (v2 + (-1 : Int32))), some (.int v3), some (.int x8)], [.ref v0, .int x38, .int x8, .int ((v2 + (-1 : Int32)) - ((1 : Int32))), .ref pile34])) rfl ?_
              obtain ⟨pile40, e41, H⟩ := am_bd H
              refine am_G.gR rfl e41 ?_
              refine am_G.fr 1 (g := (129, [some (.ref v0), none, some (.int (v2 + (-1 : Int32))), some (.int v3), some (.int x8)], [.int (v2 + (-1 : Int32)), .ref pile40, .int x38, .int x8, .int ((v2 + (-1 : Int32)) - ((1 : Int32))), .ref pile34])) rfl ?_
              obtain ⟨x42, e43, H⟩ := am_bd H
              refine am_G.aI rfl e43 ?_
              obtain ⟨x45, e44, H⟩ := am_bd H
              refine am_G.cl [.int x8, .int x38, .int x42] [.int ((v2 + (-1 : Int32)) - ((1 : Int32))), .ref pile34] (am_Cl.mono (by decide) (lX10_both e44)) rfl rfl rfl rfl (Nat.le_of_ble_eq_true rfl) ?_
              obtain ⟨hh46, e47, H⟩ := am_bd H
              refine am_G.sI rfl e47 ?_
              obtain ⟨rfl, rfl⟩ := am_inj2 H
              refine am_G.fg [some (.ref v0), none, some (.int (v2 + (-1 : Int32))), some (.int v3), none] (by simp only [am_sub, and_self]) ?_
              exact am_G.nd rfl
            · rw [if_neg c33] at H
              refine am_G.br (tgt := 77) rfl rfl (if_neg c33) rfl ?_
              refine am_G.fr 1 (g := (78, [some (.ref v0), none, some (.int v2), some (.int v3), some (.int x8)], [.ref v0])) rfl ?_
              obtain ⟨pile48, e49, H⟩ := am_bd H
              refine am_G.gR rfl e49 ?_
              refine am_G.fr 4 (g := (85, [some (.ref v0), none, some (.int v2), some (.int v3), some (.int x8)], [.ref v0, .int (v2 - ((1 : Int32))), .ref pile48])) rfl ?_
              obtain ⟨pile50, e51, H⟩ := am_bd H
              refine am_G.gR rfl e51 ?_
              refine am_G.fr 3 (g := (91, [some (.ref v0), none, some (.int v2), some (.int v3), some (.int x8)], [.int (v2 - ((1 : Int32))), .ref pile50, .int (v2 - ((1 : Int32))), .ref pile48])) rfl ?_
              obtain ⟨x52, e53, H⟩ := am_bd H
              refine am_G.aI rfl e53 ?_
              obtain ⟨js54, E58, H⟩ := am_bd H
              refine am_G.sq (t := ((100, [some (.ref v0), none, some (.int v2), some (.int v3), none], [.int js54, .int (v2 - ((1 : Int32))), .ref pile48]), h)) ?_ ?_
              · clear H
                have H := E58
                clear E58
                by_cases c55 : ¬ x52 = 0
                · rw [if_pos c55] at H
                  refine am_G.br (tgt := 99) rfl rfl (if_pos c55) rfl ?_
                  refine am_G.fr 1 (g := (100, [some (.ref v0), none, some (.int v2), some (.int v3), some (.int x8)], [.int ((0 : Int32)), .int (v2 - ((1 : Int32))), .ref pile48])) rfl ?_
                  obtain rfl := Option.some.inj H
                  refine am_G.fg [some (.ref v0), none, some (.int v2), some (.int v3), none] (by simp only [am_sub, and_self]) ?_
                  exact am_G.nd rfl
                · rw [if_neg c55] at H
                  refine am_G.br (tgt := 95) rfl rfl (if_neg c55) rfl ?_
                  refine am_G.fr 2 (g := (100, [some (.ref v0), none, some (.int v2), some (.int v3), some (.int x8)], [.int ((1 : Int32)), .int (v2 - ((1 : Int32))), .ref pile48])) rfl ?_
                  obtain rfl := Option.some.inj H
                  refine am_G.fg [some (.ref v0), none, some (.int v2), some (.int v3), none] (by simp only [am_sub, and_self]) ?_
                  exact am_G.nd rfl
              · clear E58
                obtain ⟨hh56, e57, H⟩ := am_bd H
                refine am_G.sI rfl e57 ?_
                refine am_G.fr 1 (g := (134, [some (.ref v0), none, some (.int v2), some (.int v3), none], [])) rfl ?_
                obtain ⟨rfl, rfl⟩ := am_inj2 H
                exact am_G.nd rfl
          · rw [if_neg c32] at H
            refine am_G.br (tgt := 33) rfl rfl (if_neg c32) rfl ?_
            refine am_G.fr 1 (g := (34, [some (.ref v0), none, some (.int v2), some (.int v3), some (.int x8)], [.ref v0])) rfl ?_
            obtain ⟨pile59, e60, H⟩ := am_bd H
            refine am_G.gR rfl e60 ?_
            refine am_G.fr 3 (g := (41, [some (.ref v0), none, some (.int v2), some (.int v3), some (.int x8)], [.int ((1 : Int32)), .int x8, .int v2, .ref pile59])) rfl ?_
            obtain ⟨js61, E77, H⟩ := am_bd H
            refine am_G.sq (t := ((64, [some (.ref v0), none, some (.int v2), some (.int v3), none], [.int js61, .int v2, .ref pile59]), h)) ?_ ?_
            · clear H
              have H := E77
              clear E77
              by_cases c62 : ¬ x8 = ((1 : Int32))
              · rw [if_pos c62] at H
                refine am_G.br (tgt := 53) rfl rfl (if_pos c62) rfl ?_
                refine am_G.fr 1 (g := (54, [some (.ref v0), none, some (.int v2), some (.int v3), some (.int x8)], [.ref v0, .int v2, .ref pile59])) rfl ?_
                obtain ⟨facts63, e64, H⟩ := am_bd H
                refine am_G.gR rfl e64 ?_
                refine am_G.fr 1 (g := (58, [some (.ref v0), none, some (.int v2), some (.int v3), some (.int x8)], [.ref v0, .ref facts63, .int v2, .ref pile59])) rfl ?_
                obtain ⟨arg65, e66, H⟩ := am_bd H
                refine am_G.gR rfl e66 ?_
                refine am_G.fr 1 (g := (62, [some (.ref v0), none, some (.int v2), some (.int v3), some (.int x8)], [.int v3, .ref arg65, .ref facts63, .int v2, .ref pile59])) rfl ?_
                obtain ⟨x67, e68, H⟩ := am_bd H
                refine am_G.aI rfl e68 ?_
                obtain ⟨x69, e70, H⟩ := am_bd H
                refine am_G.aI rfl e70 ?_
                obtain rfl := Option.some.inj H
                refine am_G.fg [some (.ref v0), none, some (.int v2), some (.int v3), none] (by simp only [am_sub, and_self]) ?_
                exact am_G.nd rfl
              · rw [if_neg c62] at H
                refine am_G.br (tgt := 44) rfl rfl (if_neg c62) rfl ?_
                refine am_G.fr 1 (g := (45, [some (.ref v0), none, some (.int v2), some (.int v3), some (.int x8)], [.ref v0, .int v2, .ref pile59])) rfl ?_
                obtain ⟨arg71, e72, H⟩ := am_bd H
                refine am_G.gR rfl e72 ?_
                refine am_G.fr 1 (g := (49, [some (.ref v0), none, some (.int v2), some (.int v3), some (.int x8)], [.int v3, .ref arg71, .int v2, .ref pile59])) rfl ?_
                obtain ⟨x73, e74, H⟩ := am_bd H
                refine am_G.aI rfl e74 ?_
                refine am_G.fr 1 (g := (64, [some (.ref v0), none, some (.int v2), some (.int v3), some (.int x8)], [.int x73, .int v2, .ref pile59])) rfl ?_
                obtain rfl := Option.some.inj H
                refine am_G.fg [some (.ref v0), none, some (.int v2), some (.int v3), none] (by simp only [am_sub, and_self]) ?_
                exact am_G.nd rfl
            · clear E77
              obtain ⟨hh75, e76, H⟩ := am_bd H
              refine am_G.sI rfl e76 ?_
              refine am_G.fr 2 (g := (134, [some (.ref v0), none, some (.int (v2 + (1 : Int32))), some (.int v3), none], [])) rfl ?_
              obtain ⟨rfl, rfl⟩ := am_inj2 H
              exact am_G.nd rfl
      · clear E78
        refine am_G.fr 2 (g := (4, [some (.ref v0), none, some (.int jv10), some (.int (v3 + (1 : Int32))), none], [])) rfl ?_
        exact ih _ _ _ _ _ H
set_option maxHeartbeats 4000000 in
set_option maxRecDepth 100000 in
theorem lX10_worthAt {sc : Nat × (Nat → Int32)} {a0 : Nat} {a1 : Int32} {h : am_H} {r : Int32} {h1 : am_H} (H : fX10_worthAt a0 a1 h = some (r, h1)) : am_Cl am_T am_N sc 2 172 [.ref a0, .int a1] h (some (.int r)) h1 := by
  unfold fX10_worthAt at H
  obtain ⟨_, hO, H⟩ := am_bd H
  obtain ⟨fs0, hO⟩ := am_isO_ok hO
  refine am_mk (q := qX10_worthAt) rfl (fun _ => ⟨_, _, _, _, _, rfl, hO, rfl, rfl⟩) (fun z => absurd z (by decide)) (Nat.le_of_ble_eq_true rfl) rfl ?_
  show am_G sc (am_Cl am_T am_N sc 1) (am_at kX10_worthAt) (fun t => t.2 = h1 ∧ am_ret 1 (am_at kX10_worthAt) t.1 = some (some (.int r))) ((0, [some (.ref a0), some (.int a1), none, none, none], []), h)
  refine am_G.fr 4 (g := (4, [some (.ref a0), some (.int a1), some (.int ((0 : Int32))), some (.int a1), none], [])) rfl ?_
  obtain ⟨hh79, E80, H⟩ := am_bd H
  refine am_G.fg [some (.ref a0), none, some (.int ((0 : Int32))), some (.int a1), none] (by simp only [am_sub, and_self]) ?_
  refine am_G.sq (lX10_worthAt_L4 _ _ _ _ _ _ E80) ?_
  clear E80
  refine am_G.fr 1 (g := (141, [some (.ref a0), none, none, none, none], [.ref a0])) rfl ?_
  obtain ⟨pile81, e82, H⟩ := am_bd H
  refine am_G.gR rfl e82 ?_
  refine am_G.fr 1 (g := (145, [some (.ref a0), none, none, none, none], [.int ((0 : Int32)), .ref pile81])) rfl ?_
  obtain ⟨x83, e84, H⟩ := am_bd H
  refine am_G.aI rfl e84 ?_
  obtain ⟨rfl, rfl⟩ := am_inj2 H
  exact am_G.nd ⟨rfl, rfl⟩
def fX10_copies_L3 : Nat → Nat → Int32 → Int32 → Int32 → Int32 → am_H → Option (am_H)
  | 0, _, _, _, _, _, _ => none
  | n + 1, v0, v1, v2, v3, v4, h =>
    if v3 ≤ v4 then
      some h
    else
      (am_gR h v0 9 24).bind fun state2 =>
      (am_gR h v0 9 24).bind fun state4 =>
      (am_aI h 0 state4 (v1 + v4)).bind fun x6 =>
      (am_sI h 0 state2 (v2 + v4) x6).bind fun hh8 =>
      fX10_copies_L3 n v0 v1 v2 v3 (v4 + (1 : Int32)) hh8
def fX10_copies (a0 : Nat) (a1 : Int32) (a2 : Int32) (a3 : Int32) (h : am_H) : Option (am_H) :=
  (am_isO h a0 9).bind fun _ =>
  Option.bind (fX10_copies_L3 4000 a0 a1 a2 a3 ((0 : Int32)) h) fun hh10 =>
  some hh10
set_option maxHeartbeats 4000000 in
set_option maxRecDepth 100000 in
theorem lX10_copies_L3 {sc : Nat × (Nat → Int32)} : ∀ (n : Nat) (v0 : Nat) (v1 : Int32) (v2 : Int32) (v3 : Int32) (v4 : Int32) (h : am_H) (h1 : am_H), fX10_copies_L3 n v0 v1 v2 v3 v4 h = some h1 → am_G sc (am_Cl am_T am_N sc 0) (am_at kX10_copies) (fun t => t = ((33, [none, none, none, none, none], []), h1)) ((3, [some (.ref v0), some (.int v1), some (.int v2), some (.int v3), some (.int v4)], []), h) := by
  intro n
  induction n with
  | zero => intro _ _ _ _ _ _ _ H; cases H
  | succ n ih =>
    intro v0 v1 v2 v3 v4 h h1 H
    rw [fX10_copies_L3] at H
    refine am_G.fr 2 (g := (6, [some (.ref v0), some (.int v1), some (.int v2), some (.int v3), some (.int v4)], [.int v3, .int v4])) rfl ?_
    by_cases c1 : v3 ≤ v4
    · rw [if_pos c1] at H
      refine am_G.br (tgt := 33) rfl rfl (if_pos c1) rfl ?_
      obtain rfl := Option.some.inj H
      refine am_G.fg [none, none, none, none, none] (by simp only [am_sub, and_self]) ?_
      exact am_G.nd rfl
    · rw [if_neg c1] at H
      refine am_G.br (tgt := 9) rfl rfl (if_neg c1) rfl ?_
      refine am_G.fr 1 (g := (10, [some (.ref v0), some (.int v1), some (.int v2), some (.int v3), some (.int v4)], [.ref v0])) rfl ?_
      obtain ⟨state2, e3, H⟩ := am_bd H
      refine am_G.gR rfl e3 ?_
      refine am_G.fr 4 (g := (18, [some (.ref v0), some (.int v1), some (.int v2), some (.int v3), some (.int v4)], [.ref v0, .int (v2 + v4), .ref state2])) rfl ?_
      obtain ⟨state4, e5, H⟩ := am_bd H
      refine am_G.gR rfl e5 ?_
      refine am_G.fr 3 (g := (25, [some (.ref v0), some (.int v1), some (.int v2), some (.int v3), some (.int v4)], [.int (v1 + v4), .ref state4, .int (v2 + v4), .ref state2])) rfl ?_
      obtain ⟨x6, e7, H⟩ := am_bd H
      refine am_G.aI rfl e7 ?_
      obtain ⟨hh8, e9, H⟩ := am_bd H
      refine am_G.sI rfl e9 ?_
      refine am_G.fr 2 (g := (3, [some (.ref v0), some (.int v1), some (.int v2), some (.int v3), some (.int (v4 + (1 : Int32)))], [])) rfl ?_
      exact ih _ _ _ _ _ _ _ H
set_option maxHeartbeats 4000000 in
set_option maxRecDepth 100000 in
theorem lX10_copies {sc : Nat × (Nat → Int32)} {a0 : Nat} {a1 : Int32} {a2 : Int32} {a3 : Int32} {h : am_H} {h1 : am_H} (H : fX10_copies a0 a1 a2 a3 h = some h1) : am_Cl am_T am_N sc 1 174 [.ref a0, .int a1, .int a2, .int a3] h none h1 := by
  unfold fX10_copies at H
  obtain ⟨_, hO, H⟩ := am_bd H
  obtain ⟨fs0, hO⟩ := am_isO_ok hO
  refine am_mk (q := qX10_copies) rfl (fun _ => ⟨_, _, _, _, _, rfl, hO, rfl, rfl⟩) (fun z => absurd z (by decide)) (Nat.le_of_ble_eq_true rfl) rfl ?_
  show am_G sc (am_Cl am_T am_N sc 0) (am_at kX10_copies) (fun t => t.2 = h1 ∧ am_ret 0 (am_at kX10_copies) t.1 = some none) ((0, [some (.ref a0), some (.int a1), some (.int a2), some (.int a3), none], []), h)
  refine am_G.fr 2 (g := (3, [some (.ref a0), some (.int a1), some (.int a2), some (.int a3), some (.int ((0 : Int32)))], [])) rfl ?_
  obtain ⟨hh10, E11, H⟩ := am_bd H
  refine am_G.sq (lX10_copies_L3 _ _ _ _ _ _ _ _ E11) ?_
  clear E11
  obtain rfl := Option.some.inj H
  exact am_G.nd ⟨rfl, rfl⟩
