/-! lifted: recursive methods, and those that call them -/
def am_RcX1_readLevel (sc : Nat × (Nat → Int32)) (d : Nat) (rc : Nat → Nat → Nat → Int32 → Int32 → am_H → Option (Int32 × am_H)) : Prop := ∀ (a0 : Nat) (a1 : Nat) (a2 : Int32) (a3 : Int32) (h : am_H) (r : Int32) (h1 : am_H), (rc 0 a0 a1 a2 a3 h = some (r, h1) → am_Cl am_T am_N sc d 5 [.ref a0, .ref a1, .int a2, .int a3] h (some (.int r)) h1) ∧ (rc 1 a0 a1 a2 a3 h = some (r, h1) → am_Cl am_T am_N sc d 7 [.ref a0, .ref a1, .int a3] h (some (.int r)) h1)
def fX1_readLevel_L29 (rc : Nat → Nat → Nat → Int32 → Int32 → am_H → Option (Int32 × am_H)) : Nat → Nat → Nat → Int32 → Int32 → Int32 → am_H → Option ((am_H) ⊕ (Int32 × am_H))
  | 0, _, _, _, _, _, _ => none
  | n + 1, v0, v1, v2, v3, v4, h =>
    if ((1000 : Int32)) ≤ v4 then
      some (.inl h)
    else
      (fX1_operatorOf v1 v2 h).bind fun x8 =>
      if ¬ x8 = 0 then
        (fX7_step v1 h).bind fun hh11 =>
        am_b2 (rc 0 v0 v1 (v2 + ((1 : Int32))) v3 hh11) fun x13 hh14 =>
        if ¬ x13 = 0 then
          (fX1_add v0 x8 hh14).bind fun hh17 =>
          if ¬ v2 = ((1 : Int32)) then
            fX1_readLevel_L29 rc n v0 v1 v2 v3 (v4 + (1 : Int32)) hh17
          else
            some (.inr ((1 : Int32), hh17))
        else
          some (.inr ((0 : Int32), hh14))
      else
        some (.inr ((1 : Int32), h))
def gX1_readLevel : Nat → Nat → Nat → Nat → Int32 → Int32 → am_H → Option (Int32 × am_H)
  | 0, _, _, _, _, _, _ => none
  | n + 1, tag, a0, a1, a2, a3, h =>
    if tag = 0 then
      (am_isO h a0 1).bind fun _ =>
      if a2 ≤ ((3 : Int32)) then
        am_b2 (gX1_readLevel n 0 a0 a1 (a2 + ((1 : Int32))) a3 h) fun x3 hh4 =>
        if ¬ x3 = 0 then
          (fX1_readLevel_L29 (gX1_readLevel n) 4000 a0 a1 a2 a3 ((0 : Int32)) hh4).bind fun o21 => match o21 with
            | .inl hh19 =>
              some ((1 : Int32), hh19)
            | .inr y22 => some y22
        else
          some ((0 : Int32), hh4)
      else
        am_b2 (gX1_readLevel n 1 a0 a1 (0 : Int32) a3 h) fun x24 hh25 =>
        (am_z01 x24).bind fun b26 =>
        some (b26, hh25)
    else if tag = 1 then
      (am_isO h a0 1).bind fun _ =>
      (fX7_isWord a1 1000018 h).bind fun x2 =>
      (fX7_isSignOf a1 ((40 : Int32)) h).bind fun x4 =>
      (fX1_factOf a1 h).bind fun x6 =>
      if ¬ x2 = 0 then
        if a3 < ((5 : Int32)) then
          (am_gI h a1 6 5).bind fun number9 =>
          (fX7_step a1 h).bind fun hh12 =>
          if x4 = 0 then
            if x2 = 0 then
              Option.bind (
                if x6 = 0 then
                  some number9
                else
                  some x6) fun js15 =>
              (fX1_add a0 js15 hh12).bind fun hh18 =>
              some ((1 : Int32), hh18)
            else
              am_b2 (gX1_readLevel n 1 a0 a1 (0 : Int32) (a3 + ((1 : Int32))) hh12) fun x21 hh22 =>
              if ¬ x21 = 0 then
                (fX1_add a0 ((-5 : Int32)) hh22).bind fun hh25 =>
                some ((1 : Int32), hh25)
              else
                some ((0 : Int32), hh22)
          else
            am_b2 (gX1_readLevel n 0 a0 a1 ((0 : Int32)) (a3 + ((1 : Int32))) hh12) fun x27 hh28 =>
            am_b2 (
              if x27 = 0 then
                some ((0 : Int32), hh28)
              else
                am_b2 (fX7_passSign a1 ((41 : Int32)) hh28) fun x33 hh34 =>
                if x33 = 0 then
                  some ((0 : Int32), hh34)
                else
                  some ((1 : Int32), hh34)) fun js29 hh30 =>
            (am_z01 js29).bind fun b36 =>
            some (b36, hh30)
        else
          am_b2 (fX7_refuse a1 ((5 : Int32)) h) fun x40 hh41 =>
          (am_z01 x40).bind fun b42 =>
          some (b42, hh41)
      else
        if ¬ x4 = 0 then
          if a3 < ((5 : Int32)) then
            (am_gI h a1 6 5).bind fun number46 =>
            (fX7_step a1 h).bind fun hh49 =>
            if x4 = 0 then
              if x2 = 0 then
                Option.bind (
                  if x6 = 0 then
                    some number46
                  else
                    some x6) fun js52 =>
                (fX1_add a0 js52 hh49).bind fun hh55 =>
                some ((1 : Int32), hh55)
              else
                am_b2 (gX1_readLevel n 1 a0 a1 (0 : Int32) (a3 + ((1 : Int32))) hh49) fun x58 hh59 =>
                if ¬ x58 = 0 then
                  (fX1_add a0 ((-5 : Int32)) hh59).bind fun hh62 =>
                  some ((1 : Int32), hh62)
                else
                  some ((0 : Int32), hh59)
            else
              am_b2 (gX1_readLevel n 0 a0 a1 ((0 : Int32)) (a3 + ((1 : Int32))) hh49) fun x64 hh65 =>
              am_b2 (
                if x64 = 0 then
                  some ((0 : Int32), hh65)
                else
                  am_b2 (fX7_passSign a1 ((41 : Int32)) hh65) fun x70 hh71 =>
                  if x70 = 0 then
                    some ((0 : Int32), hh71)
                  else
                    some ((1 : Int32), hh71)) fun js66 hh67 =>
              (am_z01 js66).bind fun b73 =>
              some (b73, hh67)
          else
            am_b2 (fX7_refuse a1 ((5 : Int32)) h) fun x77 hh78 =>
            (am_z01 x77).bind fun b79 =>
            some (b79, hh78)
        else
          if ¬ x6 = 0 then
            if a3 < ((5 : Int32)) then
              (am_gI h a1 6 5).bind fun number83 =>
              (fX7_step a1 h).bind fun hh86 =>
              if x4 = 0 then
                if x2 = 0 then
                  Option.bind (
                    if x6 = 0 then
                      some number83
                    else
                      some x6) fun js89 =>
                  (fX1_add a0 js89 hh86).bind fun hh92 =>
                  some ((1 : Int32), hh92)
                else
                  am_b2 (gX1_readLevel n 1 a0 a1 (0 : Int32) (a3 + ((1 : Int32))) hh86) fun x95 hh96 =>
                  if ¬ x95 = 0 then
                    (fX1_add a0 ((-5 : Int32)) hh96).bind fun hh99 =>
                    some ((1 : Int32), hh99)
                  else
                    some ((0 : Int32), hh96)
              else
                am_b2 (gX1_readLevel n 0 a0 a1 ((0 : Int32)) (a3 + ((1 : Int32))) hh86) fun x101 hh102 =>
                am_b2 (
                  if x101 = 0 then
                    some ((0 : Int32), hh102)
                  else
                    am_b2 (fX7_passSign a1 ((41 : Int32)) hh102) fun x107 hh108 =>
                    if x107 = 0 then
                      some ((0 : Int32), hh108)
                    else
                      some ((1 : Int32), hh108)) fun js103 hh104 =>
                (am_z01 js103).bind fun b110 =>
                some (b110, hh104)
            else
              am_b2 (fX7_refuse a1 ((5 : Int32)) h) fun x114 hh115 =>
              (am_z01 x114).bind fun b116 =>
              some (b116, hh115)
          else
            (fX7_isNumber a1 h).bind fun x119 =>
            if ¬ x119 = 0 then
              if a3 < ((5 : Int32)) then
                (am_gI h a1 6 5).bind fun number122 =>
                (fX7_step a1 h).bind fun hh125 =>
                if x4 = 0 then
                  if x2 = 0 then
                    Option.bind (
                      if x6 = 0 then
                        some number122
                      else
                        some x6) fun js128 =>
                    (fX1_add a0 js128 hh125).bind fun hh131 =>
                    some ((1 : Int32), hh131)
                  else
                    am_b2 (gX1_readLevel n 1 a0 a1 (0 : Int32) (a3 + ((1 : Int32))) hh125) fun x134 hh135 =>
                    if ¬ x134 = 0 then
                      (fX1_add a0 ((-5 : Int32)) hh135).bind fun hh138 =>
                      some ((1 : Int32), hh138)
                    else
                      some ((0 : Int32), hh135)
                else
                  am_b2 (gX1_readLevel n 0 a0 a1 ((0 : Int32)) (a3 + ((1 : Int32))) hh125) fun x140 hh141 =>
                  am_b2 (
                    if x140 = 0 then
                      some ((0 : Int32), hh141)
                    else
                      am_b2 (fX7_passSign a1 ((41 : Int32)) hh141) fun x146 hh147 =>
                      if x146 = 0 then
                        some ((0 : Int32), hh147)
                      else
                        some ((1 : Int32), hh147)) fun js142 hh143 =>
                  (am_z01 js142).bind fun b149 =>
                  some (b149, hh143)
              else
                am_b2 (fX7_refuse a1 ((5 : Int32)) h) fun x153 hh154 =>
                (am_z01 x153).bind fun b155 =>
                some (b155, hh154)
            else
              am_b2 (fX7_refuse a1 ((1 : Int32)) h) fun x158 hh159 =>
              (am_z01 x158).bind fun b160 =>
              some (b160, hh159)
    else none
set_option maxHeartbeats 4000000 in
set_option maxRecDepth 100000 in
theorem lX1_readLevel_L29 {sc : Nat × (Nat → Int32)} {d : Nat} {rc : Nat → Nat → Nat → Int32 → Int32 → am_H → Option (Int32 × am_H)} (hdb : 11 ≤ d) (hrc : am_RcX1_readLevel sc d rc) : ∀ (n : Nat) (v0 : Nat) (v1 : Nat) (v2 : Int32) (v3 : Int32) (v4 : Int32) (h : am_H) (o : (am_H) ⊕ (Int32 × am_H)), fX1_readLevel_L29 rc n v0 v1 v2 v3 v4 h = some o → am_G sc (am_Cl am_T am_N sc d) (am_at kX1_readLevel) (fun t => match o with
    | .inl h1 => t = ((88, [none, none, none, none, none, none], []), h1)
    | .inr y => t.2 = y.2 ∧ am_ret 2 (am_at kX1_readLevel) t.1 = some (some (.int y.1))) ((29, [some (.ref v0), some (.ref v1), some (.int v2), some (.int v3), some (.int v4), none], []), h) := by
  intro n
  induction n with
  | zero => intro _ _ _ _ _ _ _ H; cases H
  | succ n ih =>
    intro v0 v1 v2 v3 v4 h o H
    rw [fX1_readLevel_L29] at H
    refine am_G.fr 2 (g := (34, [some (.ref v0), some (.ref v1), some (.int v2), some (.int v3), some (.int v4), none], [.int ((1000 : Int32)), .int v4])) rfl ?_
    by_cases c6 : ((1000 : Int32)) ≤ v4
    · rw [if_pos c6] at H
      refine am_G.br (tgt := 88) rfl rfl (if_pos c6) rfl ?_
      obtain rfl := Option.some.inj H
      refine am_G.fg [none, none, none, none, none, none] (by simp only [am_sub, and_self]) ?_
      exact am_G.nd rfl
    · rw [if_neg c6] at H
      refine am_G.br (tgt := 37) rfl rfl (if_neg c6) rfl ?_
      refine am_G.fr 2 (g := (39, [some (.ref v0), some (.ref v1), some (.int v2), some (.int v3), some (.int v4), none], [.int v2, .ref v1])) rfl ?_
      obtain ⟨x8, e7, H⟩ := am_bd H
      refine am_G.cl [.ref v1, .int v2] [] (am_Cl.mono (Nat.le_trans (show 11 ≤ 11 by decide) hdb) (lX1_operatorOf e7)) rfl rfl rfl rfl (Nat.le_of_ble_eq_true rfl) ?_
      refine am_G.fr 2 (g := (46, [some (.ref v0), some (.ref v1), some (.int v2), some (.int v3), some (.int v4), some (.int x8)], [.int x8])) rfl ?_
      by_cases c9 : ¬ x8 = 0
      · rw [if_pos c9] at H
        refine am_G.br (tgt := 51) rfl rfl (if_pos c9) rfl ?_
        refine am_G.fr 1 (g := (52, [some (.ref v0), some (.ref v1), some (.int v2), some (.int v3), some (.int v4), some (.int x8)], [.ref v1])) rfl ?_
        obtain ⟨hh11, e10, H⟩ := am_bd H
        refine am_G.cl [.ref v1] [] (am_Cl.mono (Nat.le_trans (show 2 ≤ 11 by decide) hdb) (lX7_step e10)) rfl rfl rfl rfl (Nat.le_of_ble_eq_true rfl) ?_
        refine am_G.fr 6 (g := (61, [some (.ref v0), some (.ref v1), some (.int v2), some (.int v3), some (.int v4), some (.int x8)], [.int v3, .int (v2 + ((1 : Int32))), .ref v1, .ref v0])) rfl ?_
        obtain ⟨x13, hh14, e12, H⟩ := am_bd2 H
        refine am_G.cl [.ref v0, .ref v1, .int (v2 + ((1 : Int32))), .int v3] [] ((hrc _ _ _ _ _ _ _).1 e12) rfl rfl rfl rfl (Nat.le_of_ble_eq_true rfl) ?_
        by_cases c15 : ¬ x13 = 0
        · rw [if_pos c15] at H
          refine am_G.br (tgt := 69) rfl rfl (if_pos c15) rfl ?_
          refine am_G.fr 2 (g := (72, [some (.ref v0), some (.ref v1), some (.int v2), some (.int v3), some (.int v4), some (.int x8)], [.int x8, .ref v0])) rfl ?_
          obtain ⟨hh17, e16, H⟩ := am_bd H
          refine am_G.cl [.ref v0, .int x8] [] (am_Cl.mono (Nat.le_trans (show 1 ≤ 11 by decide) hdb) (lX1_add e16)) rfl rfl rfl rfl (Nat.le_of_ble_eq_true rfl) ?_
          refine am_G.fr 2 (g := (77, [some (.ref v0), some (.ref v1), some (.int v2), some (.int v3), some (.int v4), some (.int x8)], [.int ((1 : Int32)), .int v2])) rfl ?_
          by_cases c18 : ¬ v2 = ((1 : Int32))
          · rw [if_pos c18] at H
            refine am_G.br (tgt := 82) rfl rfl (if_pos c18) rfl ?_
            refine am_G.fr 2 (g := (29, [some (.ref v0), some (.ref v1), some (.int v2), some (.int v3), some (.int (v4 + (1 : Int32))), some (.int x8)], [])) rfl ?_
            refine am_G.fg [some (.ref v0), some (.ref v1), some (.int v2), some (.int v3), some (.int (v4 + (1 : Int32))), none] (by simp only [am_sub, and_self]) ?_
            exact ih _ _ _ _ _ _ _ H
          · rw [if_neg c18] at H
            refine am_G.br (tgt := 80) rfl rfl (if_neg c18) rfl ?_
            refine am_G.fr 1 (g := (81, [some (.ref v0), some (.ref v1), some (.int v2), some (.int v3), some (.int v4), some (.int x8)], [.int ((1 : Int32))])) rfl ?_
            obtain rfl := Option.some.inj H
            exact am_G.nd ⟨rfl, am_ret2 rfl (if_pos (by decide))⟩
        · rw [if_neg c15] at H
          refine am_G.br (tgt := 67) rfl rfl (if_neg c15) rfl ?_
          refine am_G.fr 1 (g := (68, [some (.ref v0), some (.ref v1), some (.int v2), some (.int v3), some (.int v4), some (.int x8)], [.int ((0 : Int32))])) rfl ?_
          obtain rfl := Option.some.inj H
          exact am_G.nd ⟨rfl, am_ret2 rfl (if_pos (by decide))⟩
      · rw [if_neg c9] at H
        refine am_G.br (tgt := 49) rfl rfl (if_neg c9) rfl ?_
        refine am_G.fr 1 (g := (50, [some (.ref v0), some (.ref v1), some (.int v2), some (.int v3), some (.int v4), some (.int x8)], [.int ((1 : Int32))])) rfl ?_
        obtain rfl := Option.some.inj H
        exact am_G.nd ⟨rfl, am_ret2 rfl (if_pos (by decide))⟩
set_option maxHeartbeats 8000000 in
set_option maxRecDepth 100000 in
theorem lgX1_readLevel {sc : Nat × (Nat → Int32)} : ∀ n, am_RcX1_readLevel sc (11 + n) (gX1_readLevel n) := by
  intro n
  induction n with
  | zero => intro _ _ _ _ _ _ _; exact ⟨(fun H => by cases H), (fun H => by cases H)⟩
  | succ n hrc =>
    have hdb : 11 ≤ 11 + n := Nat.le_add_right _ _
    intro a0 a1 a2 a3 h r h1
    refine ⟨?_, ?_⟩
    · intro H
      rw [gX1_readLevel] at H
      rw [if_pos rfl] at H
      obtain ⟨_, hO, H⟩ := am_bd H
      obtain ⟨fs0, hO⟩ := am_isO_ok hO
      refine am_mk (d := 11 + n) (q := qX1_readLevel) rfl (fun _ => ⟨_, _, _, _, _, rfl, hO, rfl, rfl⟩) (fun z => absurd z (by decide)) (Nat.le_of_ble_eq_true rfl) rfl ?_
      show am_G sc (am_Cl am_T am_N sc (11 + n)) (am_at kX1_readLevel) (fun t => t.2 = h1 ∧ am_ret 2 (am_at kX1_readLevel) t.1 = some (some (.int r))) ((0, [some (.ref a0), some (.ref a1), some (.int a2), some (.int a3), none, none], []), h)
      refine am_G.fr 2 (g := (2, [some (.ref a0), some (.ref a1), some (.int a2), some (.int a3), none, none], [.int ((3 : Int32)), .int a2])) rfl ?_
      by_cases c1 : a2 ≤ ((3 : Int32))
      · rw [if_pos c1] at H
        refine am_G.br (tgt := 12) rfl rfl (if_pos c1) rfl ?_
        refine am_G.fr 6 (g := (18, [some (.ref a0), some (.ref a1), some (.int a2), some (.int a3), none, none], [.int a3, .int (a2 + ((1 : Int32))), .ref a1, .ref a0])) rfl ?_
        obtain ⟨x3, hh4, e2, H⟩ := am_bd2 H
        refine am_G.cl [.ref a0, .ref a1, .int (a2 + ((1 : Int32))), .int a3] [] ((hrc _ _ _ _ _ _ _).1 e2) rfl rfl rfl rfl (Nat.le_of_ble_eq_true rfl) ?_
        by_cases c5 : ¬ x3 = 0
        · rw [if_pos c5] at H
          refine am_G.br (tgt := 26) rfl rfl (if_pos c5) rfl ?_
          refine am_G.fr 2 (g := (29, [some (.ref a0), some (.ref a1), some (.int a2), some (.int a3), some (.int ((0 : Int32))), none], [])) rfl ?_
          obtain ⟨o21, E20, H⟩ := am_bd H
          have hL := lX1_readLevel_L29 (sc := sc) hdb hrc _ _ _ _ _ _ _ _ E20
          clear E20
          rcases o21 with hh19 | y22
          · dsimp only at H
            refine am_G.sq hL ?_
            refine am_G.fr 1 (g := (89, [none, none, none, none, none, none], [.int ((1 : Int32))])) rfl ?_
            obtain ⟨rfl, rfl⟩ := am_inj2 H
            exact am_G.nd ⟨rfl, am_ret2 rfl (if_pos (by decide))⟩
          · dsimp only at H
            obtain rfl := Option.some.inj H
            exact hL
        · rw [if_neg c5] at H
          refine am_G.br (tgt := 24) rfl rfl (if_neg c5) rfl ?_
          refine am_G.fr 1 (g := (25, [some (.ref a0), some (.ref a1), some (.int a2), some (.int a3), none, none], [.int ((0 : Int32))])) rfl ?_
          obtain ⟨rfl, rfl⟩ := am_inj2 H
          exact am_G.nd ⟨rfl, am_ret2 rfl (if_pos (by decide))⟩
      · rw [if_neg c1] at H
        refine am_G.br (tgt := 5) rfl rfl (if_neg c1) rfl ?_
        refine am_G.fr 3 (g := (8, [some (.ref a0), some (.ref a1), some (.int a2), some (.int a3), none, none], [.int a3, .ref a1, .ref a0])) rfl ?_
        obtain ⟨x24, hh25, e23, H⟩ := am_bd2 H
        refine am_G.cl [.ref a0, .ref a1, .int a3] [] ((hrc _ _ _ _ _ _ _).2 e23) rfl rfl rfl rfl (Nat.le_of_ble_eq_true rfl) ?_
        obtain ⟨b26, e27, H⟩ := am_bd H
        obtain ⟨rfl, rfl⟩ := am_inj2 H
        exact am_G.nd ⟨rfl, am_ret2 rfl e27⟩
    · intro H
      rw [gX1_readLevel] at H
      rw [if_neg (by decide)] at H
      rw [if_pos rfl] at H
      obtain ⟨_, hO, H⟩ := am_bd H
      obtain ⟨fs0, hO⟩ := am_isO_ok hO
      refine am_mk (d := 11 + n) (q := qX1_readPart) rfl (fun _ => ⟨_, _, _, _, _, rfl, hO, rfl, rfl⟩) (fun z => absurd z (by decide)) (Nat.le_of_ble_eq_true rfl) rfl ?_
      show am_G sc (am_Cl am_T am_N sc (11 + n)) (am_at kX1_readPart) (fun t => t.2 = h1 ∧ am_ret 2 (am_at kX1_readPart) t.1 = some (some (.int r))) ((0, [some (.ref a0), some (.ref a1), some (.int a3), none, none, none, none], []), h)
      refine am_G.fr 2 (g := (3, [some (.ref a0), some (.ref a1), some (.int a3), none, none, none, none], [.ref 1000018, .ref a1])) rfl ?_
      obtain ⟨x2, e1, H⟩ := am_bd H
      refine am_G.cl [.ref a1, .ref 1000018] [] (am_Cl.mono (Nat.le_trans (show 10 ≤ 11 by decide) hdb) (lX7_isWord e1)) rfl rfl rfl rfl (Nat.le_of_ble_eq_true rfl) ?_
      refine am_G.fr 3 (g := (10, [some (.ref a0), some (.ref a1), some (.int a3), some (.int x2), none, none, none], [.int ((40 : Int32)), .ref a1])) rfl ?_
      obtain ⟨x4, e3, H⟩ := am_bd H
      refine am_G.cl [.ref a1, .int ((40 : Int32))] [] (am_Cl.mono (Nat.le_trans (show 1 ≤ 11 by decide) hdb) (lX7_isSignOf e3)) rfl rfl rfl rfl (Nat.le_of_ble_eq_true rfl) ?_
      refine am_G.fr 2 (g := (16, [some (.ref a0), some (.ref a1), some (.int a3), some (.int x2), some (.int x4), none, none], [.ref a1])) rfl ?_
      obtain ⟨x6, e5, H⟩ := am_bd H
      refine am_G.cl [.ref a1] [] (am_Cl.mono (Nat.le_trans (show 11 ≤ 11 by decide) hdb) (lX1_factOf e5)) rfl rfl rfl rfl (Nat.le_of_ble_eq_true rfl) ?_
      refine am_G.fr 2 (g := (22, [some (.ref a0), some (.ref a1), some (.int a3), some (.int x2), some (.int x4), some (.int x6), none], [.int x2])) rfl ?_
      by_cases c7 : ¬ x2 = 0
      · rw [if_pos c7] at H
        refine am_G.br (tgt := 48) rfl rfl (if_pos c7) rfl ?_
        refine am_G.fr 2 (g := (50, [some (.ref a0), some (.ref a1), some (.int a3), some (.int x2), some (.int x4), some (.int x6), none], [.int ((5 : Int32)), .int a3])) rfl ?_
        by_cases c8 : a3 < ((5 : Int32))
        · rw [if_pos c8] at H
          refine am_G.br (tgt := 59) rfl rfl (if_pos c8) rfl ?_
          refine am_G.fr 1 (g := (60, [some (.ref a0), some (.ref a1), some (.int a3), some (.int x2), some (.int x4), some (.int x6), none], [.ref a1])) rfl ?_
          obtain ⟨number9, e10, H⟩ := am_bd H
          refine am_G.gI rfl e10 ?_
          refine am_G.fr 2 (g := (66, [some (.ref a0), some (.ref a1), some (.int a3), some (.int x2), some (.int x4), some (.int x6), some (.int number9)], [.ref a1])) rfl ?_
          obtain ⟨hh12, e11, H⟩ := am_bd H
          refine am_G.cl [.ref a1] [] (am_Cl.mono (Nat.le_trans (show 2 ≤ 11 by decide) hdb) (lX7_step e11)) rfl rfl rfl rfl (Nat.le_of_ble_eq_true rfl) ?_
          refine am_G.fr 1 (g := (71, [some (.ref a0), some (.ref a1), some (.int a3), some (.int x2), some (.int x4), some (.int x6), some (.int number9)], [.int x4])) rfl ?_
          by_cases c13 : x4 = 0
          · rw [if_pos c13] at H
            refine am_G.br (tgt := 101) rfl rfl (if_pos c13) rfl ?_
            refine am_G.fr 1 (g := (102, [some (.ref a0), some (.ref a1), some (.int a3), some (.int x2), some (.int x4), some (.int x6), some (.int number9)], [.int x2])) rfl ?_
            by_cases c14 : x2 = 0
            · rw [if_pos c14] at H
              refine am_G.br (tgt := 126) rfl rfl (if_pos c14) rfl ?_
              refine am_G.fr 2 (g := (129, [some (.ref a0), some (.ref a1), some (.int a3), some (.int x2), some (.int x4), some (.int x6), some (.int number9)], [.int x6, .ref a0])) rfl ?_
              obtain ⟨js15, E19, H⟩ := am_bd H
              refine am_G.sq (t := ((139, [none, none, none, none, none, none, none], [.int js15, .ref a0]), hh12)) ?_ ?_
              · clear H
                have H := E19
                clear E19
                by_cases c16 : x6 = 0
                · rw [if_pos c16] at H
                  refine am_G.br (tgt := 137) rfl rfl (if_pos c16) rfl ?_
                  refine am_G.fr 1 (g := (139, [some (.ref a0), some (.ref a1), some (.int a3), some (.int x2), some (.int x4), some (.int x6), some (.int number9)], [.int number9, .ref a0])) rfl ?_
                  obtain rfl := Option.some.inj H
                  refine am_G.fg [none, none, none, none, none, none, none] (by simp only [am_sub, and_self]) ?_
                  exact am_G.nd rfl
                · rw [if_neg c16] at H
                  refine am_G.br (tgt := 132) rfl rfl (if_neg c16) rfl ?_
                  refine am_G.fr 2 (g := (139, [some (.ref a0), some (.ref a1), some (.int a3), some (.int x2), some (.int x4), some (.int x6), some (.int number9)], [.int x6, .ref a0])) rfl ?_
                  obtain rfl := Option.some.inj H
                  refine am_G.fg [none, none, none, none, none, none, none] (by simp only [am_sub, and_self]) ?_
                  exact am_G.nd rfl
              · clear E19
                obtain ⟨hh18, e17, H⟩ := am_bd H
                refine am_G.cl [.ref a0, .int js15] [] (am_Cl.mono (Nat.le_trans (show 1 ≤ 11 by decide) hdb) (lX1_add e17)) rfl rfl rfl rfl (Nat.le_of_ble_eq_true rfl) ?_
                refine am_G.fr 1 (g := (143, [none, none, none, none, none, none, none], [.int ((1 : Int32))])) rfl ?_
                obtain ⟨rfl, rfl⟩ := am_inj2 H
                exact am_G.nd ⟨rfl, am_ret2 rfl (if_pos (by decide))⟩
            · rw [if_neg c14] at H
              refine am_G.br (tgt := 105) rfl rfl (if_neg c14) rfl ?_
              refine am_G.fr 5 (g := (110, [some (.ref a0), some (.ref a1), some (.int a3), some (.int x2), some (.int x4), some (.int x6), some (.int number9)], [.int (a3 + ((1 : Int32))), .ref a1, .ref a0])) rfl ?_
              obtain ⟨x21, hh22, e20, H⟩ := am_bd2 H
              refine am_G.cl [.ref a0, .ref a1, .int (a3 + ((1 : Int32)))] [] ((hrc _ _ _ _ _ _ _).2 e20) rfl rfl rfl rfl (Nat.le_of_ble_eq_true rfl) ?_
              by_cases c23 : ¬ x21 = 0
              · rw [if_pos c23] at H
                refine am_G.br (tgt := 118) rfl rfl (if_pos c23) rfl ?_
                refine am_G.fr 2 (g := (121, [some (.ref a0), some (.ref a1), some (.int a3), some (.int x2), some (.int x4), some (.int x6), some (.int number9)], [.int ((-5 : Int32)), .ref a0])) rfl ?_
                obtain ⟨hh25, e24, H⟩ := am_bd H
                refine am_G.cl [.ref a0, .int ((-5 : Int32))] [] (am_Cl.mono (Nat.le_trans (show 1 ≤ 11 by decide) hdb) (lX1_add e24)) rfl rfl rfl rfl (Nat.le_of_ble_eq_true rfl) ?_
                refine am_G.fr 1 (g := (125, [some (.ref a0), some (.ref a1), some (.int a3), some (.int x2), some (.int x4), some (.int x6), some (.int number9)], [.int ((1 : Int32))])) rfl ?_
                obtain ⟨rfl, rfl⟩ := am_inj2 H
                exact am_G.nd ⟨rfl, am_ret2 rfl (if_pos (by decide))⟩
              · rw [if_neg c23] at H
                refine am_G.br (tgt := 116) rfl rfl (if_neg c23) rfl ?_
                refine am_G.fr 1 (g := (117, [some (.ref a0), some (.ref a1), some (.int a3), some (.int x2), some (.int x4), some (.int x6), some (.int number9)], [.int ((0 : Int32))])) rfl ?_
                obtain ⟨rfl, rfl⟩ := am_inj2 H
                exact am_G.nd ⟨rfl, am_ret2 rfl (if_pos (by decide))⟩
          · rw [if_neg c13] at H
            refine am_G.br (tgt := 74) rfl rfl (if_neg c13) rfl ?_
            refine am_G.fr 6 (g := (80, [some (.ref a0), some (.ref a1), some (.int a3), some (.int x2), some (.int x4), some (.int x6), some (.int number9)], [.int (a3 + ((1 : Int32))), .int ((0 : Int32)), .ref a1, .ref a0])) rfl ?_
            obtain ⟨x27, hh28, e26, H⟩ := am_bd2 H
            refine am_G.cl [.ref a0, .ref a1, .int ((0 : Int32)), .int (a3 + ((1 : Int32)))] [] ((hrc _ _ _ _ _ _ _).1 e26) rfl rfl rfl rfl (Nat.le_of_ble_eq_true rfl) ?_
            obtain ⟨js29, hh30, E38, H⟩ := am_bd2 H
            refine am_G.sq (t := ((100, [none, none, none, none, none, none, none], [.int js29]), hh30)) ?_ ?_
            · clear H
              have H := E38
              clear E38
              by_cases c31 : x27 = 0
              · rw [if_pos c31] at H
                refine am_G.br (tgt := 99) rfl rfl (if_pos c31) rfl ?_
                refine am_G.fr 1 (g := (100, [some (.ref a0), some (.ref a1), some (.int a3), some (.int x2), some (.int x4), some (.int x6), some (.int number9)], [.int ((0 : Int32))])) rfl ?_
                obtain ⟨rfl, rfl⟩ := am_inj2 H
                refine am_G.fg [none, none, none, none, none, none, none] (by simp only [am_sub, and_self]) ?_
                exact am_G.nd rfl
              · rw [if_neg c31] at H
                refine am_G.br (tgt := 86) rfl rfl (if_neg c31) rfl ?_
                refine am_G.fr 2 (g := (89, [some (.ref a0), some (.ref a1), some (.int a3), some (.int x2), some (.int x4), some (.int x6), some (.int number9)], [.int ((41 : Int32)), .ref a1])) rfl ?_
                obtain ⟨x33, hh34, e32, H⟩ := am_bd2 H
                refine am_G.cl [.ref a1, .int ((41 : Int32))] [] (am_Cl.mono (Nat.le_trans (show 3 ≤ 11 by decide) hdb) (lX7_passSign e32)) rfl rfl rfl rfl (Nat.le_of_ble_eq_true rfl) ?_
                by_cases c35 : x33 = 0
                · rw [if_pos c35] at H
                  refine am_G.br (tgt := 99) rfl rfl (if_pos c35) rfl ?_
                  refine am_G.fr 1 (g := (100, [some (.ref a0), some (.ref a1), some (.int a3), some (.int x2), some (.int x4), some (.int x6), some (.int number9)], [.int ((0 : Int32))])) rfl ?_
                  obtain ⟨rfl, rfl⟩ := am_inj2 H
                  refine am_G.fg [none, none, none, none, none, none, none] (by simp only [am_sub, and_self]) ?_
                  exact am_G.nd rfl
                · rw [if_neg c35] at H
                  refine am_G.br (tgt := 95) rfl rfl (if_neg c35) rfl ?_
                  refine am_G.fr 2 (g := (100, [some (.ref a0), some (.ref a1), some (.int a3), some (.int x2), some (.int x4), some (.int x6), some (.int number9)], [.int ((1 : Int32))])) rfl ?_
                  obtain ⟨rfl, rfl⟩ := am_inj2 H
                  refine am_G.fg [none, none, none, none, none, none, none] (by simp only [am_sub, and_self]) ?_
                  exact am_G.nd rfl
            · clear E38
              obtain ⟨b36, e37, H⟩ := am_bd H
              obtain ⟨rfl, rfl⟩ := am_inj2 H
              exact am_G.nd ⟨rfl, am_ret2 rfl e37⟩
        · rw [if_neg c8] at H
          refine am_G.br (tgt := 53) rfl rfl (if_neg c8) rfl ?_
          refine am_G.fr 2 (g := (55, [some (.ref a0), some (.ref a1), some (.int a3), some (.int x2), some (.int x4), some (.int x6), none], [.int ((5 : Int32)), .ref a1])) rfl ?_
          obtain ⟨x40, hh41, e39, H⟩ := am_bd2 H
          refine am_G.cl [.ref a1, .int ((5 : Int32))] [] (am_Cl.mono (Nat.le_trans (show 1 ≤ 11 by decide) hdb) (lX7_refuse e39)) rfl rfl rfl rfl (Nat.le_of_ble_eq_true rfl) ?_
          obtain ⟨b42, e43, H⟩ := am_bd H
          obtain ⟨rfl, rfl⟩ := am_inj2 H
          exact am_G.nd ⟨rfl, am_ret2 rfl e43⟩
      · rw [if_neg c7] at H
        refine am_G.br (tgt := 25) rfl rfl (if_neg c7) rfl ?_
        refine am_G.fr 1 (g := (27, [some (.ref a0), some (.ref a1), some (.int a3), some (.int x2), some (.int x4), some (.int x6), none], [.int x4])) rfl ?_
        by_cases c44 : ¬ x4 = 0
        · rw [if_pos c44] at H
          refine am_G.br (tgt := 48) rfl rfl (if_pos c44) rfl ?_
          refine am_G.fr 2 (g := (50, [some (.ref a0), some (.ref a1), some (.int a3), some (.int x2), some (.int x4), some (.int x6), none], [.int ((5 : Int32)), .int a3])) rfl ?_
          by_cases c45 : a3 < ((5 : Int32))
          · rw [if_pos c45] at H
            refine am_G.br (tgt := 59) rfl rfl (if_pos c45) rfl ?_
            refine am_G.fr 1 (g := (60, [some (.ref a0), some (.ref a1), some (.int a3), some (.int x2), some (.int x4), some (.int x6), none], [.ref a1])) rfl ?_
            obtain ⟨number46, e47, H⟩ := am_bd H
            refine am_G.gI rfl e47 ?_
            refine am_G.fr 2 (g := (66, [some (.ref a0), some (.ref a1), some (.int a3), some (.int x2), some (.int x4), some (.int x6), some (.int number46)], [.ref a1])) rfl ?_
            obtain ⟨hh49, e48, H⟩ := am_bd H
            refine am_G.cl [.ref a1] [] (am_Cl.mono (Nat.le_trans (show 2 ≤ 11 by decide) hdb) (lX7_step e48)) rfl rfl rfl rfl (Nat.le_of_ble_eq_true rfl) ?_
            refine am_G.fr 1 (g := (71, [some (.ref a0), some (.ref a1), some (.int a3), some (.int x2), some (.int x4), some (.int x6), some (.int number46)], [.int x4])) rfl ?_
            by_cases c50 : x4 = 0
            · rw [if_pos c50] at H
              refine am_G.br (tgt := 101) rfl rfl (if_pos c50) rfl ?_
              refine am_G.fr 1 (g := (102, [some (.ref a0), some (.ref a1), some (.int a3), some (.int x2), some (.int x4), some (.int x6), some (.int number46)], [.int x2])) rfl ?_
              by_cases c51 : x2 = 0
              · rw [if_pos c51] at H
                refine am_G.br (tgt := 126) rfl rfl (if_pos c51) rfl ?_
                refine am_G.fr 2 (g := (129, [some (.ref a0), some (.ref a1), some (.int a3), some (.int x2), some (.int x4), some (.int x6), some (.int number46)], [.int x6, .ref a0])) rfl ?_
                obtain ⟨js52, E56, H⟩ := am_bd H
                refine am_G.sq (t := ((139, [none, none, none, none, none, none, none], [.int js52, .ref a0]), hh49)) ?_ ?_
                · clear H
                  have H := E56
                  clear E56
                  by_cases c53 : x6 = 0
                  · rw [if_pos c53] at H
                    refine am_G.br (tgt := 137) rfl rfl (if_pos c53) rfl ?_
                    refine am_G.fr 1 (g := (139, [some (.ref a0), some (.ref a1), some (.int a3), some (.int x2), some (.int x4), some (.int x6), some (.int number46)], [.int number46, .ref a0])) rfl ?_
                    obtain rfl := Option.some.inj H
                    refine am_G.fg [none, none, none, none, none, none, none] (by simp only [am_sub, and_self]) ?_
                    exact am_G.nd rfl
                  · rw [if_neg c53] at H
                    refine am_G.br (tgt := 132) rfl rfl (if_neg c53) rfl ?_
                    refine am_G.fr 2 (g := (139, [some (.ref a0), some (.ref a1), some (.int a3), some (.int x2), some (.int x4), some (.int x6), some (.int number46)], [.int x6, .ref a0])) rfl ?_
                    obtain rfl := Option.some.inj H
                    refine am_G.fg [none, none, none, none, none, none, none] (by simp only [am_sub, and_self]) ?_
                    exact am_G.nd rfl
                · clear E56
                  obtain ⟨hh55, e54, H⟩ := am_bd H
                  refine am_G.cl [.ref a0, .int js52] [] (am_Cl.mono (Nat.le_trans (show 1 ≤ 11 by decide) hdb) (lX1_add e54)) rfl rfl rfl rfl (Nat.le_of_ble_eq_true rfl) ?_
                  refine am_G.fr 1 (g := (143, [none, none, none, none, none, none, none], [.int ((1 : Int32))])) rfl ?_
                  obtain ⟨rfl, rfl⟩ := am_inj2 H
                  exact am_G.nd ⟨rfl, am_ret2 rfl (if_pos (by decide))⟩
              · rw [if_neg c51] at H
                refine am_G.br (tgt := 105) rfl rfl (if_neg c51) rfl ?_
                refine am_G.fr 5 (g := (110, [some (.ref a0), some (.ref a1), some (.int a3), some (.int x2), some (.int x4), some (.int x6), some (.int number46)], [.int (a3 + ((1 : Int32))), .ref a1, .ref a0])) rfl ?_
                obtain ⟨x58, hh59, e57, H⟩ := am_bd2 H
                refine am_G.cl [.ref a0, .ref a1, .int (a3 + ((1 : Int32)))] [] ((hrc _ _ _ _ _ _ _).2 e57) rfl rfl rfl rfl (Nat.le_of_ble_eq_true rfl) ?_
                by_cases c60 : ¬ x58 = 0
                · rw [if_pos c60] at H
                  refine am_G.br (tgt := 118) rfl rfl (if_pos c60) rfl ?_
                  refine am_G.fr 2 (g := (121, [some (.ref a0), some (.ref a1), some (.int a3), some (.int x2), some (.int x4), some (.int x6), some (.int number46)], [.int ((-5 : Int32)), .ref a0])) rfl ?_
                  obtain ⟨hh62, e61, H⟩ := am_bd H
                  refine am_G.cl [.ref a0, .int ((-5 : Int32))] [] (am_Cl.mono (Nat.le_trans (show 1 ≤ 11 by decide) hdb) (lX1_add e61)) rfl rfl rfl rfl (Nat.le_of_ble_eq_true rfl) ?_
                  refine am_G.fr 1 (g := (125, [some (.ref a0), some (.ref a1), some (.int a3), some (.int x2), some (.int x4), some (.int x6), some (.int number46)], [.int ((1 : Int32))])) rfl ?_
                  obtain ⟨rfl, rfl⟩ := am_inj2 H
                  exact am_G.nd ⟨rfl, am_ret2 rfl (if_pos (by decide))⟩
                · rw [if_neg c60] at H
                  refine am_G.br (tgt := 116) rfl rfl (if_neg c60) rfl ?_
                  refine am_G.fr 1 (g := (117, [some (.ref a0), some (.ref a1), some (.int a3), some (.int x2), some (.int x4), some (.int x6), some (.int number46)], [.int ((0 : Int32))])) rfl ?_
                  obtain ⟨rfl, rfl⟩ := am_inj2 H
                  exact am_G.nd ⟨rfl, am_ret2 rfl (if_pos (by decide))⟩
            · rw [if_neg c50] at H
              refine am_G.br (tgt := 74) rfl rfl (if_neg c50) rfl ?_
              refine am_G.fr 6 (g := (80, [some (.ref a0), some (.ref a1), some (.int a3), some (.int x2), some (.int x4), some (.int x6), some (.int number46)], [.int (a3 + ((1 : Int32))), .int ((0 : Int32)), .ref a1, .ref a0])) rfl ?_
              obtain ⟨x64, hh65, e63, H⟩ := am_bd2 H
              refine am_G.cl [.ref a0, .ref a1, .int ((0 : Int32)), .int (a3 + ((1 : Int32)))] [] ((hrc _ _ _ _ _ _ _).1 e63) rfl rfl rfl rfl (Nat.le_of_ble_eq_true rfl) ?_
              obtain ⟨js66, hh67, E75, H⟩ := am_bd2 H
              refine am_G.sq (t := ((100, [none, none, none, none, none, none, none], [.int js66]), hh67)) ?_ ?_
              · clear H
                have H := E75
                clear E75
                by_cases c68 : x64 = 0
                · rw [if_pos c68] at H
                  refine am_G.br (tgt := 99) rfl rfl (if_pos c68) rfl ?_
                  refine am_G.fr 1 (g := (100, [some (.ref a0), some (.ref a1), some (.int a3), some (.int x2), some (.int x4), some (.int x6), some (.int number46)], [.int ((0 : Int32))])) rfl ?_
                  obtain ⟨rfl, rfl⟩ := am_inj2 H
                  refine am_G.fg [none, none, none, none, none, none, none] (by simp only [am_sub, and_self]) ?_
                  exact am_G.nd rfl
                · rw [if_neg c68] at H
                  refine am_G.br (tgt := 86) rfl rfl (if_neg c68) rfl ?_
                  refine am_G.fr 2 (g := (89, [some (.ref a0), some (.ref a1), some (.int a3), some (.int x2), some (.int x4), some (.int x6), some (.int number46)], [.int ((41 : Int32)), .ref a1])) rfl ?_
                  obtain ⟨x70, hh71, e69, H⟩ := am_bd2 H
                  refine am_G.cl [.ref a1, .int ((41 : Int32))] [] (am_Cl.mono (Nat.le_trans (show 3 ≤ 11 by decide) hdb) (lX7_passSign e69)) rfl rfl rfl rfl (Nat.le_of_ble_eq_true rfl) ?_
                  by_cases c72 : x70 = 0
                  · rw [if_pos c72] at H
                    refine am_G.br (tgt := 99) rfl rfl (if_pos c72) rfl ?_
                    refine am_G.fr 1 (g := (100, [some (.ref a0), some (.ref a1), some (.int a3), some (.int x2), some (.int x4), some (.int x6), some (.int number46)], [.int ((0 : Int32))])) rfl ?_
                    obtain ⟨rfl, rfl⟩ := am_inj2 H
                    refine am_G.fg [none, none, none, none, none, none, none] (by simp only [am_sub, and_self]) ?_
                    exact am_G.nd rfl
                  · rw [if_neg c72] at H
                    refine am_G.br (tgt := 95) rfl rfl (if_neg c72) rfl ?_
                    refine am_G.fr 2 (g := (100, [some (.ref a0), some (.ref a1), some (.int a3), some (.int x2), some (.int x4), some (.int x6), some (.int number46)], [.int ((1 : Int32))])) rfl ?_
                    obtain ⟨rfl, rfl⟩ := am_inj2 H
                    refine am_G.fg [none, none, none, none, none, none, none] (by simp only [am_sub, and_self]) ?_
                    exact am_G.nd rfl
              · clear E75
                obtain ⟨b73, e74, H⟩ := am_bd H
                obtain ⟨rfl, rfl⟩ := am_inj2 H
                exact am_G.nd ⟨rfl, am_ret2 rfl e74⟩
          · rw [if_neg c45] at H
            refine am_G.br (tgt := 53) rfl rfl (if_neg c45) rfl ?_
            refine am_G.fr 2 (g := (55, [some (.ref a0), some (.ref a1), some (.int a3), some (.int x2), some (.int x4), some (.int x6), none], [.int ((5 : Int32)), .ref a1])) rfl ?_
            obtain ⟨x77, hh78, e76, H⟩ := am_bd2 H
            refine am_G.cl [.ref a1, .int ((5 : Int32))] [] (am_Cl.mono (Nat.le_trans (show 1 ≤ 11 by decide) hdb) (lX7_refuse e76)) rfl rfl rfl rfl (Nat.le_of_ble_eq_true rfl) ?_
            obtain ⟨b79, e80, H⟩ := am_bd H
            obtain ⟨rfl, rfl⟩ := am_inj2 H
            exact am_G.nd ⟨rfl, am_ret2 rfl e80⟩
        · rw [if_neg c44] at H
          refine am_G.br (tgt := 30) rfl rfl (if_neg c44) rfl ?_
          refine am_G.fr 1 (g := (32, [some (.ref a0), some (.ref a1), some (.int a3), some (.int x2), some (.int x4), some (.int x6), none], [.int x6])) rfl ?_
          by_cases c81 : ¬ x6 = 0
          · rw [if_pos c81] at H
            refine am_G.br (tgt := 48) rfl rfl (if_pos c81) rfl ?_
            refine am_G.fr 2 (g := (50, [some (.ref a0), some (.ref a1), some (.int a3), some (.int x2), some (.int x4), some (.int x6), none], [.int ((5 : Int32)), .int a3])) rfl ?_
            by_cases c82 : a3 < ((5 : Int32))
            · rw [if_pos c82] at H
              refine am_G.br (tgt := 59) rfl rfl (if_pos c82) rfl ?_
              refine am_G.fr 1 (g := (60, [some (.ref a0), some (.ref a1), some (.int a3), some (.int x2), some (.int x4), some (.int x6), none], [.ref a1])) rfl ?_
              obtain ⟨number83, e84, H⟩ := am_bd H
              refine am_G.gI rfl e84 ?_
              refine am_G.fr 2 (g := (66, [some (.ref a0), some (.ref a1), some (.int a3), some (.int x2), some (.int x4), some (.int x6), some (.int number83)], [.ref a1])) rfl ?_
              obtain ⟨hh86, e85, H⟩ := am_bd H
              refine am_G.cl [.ref a1] [] (am_Cl.mono (Nat.le_trans (show 2 ≤ 11 by decide) hdb) (lX7_step e85)) rfl rfl rfl rfl (Nat.le_of_ble_eq_true rfl) ?_
              refine am_G.fr 1 (g := (71, [some (.ref a0), some (.ref a1), some (.int a3), some (.int x2), some (.int x4), some (.int x6), some (.int number83)], [.int x4])) rfl ?_
              by_cases c87 : x4 = 0
              · rw [if_pos c87] at H
                refine am_G.br (tgt := 101) rfl rfl (if_pos c87) rfl ?_
                refine am_G.fr 1 (g := (102, [some (.ref a0), some (.ref a1), some (.int a3), some (.int x2), some (.int x4), some (.int x6), some (.int number83)], [.int x2])) rfl ?_
                by_cases c88 : x2 = 0
                · rw [if_pos c88] at H
                  refine am_G.br (tgt := 126) rfl rfl (if_pos c88) rfl ?_
                  refine am_G.fr 2 (g := (129, [some (.ref a0), some (.ref a1), some (.int a3), some (.int x2), some (.int x4), some (.int x6), some (.int number83)], [.int x6, .ref a0])) rfl ?_
                  obtain ⟨js89, E93, H⟩ := am_bd H
                  refine am_G.sq (t := ((139, [none, none, none, none, none, none, none], [.int js89, .ref a0]), hh86)) ?_ ?_
                  · clear H
                    have H := E93
                    clear E93
                    by_cases c90 : x6 = 0
                    · rw [if_pos c90] at H
                      refine am_G.br (tgt := 137) rfl rfl (if_pos c90) rfl ?_
                      refine am_G.fr 1 (g := (139, [some (.ref a0), some (.ref a1), some (.int a3), some (.int x2), some (.int x4), some (.int x6), some (.int number83)], [.int number83, .ref a0])) rfl ?_
                      obtain rfl := Option.some.inj H
                      refine am_G.fg [none, none, none, none, none, none, none] (by simp only [am_sub, and_self]) ?_
                      exact am_G.nd rfl
                    · rw [if_neg c90] at H
                      refine am_G.br (tgt := 132) rfl rfl (if_neg c90) rfl ?_
                      refine am_G.fr 2 (g := (139, [some (.ref a0), some (.ref a1), some (.int a3), some (.int x2), some (.int x4), some (.int x6), some (.int number83)], [.int x6, .ref a0])) rfl ?_
                      obtain rfl := Option.some.inj H
                      refine am_G.fg [none, none, none, none, none, none, none] (by simp only [am_sub, and_self]) ?_
                      exact am_G.nd rfl
                  · clear E93
                    obtain ⟨hh92, e91, H⟩ := am_bd H
                    refine am_G.cl [.ref a0, .int js89] [] (am_Cl.mono (Nat.le_trans (show 1 ≤ 11 by decide) hdb) (lX1_add e91)) rfl rfl rfl rfl (Nat.le_of_ble_eq_true rfl) ?_
                    refine am_G.fr 1 (g := (143, [none, none, none, none, none, none, none], [.int ((1 : Int32))])) rfl ?_
                    obtain ⟨rfl, rfl⟩ := am_inj2 H
                    exact am_G.nd ⟨rfl, am_ret2 rfl (if_pos (by decide))⟩
                · rw [if_neg c88] at H
                  refine am_G.br (tgt := 105) rfl rfl (if_neg c88) rfl ?_
                  refine am_G.fr 5 (g := (110, [some (.ref a0), some (.ref a1), some (.int a3), some (.int x2), some (.int x4), some (.int x6), some (.int number83)], [.int (a3 + ((1 : Int32))), .ref a1, .ref a0])) rfl ?_
                  obtain ⟨x95, hh96, e94, H⟩ := am_bd2 H
                  refine am_G.cl [.ref a0, .ref a1, .int (a3 + ((1 : Int32)))] [] ((hrc _ _ _ _ _ _ _).2 e94) rfl rfl rfl rfl (Nat.le_of_ble_eq_true rfl) ?_
                  by_cases c97 : ¬ x95 = 0
                  · rw [if_pos c97] at H
                    refine am_G.br (tgt := 118) rfl rfl (if_pos c97) rfl ?_
                    refine am_G.fr 2 (g := (121, [some (.ref a0), some (.ref a1), some (.int a3), some (.int x2), some (.int x4), some (.int x6), some (.int number83)], [.int ((-5 : Int32)), .ref a0])) rfl ?_
                    obtain ⟨hh99, e98, H⟩ := am_bd H
                    refine am_G.cl [.ref a0, .int ((-5 : Int32))] [] (am_Cl.mono (Nat.le_trans (show 1 ≤ 11 by decide) hdb) (lX1_add e98)) rfl rfl rfl rfl (Nat.le_of_ble_eq_true rfl) ?_
                    refine am_G.fr 1 (g := (125, [some (.ref a0), some (.ref a1), some (.int a3), some (.int x2), some (.int x4), some (.int x6), some (.int number83)], [.int ((1 : Int32))])) rfl ?_
                    obtain ⟨rfl, rfl⟩ := am_inj2 H
                    exact am_G.nd ⟨rfl, am_ret2 rfl (if_pos (by decide))⟩
                  · rw [if_neg c97] at H
                    refine am_G.br (tgt := 116) rfl rfl (if_neg c97) rfl ?_
                    refine am_G.fr 1 (g := (117, [some (.ref a0), some (.ref a1), some (.int a3), some (.int x2), some (.int x4), some (.int x6), some (.int number83)], [.int ((0 : Int32))])) rfl ?_
                    obtain ⟨rfl, rfl⟩ := am_inj2 H
                    exact am_G.nd ⟨rfl, am_ret2 rfl (if_pos (by decide))⟩
              · rw [if_neg c87] at H
                refine am_G.br (tgt := 74) rfl rfl (if_neg c87) rfl ?_
                refine am_G.fr 6 (g := (80, [some (.ref a0), some (.ref a1), some (.int a3), some (.int x2), some (.int x4), some (.int x6), some (.int number83)], [.int (a3 + ((1 : Int32))), .int ((0 : Int32)), .ref a1, .ref a0])) rfl ?_
                obtain ⟨x101, hh102, e100, H⟩ := am_bd2 H
                refine am_G.cl [.ref a0, .ref a1, .int ((0 : Int32)), .int (a3 + ((1 : Int32)))] [] ((hrc _ _ _ _ _ _ _).1 e100) rfl rfl rfl rfl (Nat.le_of_ble_eq_true rfl) ?_
                obtain ⟨js103, hh104, E112, H⟩ := am_bd2 H
                refine am_G.sq (t := ((100, [none, none, none, none, none, none, none], [.int js103]), hh104)) ?_ ?_
                · clear H
                  have H := E112
                  clear E112
                  by_cases c105 : x101 = 0
                  · rw [if_pos c105] at H
                    refine am_G.br (tgt := 99) rfl rfl (if_pos c105) rfl ?_
                    refine am_G.fr 1 (g := (100, [some (.ref a0), some (.ref a1), some (.int a3), some (.int x2), some (.int x4), some (.int x6), some (.int number83)], [.int ((0 : Int32))])) rfl ?_
                    obtain ⟨rfl, rfl⟩ := am_inj2 H
                    refine am_G.fg [none, none, none, none, none, none, none] (by simp only [am_sub, and_self]) ?_
                    exact am_G.nd rfl
                  · rw [if_neg c105] at H
                    refine am_G.br (tgt := 86) rfl rfl (if_neg c105) rfl ?_
                    refine am_G.fr 2 (g := (89, [some (.ref a0), some (.ref a1), some (.int a3), some (.int x2), some (.int x4), some (.int x6), some (.int number83)], [.int ((41 : Int32)), .ref a1])) rfl ?_
                    obtain ⟨x107, hh108, e106, H⟩ := am_bd2 H
                    refine am_G.cl [.ref a1, .int ((41 : Int32))] [] (am_Cl.mono (Nat.le_trans (show 3 ≤ 11 by decide) hdb) (lX7_passSign e106)) rfl rfl rfl rfl (Nat.le_of_ble_eq_true rfl) ?_
                    by_cases c109 : x107 = 0
                    · rw [if_pos c109] at H
                      refine am_G.br (tgt := 99) rfl rfl (if_pos c109) rfl ?_
                      refine am_G.fr 1 (g := (100, [some (.ref a0), some (.ref a1), some (.int a3), some (.int x2), some (.int x4), some (.int x6), some (.int number83)], [.int ((0 : Int32))])) rfl ?_
                      obtain ⟨rfl, rfl⟩ := am_inj2 H
                      refine am_G.fg [none, none, none, none, none, none, none] (by simp only [am_sub, and_self]) ?_
                      exact am_G.nd rfl
                    · rw [if_neg c109] at H
                      refine am_G.br (tgt := 95) rfl rfl (if_neg c109) rfl ?_
                      refine am_G.fr 2 (g := (100, [some (.ref a0), some (.ref a1), some (.int a3), some (.int x2), some (.int x4), some (.int x6), some (.int number83)], [.int ((1 : Int32))])) rfl ?_
                      obtain ⟨rfl, rfl⟩ := am_inj2 H
                      refine am_G.fg [none, none, none, none, none, none, none] (by simp only [am_sub, and_self]) ?_
                      exact am_G.nd rfl
                · clear E112
                  obtain ⟨b110, e111, H⟩ := am_bd H
                  obtain ⟨rfl, rfl⟩ := am_inj2 H
                  exact am_G.nd ⟨rfl, am_ret2 rfl e111⟩
            · rw [if_neg c82] at H
              refine am_G.br (tgt := 53) rfl rfl (if_neg c82) rfl ?_
              refine am_G.fr 2 (g := (55, [some (.ref a0), some (.ref a1), some (.int a3), some (.int x2), some (.int x4), some (.int x6), none], [.int ((5 : Int32)), .ref a1])) rfl ?_
              obtain ⟨x114, hh115, e113, H⟩ := am_bd2 H
              refine am_G.cl [.ref a1, .int ((5 : Int32))] [] (am_Cl.mono (Nat.le_trans (show 1 ≤ 11 by decide) hdb) (lX7_refuse e113)) rfl rfl rfl rfl (Nat.le_of_ble_eq_true rfl) ?_
              obtain ⟨b116, e117, H⟩ := am_bd H
              obtain ⟨rfl, rfl⟩ := am_inj2 H
              exact am_G.nd ⟨rfl, am_ret2 rfl e117⟩
          · rw [if_neg c81] at H
            refine am_G.br (tgt := 35) rfl rfl (if_neg c81) rfl ?_
            refine am_G.fr 1 (g := (36, [some (.ref a0), some (.ref a1), some (.int a3), some (.int x2), some (.int x4), some (.int x6), none], [.ref a1])) rfl ?_
            obtain ⟨x119, e118, H⟩ := am_bd H
            refine am_G.cl [.ref a1] [] (am_Cl.mono (Nat.le_trans (show 1 ≤ 11 by decide) hdb) (lX7_isNumber e118)) rfl rfl rfl rfl (Nat.le_of_ble_eq_true rfl) ?_
            by_cases c120 : ¬ x119 = 0
            · rw [if_pos c120] at H
              refine am_G.br (tgt := 48) rfl rfl (if_pos c120) rfl ?_
              refine am_G.fr 2 (g := (50, [some (.ref a0), some (.ref a1), some (.int a3), some (.int x2), some (.int x4), some (.int x6), none], [.int ((5 : Int32)), .int a3])) rfl ?_
              by_cases c121 : a3 < ((5 : Int32))
              · rw [if_pos c121] at H
                refine am_G.br (tgt := 59) rfl rfl (if_pos c121) rfl ?_
                refine am_G.fr 1 (g := (60, [some (.ref a0), some (.ref a1), some (.int a3), some (.int x2), some (.int x4), some (.int x6), none], [.ref a1])) rfl ?_
                obtain ⟨number122, e123, H⟩ := am_bd H
                refine am_G.gI rfl e123 ?_
                refine am_G.fr 2 (g := (66, [some (.ref a0), some (.ref a1), some (.int a3), some (.int x2), some (.int x4), some (.int x6), some (.int number122)], [.ref a1])) rfl ?_
                obtain ⟨hh125, e124, H⟩ := am_bd H
                refine am_G.cl [.ref a1] [] (am_Cl.mono (Nat.le_trans (show 2 ≤ 11 by decide) hdb) (lX7_step e124)) rfl rfl rfl rfl (Nat.le_of_ble_eq_true rfl) ?_
                refine am_G.fr 1 (g := (71, [some (.ref a0), some (.ref a1), some (.int a3), some (.int x2), some (.int x4), some (.int x6), some (.int number122)], [.int x4])) rfl ?_
                by_cases c126 : x4 = 0
                · rw [if_pos c126] at H
                  refine am_G.br (tgt := 101) rfl rfl (if_pos c126) rfl ?_
                  refine am_G.fr 1 (g := (102, [some (.ref a0), some (.ref a1), some (.int a3), some (.int x2), some (.int x4), some (.int x6), some (.int number122)], [.int x2])) rfl ?_
                  by_cases c127 : x2 = 0
                  · rw [if_pos c127] at H
                    refine am_G.br (tgt := 126) rfl rfl (if_pos c127) rfl ?_
                    refine am_G.fr 2 (g := (129, [some (.ref a0), some (.ref a1), some (.int a3), some (.int x2), some (.int x4), some (.int x6), some (.int number122)], [.int x6, .ref a0])) rfl ?_
                    obtain ⟨js128, E132, H⟩ := am_bd H
                    refine am_G.sq (t := ((139, [none, none, none, none, none, none, none], [.int js128, .ref a0]), hh125)) ?_ ?_
                    · clear H
                      have H := E132
                      clear E132
                      by_cases c129 : x6 = 0
                      · rw [if_pos c129] at H
                        refine am_G.br (tgt := 137) rfl rfl (if_pos c129) rfl ?_
                        refine am_G.fr 1 (g := (139, [some (.ref a0), some (.ref a1), some (.int a3), some (.int x2), some (.int x4), some (.int x6), some (.int number122)], [.int number122, .ref a0])) rfl ?_
                        obtain rfl := Option.some.inj H
                        refine am_G.fg [none, none, none, none, none, none, none] (by simp only [am_sub, and_self]) ?_
                        exact am_G.nd rfl
                      · rw [if_neg c129] at H
                        refine am_G.br (tgt := 132) rfl rfl (if_neg c129) rfl ?_
                        refine am_G.fr 2 (g := (139, [some (.ref a0), some (.ref a1), some (.int a3), some (.int x2), some (.int x4), some (.int x6), some (.int number122)], [.int x6, .ref a0])) rfl ?_
                        obtain rfl := Option.some.inj H
                        refine am_G.fg [none, none, none, none, none, none, none] (by simp only [am_sub, and_self]) ?_
                        exact am_G.nd rfl
                    · clear E132
                      obtain ⟨hh131, e130, H⟩ := am_bd H
                      refine am_G.cl [.ref a0, .int js128] [] (am_Cl.mono (Nat.le_trans (show 1 ≤ 11 by decide) hdb) (lX1_add e130)) rfl rfl rfl rfl (Nat.le_of_ble_eq_true rfl) ?_
                      refine am_G.fr 1 (g := (143, [none, none, none, none, none, none, none], [.int ((1 : Int32))])) rfl ?_
                      obtain ⟨rfl, rfl⟩ := am_inj2 H
                      exact am_G.nd ⟨rfl, am_ret2 rfl (if_pos (by decide))⟩
                  · rw [if_neg c127] at H
                    refine am_G.br (tgt := 105) rfl rfl (if_neg c127) rfl ?_
                    refine am_G.fr 5 (g := (110, [some (.ref a0), some (.ref a1), some (.int a3), some (.int x2), some (.int x4), some (.int x6), some (.int number122)], [.int (a3 + ((1 : Int32))), .ref a1, .ref a0])) rfl ?_
                    obtain ⟨x134, hh135, e133, H⟩ := am_bd2 H
                    refine am_G.cl [.ref a0, .ref a1, .int (a3 + ((1 : Int32)))] [] ((hrc _ _ _ _ _ _ _).2 e133) rfl rfl rfl rfl (Nat.le_of_ble_eq_true rfl) ?_
                    by_cases c136 : ¬ x134 = 0
                    · rw [if_pos c136] at H
                      refine am_G.br (tgt := 118) rfl rfl (if_pos c136) rfl ?_
                      refine am_G.fr 2 (g := (121, [some (.ref a0), some (.ref a1), some (.int a3), some (.int x2), some (.int x4), some (.int x6), some (.int number122)], [.int ((-5 : Int32)), .ref a0])) rfl ?_
                      obtain ⟨hh138, e137, H⟩ := am_bd H
                      refine am_G.cl [.ref a0, .int ((-5 : Int32))] [] (am_Cl.mono (Nat.le_trans (show 1 ≤ 11 by decide) hdb) (lX1_add e137)) rfl rfl rfl rfl (Nat.le_of_ble_eq_true rfl) ?_
                      refine am_G.fr 1 (g := (125, [some (.ref a0), some (.ref a1), some (.int a3), some (.int x2), some (.int x4), some (.int x6), some (.int number122)], [.int ((1 : Int32))])) rfl ?_
                      obtain ⟨rfl, rfl⟩ := am_inj2 H
                      exact am_G.nd ⟨rfl, am_ret2 rfl (if_pos (by decide))⟩
                    · rw [if_neg c136] at H
                      refine am_G.br (tgt := 116) rfl rfl (if_neg c136) rfl ?_
                      refine am_G.fr 1 (g := (117, [some (.ref a0), some (.ref a1), some (.int a3), some (.int x2), some (.int x4), some (.int x6), some (.int number122)], [.int ((0 : Int32))])) rfl ?_
                      obtain ⟨rfl, rfl⟩ := am_inj2 H
                      exact am_G.nd ⟨rfl, am_ret2 rfl (if_pos (by decide))⟩
                · rw [if_neg c126] at H
                  refine am_G.br (tgt := 74) rfl rfl (if_neg c126) rfl ?_
                  refine am_G.fr 6 (g := (80, [some (.ref a0), some (.ref a1), some (.int a3), some (.int x2), some (.int x4), some (.int x6), some (.int number122)], [.int (a3 + ((1 : Int32))), .int ((0 : Int32)), .ref a1, .ref a0])) rfl ?_
                  obtain ⟨x140, hh141, e139, H⟩ := am_bd2 H
                  refine am_G.cl [.ref a0, .ref a1, .int ((0 : Int32)), .int (a3 + ((1 : Int32)))] [] ((hrc _ _ _ _ _ _ _).1 e139) rfl rfl rfl rfl (Nat.le_of_ble_eq_true rfl) ?_
                  obtain ⟨js142, hh143, E151, H⟩ := am_bd2 H
                  refine am_G.sq (t := ((100, [none, none, none, none, none, none, none], [.int js142]), hh143)) ?_ ?_
                  · clear H
                    have H := E151
                    clear E151
                    by_cases c144 : x140 = 0
                    · rw [if_pos c144] at H
                      refine am_G.br (tgt := 99) rfl rfl (if_pos c144) rfl ?_
                      refine am_G.fr 1 (g := (100, [some (.ref a0), some (.ref a1), some (.int a3), some (.int x2), some (.int x4), some (.int x6), some (.int number122)], [.int ((0 : Int32))])) rfl ?_
                      obtain ⟨rfl, rfl⟩ := am_inj2 H
                      refine am_G.fg [none, none, none, none, none, none, none] (by simp only [am_sub, and_self]) ?_
                      exact am_G.nd rfl
                    · rw [if_neg c144] at H
                      refine am_G.br (tgt := 86) rfl rfl (if_neg c144) rfl ?_
                      refine am_G.fr 2 (g := (89, [some (.ref a0), some (.ref a1), some (.int a3), some (.int x2), some (.int x4), some (.int x6), some (.int number122)], [.int ((41 : Int32)), .ref a1])) rfl ?_
                      obtain ⟨x146, hh147, e145, H⟩ := am_bd2 H
                      refine am_G.cl [.ref a1, .int ((41 : Int32))] [] (am_Cl.mono (Nat.le_trans (show 3 ≤ 11 by decide) hdb) (lX7_passSign e145)) rfl rfl rfl rfl (Nat.le_of_ble_eq_true rfl) ?_
                      by_cases c148 : x146 = 0
                      · rw [if_pos c148] at H
                        refine am_G.br (tgt := 99) rfl rfl (if_pos c148) rfl ?_
                        refine am_G.fr 1 (g := (100, [some (.ref a0), some (.ref a1), some (.int a3), some (.int x2), some (.int x4), some (.int x6), some (.int number122)], [.int ((0 : Int32))])) rfl ?_
                        obtain ⟨rfl, rfl⟩ := am_inj2 H
                        refine am_G.fg [none, none, none, none, none, none, none] (by simp only [am_sub, and_self]) ?_
                        exact am_G.nd rfl
                      · rw [if_neg c148] at H
                        refine am_G.br (tgt := 95) rfl rfl (if_neg c148) rfl ?_
                        refine am_G.fr 2 (g := (100, [some (.ref a0), some (.ref a1), some (.int a3), some (.int x2), some (.int x4), some (.int x6), some (.int number122)], [.int ((1 : Int32))])) rfl ?_
                        obtain ⟨rfl, rfl⟩ := am_inj2 H
                        refine am_G.fg [none, none, none, none, none, none, none] (by simp only [am_sub, and_self]) ?_
                        exact am_G.nd rfl
                  · clear E151
                    obtain ⟨b149, e150, H⟩ := am_bd H
                    obtain ⟨rfl, rfl⟩ := am_inj2 H
                    exact am_G.nd ⟨rfl, am_ret2 rfl e150⟩
              · rw [if_neg c121] at H
                refine am_G.br (tgt := 53) rfl rfl (if_neg c121) rfl ?_
                refine am_G.fr 2 (g := (55, [some (.ref a0), some (.ref a1), some (.int a3), some (.int x2), some (.int x4), some (.int x6), none], [.int ((5 : Int32)), .ref a1])) rfl ?_
                obtain ⟨x153, hh154, e152, H⟩ := am_bd2 H
                refine am_G.cl [.ref a1, .int ((5 : Int32))] [] (am_Cl.mono (Nat.le_trans (show 1 ≤ 11 by decide) hdb) (lX7_refuse e152)) rfl rfl rfl rfl (Nat.le_of_ble_eq_true rfl) ?_
                obtain ⟨b155, e156, H⟩ := am_bd H
                obtain ⟨rfl, rfl⟩ := am_inj2 H
                exact am_G.nd ⟨rfl, am_ret2 rfl e156⟩
            · rw [if_neg c120] at H
              refine am_G.br (tgt := 42) rfl rfl (if_neg c120) rfl ?_
              refine am_G.fr 2 (g := (44, [some (.ref a0), some (.ref a1), some (.int a3), some (.int x2), some (.int x4), some (.int x6), none], [.int ((1 : Int32)), .ref a1])) rfl ?_
              obtain ⟨x158, hh159, e157, H⟩ := am_bd2 H
              refine am_G.cl [.ref a1, .int ((1 : Int32))] [] (am_Cl.mono (Nat.le_trans (show 1 ≤ 11 by decide) hdb) (lX7_refuse e157)) rfl rfl rfl rfl (Nat.le_of_ble_eq_true rfl) ?_
              obtain ⟨b160, e161, H⟩ := am_bd H
              obtain ⟨rfl, rfl⟩ := am_inj2 H
              exact am_G.nd ⟨rfl, am_ret2 rfl e161⟩
def fX1_readLevel (n : Nat) (a0 : Nat) (a1 : Nat) (a2 : Int32) (a3 : Int32) (h : am_H) : Option (Int32 × am_H) := gX1_readLevel n 0 a0 a1 a2 a3 h
theorem lX1_readLevel {sc : Nat × (Nat → Int32)} {n : Nat} {a0 : Nat} {a1 : Nat} {a2 : Int32} {a3 : Int32} {h : am_H} {r : Int32} {h1 : am_H} (H : fX1_readLevel n a0 a1 a2 a3 h = some (r, h1)) : am_Cl am_T am_N sc (11 + n) 5 [.ref a0, .ref a1, .int a2, .int a3] h (some (.int r)) h1 := (lgX1_readLevel n a0 a1 a2 a3 h r h1).1 H
def fX1_readPart (n : Nat) (a0 : Nat) (a1 : Nat) (a3 : Int32) (h : am_H) : Option (Int32 × am_H) := gX1_readLevel n 1 a0 a1 (0 : Int32) a3 h
theorem lX1_readPart {sc : Nat × (Nat → Int32)} {n : Nat} {a0 : Nat} {a1 : Nat} {a3 : Int32} {h : am_H} {r : Int32} {h1 : am_H} (H : fX1_readPart n a0 a1 a3 h = some (r, h1)) : am_Cl am_T am_N sc (11 + n) 7 [.ref a0, .ref a1, .int a3] h (some (.int r)) h1 := (lgX1_readLevel n a0 a1 (0 : Int32) a3 h r h1).2 H
def fX4_readFades (a0 : Nat) (a1 : Nat) (h : am_H) : Option (Int32 × am_H) :=
  (am_gI h a1 7 15).bind fun fadesTold1 =>
  if fadesTold1 = 0 then
    (am_pF h a1 7 15 (.int ((1 : Int32)))).bind fun hh4 =>
    (fX7_step a0 hh4).bind fun hh7 =>
    (am_gR hh7 a1 7 10).bind fun law8 =>
    (am_pF hh7 law8 1 2 (.int ((0 : Int32)))).bind fun hh10 =>
    (am_gR hh10 a1 7 10).bind fun law12 =>
    am_b2 (fX1_readLevel 60 law12 a0 ((0 : Int32)) ((0 : Int32)) hh10) fun x15 hh16 =>
    am_b2 (
      if x15 = 0 then
        some ((0 : Int32), hh16)
      else
        am_b2 (fX7_passSign a0 ((59 : Int32)) hh16) fun x21 hh22 =>
        if x21 = 0 then
          some ((0 : Int32), hh22)
        else
          some ((1 : Int32), hh22)) fun js17 hh18 =>
    (am_z01 js17).bind fun b24 =>
    some (b24, hh18)
  else
    am_b2 (fX7_refuse a0 ((3 : Int32)) h) fun x28 hh29 =>
    (am_z01 x28).bind fun b30 =>
    some (b30, hh29)
set_option maxHeartbeats 4000000 in
set_option maxRecDepth 100000 in
theorem lX4_readFades {sc : Nat × (Nat → Int32)} {a0 : Nat} {a1 : Nat} {h : am_H} {r : Int32} {h1 : am_H} (H : fX4_readFades a0 a1 h = some (r, h1)) : am_Cl am_T am_N sc 73 23 [.ref a0, .ref a1] h (some (.int r)) h1 := by
  unfold fX4_readFades at H
  refine am_mk (q := qX4_readFades) rfl (fun z => absurd z (by decide)) (fun z => absurd z (by decide)) (Nat.le_of_ble_eq_true rfl) rfl ?_
  show am_G sc (am_Cl am_T am_N sc 72) (am_at kX4_readFades) (fun t => t.2 = h1 ∧ am_ret 2 (am_at kX4_readFades) t.1 = some (some (.int r))) ((0, [some (.ref a0), some (.ref a1)], []), h)
  refine am_G.fr 1 (g := (1, [some (.ref a0), some (.ref a1)], [.ref a1])) rfl ?_
  obtain ⟨fadesTold1, e2, H⟩ := am_bd H
  refine am_G.gI rfl e2 ?_
  by_cases c3 : fadesTold1 = 0
  · rw [if_pos c3] at H
    refine am_G.br (tgt := 13) rfl rfl (if_pos c3) rfl ?_
    refine am_G.fr 2 (g := (15, [some (.ref a0), some (.ref a1)], [.int ((1 : Int32)), .ref a1])) rfl ?_
    obtain ⟨hh4, e5, H⟩ := am_bd H
    refine am_G.pF rfl e5 ?_
    refine am_G.fr 1 (g := (19, [some (.ref a0), some (.ref a1)], [.ref a0])) rfl ?_
    obtain ⟨hh7, e6, H⟩ := am_bd H
    refine am_G.cl [.ref a0] [] (am_Cl.mono (by decide) (lX7_step e6)) rfl rfl rfl rfl (Nat.le_of_ble_eq_true rfl) ?_
    refine am_G.fr 1 (g := (23, [some (.ref a0), some (.ref a1)], [.ref a1])) rfl ?_
    obtain ⟨law8, e9, H⟩ := am_bd H
    refine am_G.gR rfl e9 ?_
    refine am_G.fr 1 (g := (27, [some (.ref a0), some (.ref a1)], [.int ((0 : Int32)), .ref law8])) rfl ?_
    obtain ⟨hh10, e11, H⟩ := am_bd H
    refine am_G.pF rfl e11 ?_
    refine am_G.fr 1 (g := (31, [some (.ref a0), some (.ref a1)], [.ref a1])) rfl ?_
    obtain ⟨law12, e13, H⟩ := am_bd H
    refine am_G.gR rfl e13 ?_
    refine am_G.fr 3 (g := (37, [some (.ref a0), some (.ref a1)], [.int ((0 : Int32)), .int ((0 : Int32)), .ref a0, .ref law12])) rfl ?_
    obtain ⟨x15, hh16, e14, H⟩ := am_bd2 H
    refine am_G.cl [.ref law12, .ref a0, .int ((0 : Int32)), .int ((0 : Int32))] [] (am_Cl.mono (by decide) (lX1_readLevel e14)) rfl rfl rfl rfl (Nat.le_of_ble_eq_true rfl) ?_
    obtain ⟨js17, hh18, E26, H⟩ := am_bd2 H
    refine am_G.sq (t := ((57, [none, none], [.int js17]), hh18)) ?_ ?_
    · clear H
      have H := E26
      clear E26
      by_cases c19 : x15 = 0
      · rw [if_pos c19] at H
        refine am_G.br (tgt := 56) rfl rfl (if_pos c19) rfl ?_
        refine am_G.fr 1 (g := (57, [some (.ref a0), some (.ref a1)], [.int ((0 : Int32))])) rfl ?_
        obtain ⟨rfl, rfl⟩ := am_inj2 H
        refine am_G.fg [none, none] (by simp only [am_sub, and_self]) ?_
        exact am_G.nd rfl
      · rw [if_neg c19] at H
        refine am_G.br (tgt := 43) rfl rfl (if_neg c19) rfl ?_
        refine am_G.fr 2 (g := (46, [some (.ref a0), some (.ref a1)], [.int ((59 : Int32)), .ref a0])) rfl ?_
        obtain ⟨x21, hh22, e20, H⟩ := am_bd2 H
        refine am_G.cl [.ref a0, .int ((59 : Int32))] [] (am_Cl.mono (by decide) (lX7_passSign e20)) rfl rfl rfl rfl (Nat.le_of_ble_eq_true rfl) ?_
        by_cases c23 : x21 = 0
        · rw [if_pos c23] at H
          refine am_G.br (tgt := 56) rfl rfl (if_pos c23) rfl ?_
          refine am_G.fr 1 (g := (57, [some (.ref a0), some (.ref a1)], [.int ((0 : Int32))])) rfl ?_
          obtain ⟨rfl, rfl⟩ := am_inj2 H
          refine am_G.fg [none, none] (by simp only [am_sub, and_self]) ?_
          exact am_G.nd rfl
        · rw [if_neg c23] at H
          refine am_G.br (tgt := 52) rfl rfl (if_neg c23) rfl ?_
          refine am_G.fr 2 (g := (57, [some (.ref a0), some (.ref a1)], [.int ((1 : Int32))])) rfl ?_
          obtain ⟨rfl, rfl⟩ := am_inj2 H
          refine am_G.fg [none, none] (by simp only [am_sub, and_self]) ?_
          exact am_G.nd rfl
    · clear E26
      obtain ⟨b24, e25, H⟩ := am_bd H
      obtain ⟨rfl, rfl⟩ := am_inj2 H
      exact am_G.nd ⟨rfl, am_ret2 rfl e25⟩
  · rw [if_neg c3] at H
    refine am_G.br (tgt := 7) rfl rfl (if_neg c3) rfl ?_
    refine am_G.fr 2 (g := (9, [some (.ref a0), some (.ref a1)], [.int ((3 : Int32)), .ref a0])) rfl ?_
    obtain ⟨x28, hh29, e27, H⟩ := am_bd2 H
    refine am_G.cl [.ref a0, .int ((3 : Int32))] [] (am_Cl.mono (by decide) (lX7_refuse e27)) rfl rfl rfl rfl (Nat.le_of_ble_eq_true rfl) ?_
    obtain ⟨b30, e31, H⟩ := am_bd H
    obtain ⟨rfl, rfl⟩ := am_inj2 H
    exact am_G.nd ⟨rfl, am_ret2 rfl e31⟩
def fX4_readValeLine (a0 : Nat) (a1 : Nat) (h : am_H) : Option (Int32 × am_H) :=
  (fX7_isWord a0 1000000 h).bind fun x2 =>
  if x2 = 0 then
    (fX7_isWord a0 1000002 h).bind fun x5 =>
    if x5 = 0 then
      (fX7_isWord a0 1000003 h).bind fun x8 =>
      if x8 = 0 then
        (fX7_isWord a0 1000007 h).bind fun x11 =>
        if x11 = 0 then
          (fX7_isWord a0 1000008 h).bind fun x14 =>
          if x14 = 0 then
            (fX7_isWord a0 1000009 h).bind fun x17 =>
            if x17 = 0 then
              am_b2 (fX7_refuse a0 ((1 : Int32)) h) fun x20 hh21 =>
              (am_z01 x20).bind fun b22 =>
              some (b22, hh21)
            else
              am_b2 (fX4_readFades a0 a1 h) fun x25 hh26 =>
              (am_z01 x25).bind fun b27 =>
              some (b27, hh26)
          else
            am_b2 (fX4_readStays a0 a1 h) fun x30 hh31 =>
            (am_z01 x30).bind fun b32 =>
            some (b32, hh31)
        else
          am_b2 (fX4_readClash a0 a1 h) fun x35 hh36 =>
          (am_z01 x35).bind fun b37 =>
          some (b37, hh36)
      else
        am_b2 (fX4_readDay a0 a1 h) fun x40 hh41 =>
        (am_z01 x40).bind fun b42 =>
        some (b42, hh41)
    else
      am_b2 (fX4_readLends a0 a1 h) fun x45 hh46 =>
      (am_z01 x45).bind fun b47 =>
      some (b47, hh46)
  else
    am_b2 (fX4_readHouse a0 a1 h) fun x50 hh51 =>
    (am_z01 x50).bind fun b52 =>
    some (b52, hh51)
set_option maxHeartbeats 4000000 in
set_option maxRecDepth 100000 in
theorem lX4_readValeLine {sc : Nat × (Nat → Int32)} {a0 : Nat} {a1 : Nat} {h : am_H} {r : Int32} {h1 : am_H} (H : fX4_readValeLine a0 a1 h = some (r, h1)) : am_Cl am_T am_N sc 74 17 [.ref a0, .ref a1] h (some (.int r)) h1 := by
  unfold fX4_readValeLine at H
  refine am_mk (q := qX4_readValeLine) rfl (fun z => absurd z (by decide)) (fun z => absurd z (by decide)) (Nat.le_of_ble_eq_true rfl) rfl ?_
  show am_G sc (am_Cl am_T am_N sc 73) (am_at kX4_readValeLine) (fun t => t.2 = h1 ∧ am_ret 2 (am_at kX4_readValeLine) t.1 = some (some (.int r))) ((0, [some (.ref a0), some (.ref a1)], []), h)
  refine am_G.fr 2 (g := (3, [some (.ref a0), some (.ref a1)], [.ref 1000000, .ref a0])) rfl ?_
  obtain ⟨x2, e1, H⟩ := am_bd H
  refine am_G.cl [.ref a0, .ref 1000000] [] (am_Cl.mono (by decide) (lX7_isWord e1)) rfl rfl rfl rfl (Nat.le_of_ble_eq_true rfl) ?_
  by_cases c3 : x2 = 0
  · rw [if_pos c3] at H
    refine am_G.br (tgt := 15) rfl rfl (if_pos c3) rfl ?_
    refine am_G.fr 2 (g := (18, [some (.ref a0), some (.ref a1)], [.ref 1000002, .ref a0])) rfl ?_
    obtain ⟨x5, e4, H⟩ := am_bd H
    refine am_G.cl [.ref a0, .ref 1000002] [] (am_Cl.mono (by decide) (lX7_isWord e4)) rfl rfl rfl rfl (Nat.le_of_ble_eq_true rfl) ?_
    by_cases c6 : x5 = 0
    · rw [if_pos c6] at H
      refine am_G.br (tgt := 30) rfl rfl (if_pos c6) rfl ?_
      refine am_G.fr 2 (g := (33, [some (.ref a0), some (.ref a1)], [.ref 1000003, .ref a0])) rfl ?_
      obtain ⟨x8, e7, H⟩ := am_bd H
      refine am_G.cl [.ref a0, .ref 1000003] [] (am_Cl.mono (by decide) (lX7_isWord e7)) rfl rfl rfl rfl (Nat.le_of_ble_eq_true rfl) ?_
      by_cases c9 : x8 = 0
      · rw [if_pos c9] at H
        refine am_G.br (tgt := 45) rfl rfl (if_pos c9) rfl ?_
        refine am_G.fr 2 (g := (48, [some (.ref a0), some (.ref a1)], [.ref 1000007, .ref a0])) rfl ?_
        obtain ⟨x11, e10, H⟩ := am_bd H
        refine am_G.cl [.ref a0, .ref 1000007] [] (am_Cl.mono (by decide) (lX7_isWord e10)) rfl rfl rfl rfl (Nat.le_of_ble_eq_true rfl) ?_
        by_cases c12 : x11 = 0
        · rw [if_pos c12] at H
          refine am_G.br (tgt := 60) rfl rfl (if_pos c12) rfl ?_
          refine am_G.fr 2 (g := (63, [some (.ref a0), some (.ref a1)], [.ref 1000008, .ref a0])) rfl ?_
          obtain ⟨x14, e13, H⟩ := am_bd H
          refine am_G.cl [.ref a0, .ref 1000008] [] (am_Cl.mono (by decide) (lX7_isWord e13)) rfl rfl rfl rfl (Nat.le_of_ble_eq_true rfl) ?_
          by_cases c15 : x14 = 0
          · rw [if_pos c15] at H
            refine am_G.br (tgt := 75) rfl rfl (if_pos c15) rfl ?_
            refine am_G.fr 2 (g := (78, [some (.ref a0), some (.ref a1)], [.ref 1000009, .ref a0])) rfl ?_
            obtain ⟨x17, e16, H⟩ := am_bd H
            refine am_G.cl [.ref a0, .ref 1000009] [] (am_Cl.mono (by decide) (lX7_isWord e16)) rfl rfl rfl rfl (Nat.le_of_ble_eq_true rfl) ?_
            by_cases c18 : x17 = 0
            · rw [if_pos c18] at H
              refine am_G.br (tgt := 90) rfl rfl (if_pos c18) rfl ?_
              refine am_G.fr 2 (g := (92, [some (.ref a0), some (.ref a1)], [.int ((1 : Int32)), .ref a0])) rfl ?_
              obtain ⟨x20, hh21, e19, H⟩ := am_bd2 H
              refine am_G.cl [.ref a0, .int ((1 : Int32))] [] (am_Cl.mono (by decide) (lX7_refuse e19)) rfl rfl rfl rfl (Nat.le_of_ble_eq_true rfl) ?_
              obtain ⟨b22, e23, H⟩ := am_bd H
              obtain ⟨rfl, rfl⟩ := am_inj2 H
              exact am_G.nd ⟨rfl, am_ret2 rfl e23⟩
            · rw [if_neg c18] at H
              refine am_G.br (tgt := 84) rfl rfl (if_neg c18) rfl ?_
              refine am_G.fr 2 (g := (86, [some (.ref a0), some (.ref a1)], [.ref a1, .ref a0])) rfl ?_
              obtain ⟨x25, hh26, e24, H⟩ := am_bd2 H
              refine am_G.cl [.ref a0, .ref a1] [] (am_Cl.mono (by decide) (lX4_readFades e24)) rfl rfl rfl rfl (Nat.le_of_ble_eq_true rfl) ?_
              obtain ⟨b27, e28, H⟩ := am_bd H
              obtain ⟨rfl, rfl⟩ := am_inj2 H
              exact am_G.nd ⟨rfl, am_ret2 rfl e28⟩
          · rw [if_neg c15] at H
            refine am_G.br (tgt := 69) rfl rfl (if_neg c15) rfl ?_
            refine am_G.fr 2 (g := (71, [some (.ref a0), some (.ref a1)], [.ref a1, .ref a0])) rfl ?_
            obtain ⟨x30, hh31, e29, H⟩ := am_bd2 H
            refine am_G.cl [.ref a0, .ref a1] [] (am_Cl.mono (by decide) (lX4_readStays e29)) rfl rfl rfl rfl (Nat.le_of_ble_eq_true rfl) ?_
            obtain ⟨b32, e33, H⟩ := am_bd H
            obtain ⟨rfl, rfl⟩ := am_inj2 H
            exact am_G.nd ⟨rfl, am_ret2 rfl e33⟩
        · rw [if_neg c12] at H
          refine am_G.br (tgt := 54) rfl rfl (if_neg c12) rfl ?_
          refine am_G.fr 2 (g := (56, [some (.ref a0), some (.ref a1)], [.ref a1, .ref a0])) rfl ?_
          obtain ⟨x35, hh36, e34, H⟩ := am_bd2 H
          refine am_G.cl [.ref a0, .ref a1] [] (am_Cl.mono (by decide) (lX4_readClash e34)) rfl rfl rfl rfl (Nat.le_of_ble_eq_true rfl) ?_
          obtain ⟨b37, e38, H⟩ := am_bd H
          obtain ⟨rfl, rfl⟩ := am_inj2 H
          exact am_G.nd ⟨rfl, am_ret2 rfl e38⟩
      · rw [if_neg c9] at H
        refine am_G.br (tgt := 39) rfl rfl (if_neg c9) rfl ?_
        refine am_G.fr 2 (g := (41, [some (.ref a0), some (.ref a1)], [.ref a1, .ref a0])) rfl ?_
        obtain ⟨x40, hh41, e39, H⟩ := am_bd2 H
        refine am_G.cl [.ref a0, .ref a1] [] (am_Cl.mono (by decide) (lX4_readDay e39)) rfl rfl rfl rfl (Nat.le_of_ble_eq_true rfl) ?_
        obtain ⟨b42, e43, H⟩ := am_bd H
        obtain ⟨rfl, rfl⟩ := am_inj2 H
        exact am_G.nd ⟨rfl, am_ret2 rfl e43⟩
    · rw [if_neg c6] at H
      refine am_G.br (tgt := 24) rfl rfl (if_neg c6) rfl ?_
      refine am_G.fr 2 (g := (26, [some (.ref a0), some (.ref a1)], [.ref a1, .ref a0])) rfl ?_
      obtain ⟨x45, hh46, e44, H⟩ := am_bd2 H
      refine am_G.cl [.ref a0, .ref a1] [] (am_Cl.mono (by decide) (lX4_readLends e44)) rfl rfl rfl rfl (Nat.le_of_ble_eq_true rfl) ?_
      obtain ⟨b47, e48, H⟩ := am_bd H
      obtain ⟨rfl, rfl⟩ := am_inj2 H
      exact am_G.nd ⟨rfl, am_ret2 rfl e48⟩
  · rw [if_neg c3] at H
    refine am_G.br (tgt := 9) rfl rfl (if_neg c3) rfl ?_
    refine am_G.fr 2 (g := (11, [some (.ref a0), some (.ref a1)], [.ref a1, .ref a0])) rfl ?_
    obtain ⟨x50, hh51, e49, H⟩ := am_bd2 H
    refine am_G.cl [.ref a0, .ref a1] [] (am_Cl.mono (by decide) (lX4_readHouse e49)) rfl rfl rfl rfl (Nat.le_of_ble_eq_true rfl) ?_
    obtain ⟨b52, e53, H⟩ := am_bd H
    obtain ⟨rfl, rfl⟩ := am_inj2 H
    exact am_G.nd ⟨rfl, am_ret2 rfl e53⟩
def fX4_readVale_L10 : Nat → Nat → Nat → Int32 → am_H → Option ((am_H) ⊕ (Int32 × am_H))
  | 0, _, _, _, _ => none
  | n + 1, v0, v1, v2, h =>
    if ((1000 : Int32)) ≤ v2 then
      some (.inl h)
    else
      (fX7_atEnd v0 h).bind fun x7 =>
      if ¬ x7 = 0 then
        some (.inl h)
      else
        am_b2 (fX4_readValeLine v0 v1 h) fun x10 hh11 =>
        if ¬ x10 = 0 then
          fX4_readVale_L10 n v0 v1 (v2 + (1 : Int32)) hh11
        else
          (am_gI hh11 v0 6 7).bind fun fault13 =>
          some (.inr (fault13, hh11))
def fX4_readVale (a0 : Nat) (a1 : Nat) (h : am_H) : Option (Int32 × am_H) :=
  (fX8_clear a1 h).bind fun hh2 =>
  (fX7_begin a0 hh2).bind fun hh4 =>
  (fX4_readVale_L10 4000 a0 a1 ((0 : Int32)) hh4).bind fun o17 => match o17 with
    | .inl hh15 =>
      some ((0 : Int32), hh15)
    | .inr y18 => some y18
set_option maxHeartbeats 4000000 in
set_option maxRecDepth 100000 in
theorem lX4_readVale_L10 {sc : Nat × (Nat → Int32)} : ∀ (n : Nat) (v0 : Nat) (v1 : Nat) (v2 : Int32) (h : am_H) (o : (am_H) ⊕ (Int32 × am_H)), fX4_readVale_L10 n v0 v1 v2 h = some o → am_G sc (am_Cl am_T am_N sc 74) (am_at kX4_readVale) (fun t => match o with
    | .inl h1 => t = ((43, [none, none, none], []), h1)
    | .inr y => t.2 = y.2 ∧ am_ret 1 (am_at kX4_readVale) t.1 = some (some (.int y.1))) ((10, [some (.ref v0), some (.ref v1), some (.int v2)], []), h) := by
  intro n
  induction n with
  | zero => intro _ _ _ _ _ H; cases H
  | succ n ih =>
    intro v0 v1 v2 h o H
    rw [fX4_readVale_L10] at H
    refine am_G.fr 2 (g := (14, [some (.ref v0), some (.ref v1), some (.int v2)], [.int ((1000 : Int32)), .int v2])) rfl ?_
    by_cases c5 : ((1000 : Int32)) ≤ v2
    · rw [if_pos c5] at H
      refine am_G.br (tgt := 43) rfl rfl (if_pos c5) rfl ?_
      obtain rfl := Option.some.inj H
      refine am_G.fg [none, none, none] (by simp only [am_sub, and_self]) ?_
      exact am_G.nd rfl
    · rw [if_neg c5] at H
      refine am_G.br (tgt := 17) rfl rfl (if_neg c5) rfl ?_
      refine am_G.fr 1 (g := (18, [some (.ref v0), some (.ref v1), some (.int v2)], [.ref v0])) rfl ?_
      obtain ⟨x7, e6, H⟩ := am_bd H
      refine am_G.cl [.ref v0] [] (am_Cl.mono (by decide) (lX7_atEnd e6)) rfl rfl rfl rfl (Nat.le_of_ble_eq_true rfl) ?_
      by_cases c8 : ¬ x7 = 0
      · rw [if_pos c8] at H
        refine am_G.br (tgt := 43) rfl rfl (if_pos c8) rfl ?_
        obtain rfl := Option.some.inj H
        refine am_G.fg [none, none, none] (by simp only [am_sub, and_self]) ?_
        exact am_G.nd rfl
      · rw [if_neg c8] at H
        refine am_G.br (tgt := 24) rfl rfl (if_neg c8) rfl ?_
        refine am_G.fr 2 (g := (26, [some (.ref v0), some (.ref v1), some (.int v2)], [.ref v1, .ref v0])) rfl ?_
        obtain ⟨x10, hh11, e9, H⟩ := am_bd2 H
        refine am_G.cl [.ref v0, .ref v1] [] (am_Cl.mono (by decide) (lX4_readValeLine e9)) rfl rfl rfl rfl (Nat.le_of_ble_eq_true rfl) ?_
        by_cases c12 : ¬ x10 = 0
        · rw [if_pos c12] at H
          refine am_G.br (tgt := 37) rfl rfl (if_pos c12) rfl ?_
          refine am_G.fr 2 (g := (10, [some (.ref v0), some (.ref v1), some (.int (v2 + (1 : Int32)))], [])) rfl ?_
          exact ih _ _ _ _ _ H
        · rw [if_neg c12] at H
          refine am_G.br (tgt := 32) rfl rfl (if_neg c12) rfl ?_
          refine am_G.fr 1 (g := (33, [some (.ref v0), some (.ref v1), some (.int v2)], [.ref v0])) rfl ?_
          obtain ⟨fault13, e14, H⟩ := am_bd H
          refine am_G.gI rfl e14 ?_
          obtain rfl := Option.some.inj H
          exact am_G.nd ⟨rfl, rfl⟩
set_option maxHeartbeats 4000000 in
set_option maxRecDepth 100000 in
theorem lX4_readVale {sc : Nat × (Nat → Int32)} {a0 : Nat} {a1 : Nat} {h : am_H} {r : Int32} {h1 : am_H} (H : fX4_readVale a0 a1 h = some (r, h1)) : am_Cl am_T am_N sc 75 16 [.ref a0, .ref a1] h (some (.int r)) h1 := by
  unfold fX4_readVale at H
  refine am_mk (q := qX4_readVale) rfl (fun z => absurd z (by decide)) (fun z => absurd z (by decide)) (Nat.le_of_ble_eq_true rfl) rfl ?_
  show am_G sc (am_Cl am_T am_N sc 74) (am_at kX4_readVale) (fun t => t.2 = h1 ∧ am_ret 1 (am_at kX4_readVale) t.1 = some (some (.int r))) ((0, [some (.ref a0), some (.ref a1), none], []), h)
  refine am_G.fr 1 (g := (1, [some (.ref a0), some (.ref a1), none], [.ref a1])) rfl ?_
  obtain ⟨hh2, e1, H⟩ := am_bd H
  refine am_G.cl [.ref a1] [] (am_Cl.mono (by decide) (lX8_clear e1)) rfl rfl rfl rfl (Nat.le_of_ble_eq_true rfl) ?_
  refine am_G.fr 1 (g := (5, [some (.ref a0), some (.ref a1), none], [.ref a0])) rfl ?_
  obtain ⟨hh4, e3, H⟩ := am_bd H
  refine am_G.cl [.ref a0] [] (am_Cl.mono (by decide) (lX7_begin e3)) rfl rfl rfl rfl (Nat.le_of_ble_eq_true rfl) ?_
  refine am_G.fr 2 (g := (10, [some (.ref a0), some (.ref a1), some (.int ((0 : Int32)))], [])) rfl ?_
  obtain ⟨o17, E16, H⟩ := am_bd H
  have hL := lX4_readVale_L10 (sc := sc) _ _ _ _ _ _ E16
  clear E16
  rcases o17 with hh15 | y18
  · dsimp only at H
    refine am_G.sq hL ?_
    refine am_G.fr 1 (g := (44, [none, none, none], [.int ((0 : Int32))])) rfl ?_
    obtain ⟨rfl, rfl⟩ := am_inj2 H
    exact am_G.nd ⟨rfl, rfl⟩
  · dsimp only at H
    obtain rfl := Option.some.inj H
    exact hL
def fX9_vale (a0 : Nat) (h : am_H) : Option (Int32 × am_H) :=
  (am_isO h a0 8).bind fun _ =>
  (am_gR h a0 8 0).bind fun tape1 =>
  (am_gR h a0 8 10).bind fun spareVale3 =>
  am_b2 (fX4_readVale tape1 spareVale3 h) fun x6 hh7 =>
  (am_gR hh7 a0 8 0).bind fun tape8 =>
  (am_pF hh7 tape8 6 1 (.int ((0 : Int32)))).bind fun hh10 =>
  Option.bind (
    if ¬ x6 = 0 then
      some hh10
    else
      (am_gR hh10 a0 8 9).bind fun told14 =>
      (am_gR hh10 a0 8 10).bind fun spareVale16 =>
      (am_pF hh10 a0 8 9 (.ref spareVale16)).bind fun hh18 =>
      (am_pF hh18 a0 8 10 (.ref told14)).bind fun hh20 =>
      (fX9_startAnew a0 hh20).bind fun hh23 =>
      some hh23) fun hh12 =>
  some (x6, hh12)
set_option maxHeartbeats 4000000 in
set_option maxRecDepth 100000 in
theorem lX9_vale {sc : Nat × (Nat → Int32)} {a0 : Nat} {h : am_H} {r : Int32} {h1 : am_H} (H : fX9_vale a0 h = some (r, h1)) : am_Cl am_T am_N sc 76 80 [.ref a0] h (some (.int r)) h1 := by
  unfold fX9_vale at H
  obtain ⟨_, hO, H⟩ := am_bd H
  obtain ⟨fs0, hO⟩ := am_isO_ok hO
  refine am_mk (q := qX9_vale) rfl (fun _ => ⟨_, _, _, _, _, rfl, hO, rfl, rfl⟩) (fun z => absurd z (by decide)) (Nat.le_of_ble_eq_true rfl) rfl ?_
  show am_G sc (am_Cl am_T am_N sc 75) (am_at kX9_vale) (fun t => t.2 = h1 ∧ am_ret 1 (am_at kX9_vale) t.1 = some (some (.int r))) ((0, [some (.ref a0), none, none], []), h)
  refine am_G.fr 1 (g := (1, [some (.ref a0), none, none], [.ref a0])) rfl ?_
  obtain ⟨tape1, e2, H⟩ := am_bd H
  refine am_G.gR rfl e2 ?_
  refine am_G.fr 1 (g := (5, [some (.ref a0), none, none], [.ref a0, .ref tape1])) rfl ?_
  obtain ⟨spareVale3, e4, H⟩ := am_bd H
  refine am_G.gR rfl e4 ?_
  obtain ⟨x6, hh7, e5, H⟩ := am_bd2 H
  refine am_G.cl [.ref tape1, .ref spareVale3] [] (am_Cl.mono (by decide) (lX4_readVale e5)) rfl rfl rfl rfl (Nat.le_of_ble_eq_true rfl) ?_
  refine am_G.fr 2 (g := (13, [some (.ref a0), some (.int x6), none], [.ref a0])) rfl ?_
  obtain ⟨tape8, e9, H⟩ := am_bd H
  refine am_G.gR rfl e9 ?_
  refine am_G.fr 1 (g := (17, [some (.ref a0), some (.int x6), none], [.int ((0 : Int32)), .ref tape8])) rfl ?_
  obtain ⟨hh10, e11, H⟩ := am_bd H
  refine am_G.pF rfl e11 ?_
  refine am_G.fr 1 (g := (21, [some (.ref a0), some (.int x6), none], [.int x6])) rfl ?_
  obtain ⟨hh12, E24, H⟩ := am_bd H
  refine am_G.sq (t := ((46, [none, some (.int x6), none], []), hh12)) ?_ ?_
  · clear H
    have H := E24
    clear E24
    by_cases c13 : ¬ x6 = 0
    · rw [if_pos c13] at H
      refine am_G.br (tgt := 46) rfl rfl (if_pos c13) rfl ?_
      obtain rfl := Option.some.inj H
      refine am_G.fg [none, some (.int x6), none] (by simp only [am_sub, and_self]) ?_
      exact am_G.nd rfl
    · rw [if_neg c13] at H
      refine am_G.br (tgt := 24) rfl rfl (if_neg c13) rfl ?_
      refine am_G.fr 1 (g := (25, [some (.ref a0), some (.int x6), none], [.ref a0])) rfl ?_
      obtain ⟨told14, e15, H⟩ := am_bd H
      refine am_G.gR rfl e15 ?_
      refine am_G.fr 3 (g := (31, [some (.ref a0), some (.int x6), some (.ref told14)], [.ref a0, .ref a0])) rfl ?_
      obtain ⟨spareVale16, e17, H⟩ := am_bd H
      refine am_G.gR rfl e17 ?_
      obtain ⟨hh18, e19, H⟩ := am_bd H
      refine am_G.pF rfl e19 ?_
      refine am_G.fr 2 (g := (39, [some (.ref a0), some (.int x6), some (.ref told14)], [.ref told14, .ref a0])) rfl ?_
      obtain ⟨hh20, e21, H⟩ := am_bd H
      refine am_G.pF rfl e21 ?_
      refine am_G.fr 1 (g := (43, [some (.ref a0), some (.int x6), some (.ref told14)], [.ref a0])) rfl ?_
      obtain ⟨hh23, e22, H⟩ := am_bd H
      refine am_G.cl [.ref a0] [] (am_Cl.mono (by decide) (lX9_startAnew e22)) rfl rfl rfl rfl (Nat.le_of_ble_eq_true rfl) ?_
      obtain rfl := Option.some.inj H
      refine am_G.fg [none, some (.int x6), none] (by simp only [am_sub, and_self]) ?_
      exact am_G.nd rfl
  · clear E24
    refine am_G.fr 1 (g := (47, [none, some (.int x6), none], [.int x6])) rfl ?_
    obtain ⟨rfl, rfl⟩ := am_inj2 H
    exact am_G.nd ⟨rfl, rfl⟩
def am_RcX9_waysFrom (sc : Nat × (Nat → Int32)) (d : Nat) (rc : Nat → Nat → Int32 → am_H → Option (Int32 × am_H)) : Prop := ∀ (a0 : Nat) (a1 : Int32) (h : am_H) (r : Int32) (h1 : am_H), (rc 0 a0 a1 h = some (r, h1) → am_Cl am_T am_N sc d 103 [.ref a0, .int a1] h (some (.int r)) h1)
def fX9_waysFrom_L49 (rc : Nat → Nat → Int32 → am_H → Option (Int32 × am_H)) : Nat → Nat → Int32 → Int32 → Int32 → Int32 → am_H → Option (Int32 × am_H)
  | 0, _, _, _, _, _, _ => none
  | n + 1, v0, v1, v2, v3, v4, h =>
    (am_gR h v0 8 9).bind fun told19 =>
    (am_gI h told19 7 11).bind fun houses21 =>
    if houses21 ≤ v4 then
      some (v2, h)
    else
      (am_gR h v0 8 6).bind fun row24 =>
      (am_aI h 0 row24 v4).bind fun x26 =>
      am_b2 (
        if x26 < v3 then
          some (v2, h)
        else
          (am_gR h v0 8 7).bind fun laid31 =>
          (am_aI h 0 laid31 v4).bind fun x33 =>
          (am_gR h v0 8 9).bind fun told35 =>
          (am_gR h told35 7 8).bind fun foes37 =>
          (am_aI h 0 foes37 v1).bind fun x39 =>
          if ¬ (x33 &&& x39) = 0 then
            some (v2, h)
          else
            (am_gR h v0 8 6).bind fun row42 =>
            (am_aI h 0 row42 v4).bind fun x44 =>
            (am_sI h 0 row42 v4 (x44 - v3)).bind fun hh46 =>
            (am_gR hh46 v0 8 7).bind fun laid48 =>
            (am_aI hh46 0 laid48 v4).bind fun x50 =>
            (am_sI hh46 0 laid48 v4 (x50 ||| (((1 : Int32)) <<< (v1 &&& 31)))).bind fun hh52 =>
            am_b2 (rc 0 v0 (v1 + ((1 : Int32))) hh52) fun x55 hh56 =>
            (am_gR hh56 v0 8 7).bind fun laid57 =>
            (am_aI hh56 0 laid57 v4).bind fun x59 =>
            (am_sI hh56 0 laid57 v4 (x59 &&& ((((1 : Int32)) <<< (v1 &&& 31)) ^^^ ((-1 : Int32))))).bind fun hh61 =>
            (am_gR hh61 v0 8 6).bind fun row63 =>
            (am_aI hh61 0 row63 v4).bind fun x65 =>
            (am_sI hh61 0 row63 v4 (x65 + v3)).bind fun hh67 =>
            some (v2 + x55, hh67)) fun jv28 hh29 =>
      fX9_waysFrom_L49 rc n v0 v1 jv28 v3 (v4 + (1 : Int32)) hh29
def gX9_waysFrom : Nat → Nat → Nat → Int32 → am_H → Option (Int32 × am_H)
  | 0, _, _, _, _ => none
  | n + 1, tag, a0, a1, h =>
    if tag = 0 then
      (am_isO h a0 8).bind fun _ =>
      (am_gR h a0 8 9).bind fun told1 =>
      (am_gI h told1 7 12).bind fun days3 =>
      if a1 < days3 then
        (am_gR h a0 8 1).bind fun now6 =>
        (am_gR h now6 5 3).bind fun at8 =>
        (am_aI h 0 at8 a1).bind fun x10 =>
        if ¬ x10 = ((-1 : Int32)) then
          (am_gR h a0 8 9).bind fun told13 =>
          (am_gR h told13 7 9).bind fun wants15 =>
          (am_aI h 0 wants15 a1).bind fun x17 =>
          am_b2 (fX9_waysFrom_L49 (gX9_waysFrom n) 4000 a0 a1 ((0 : Int32)) x17 ((0 : Int32)) h) fun lw70 hh71 =>
          some (lw70, hh71)
        else
          am_b2 (gX9_waysFrom n 0 a0 (a1 + ((1 : Int32))) h) fun x74 hh75 =>
          some (x74, hh75)
      else
        some ((1 : Int32), h)
    else none
set_option maxHeartbeats 4000000 in
set_option maxRecDepth 100000 in
theorem lX9_waysFrom_L49 {sc : Nat × (Nat → Int32)} {d : Nat} {rc : Nat → Nat → Int32 → am_H → Option (Int32 × am_H)} (hdb : 0 ≤ d) (hrc : am_RcX9_waysFrom sc d rc) : ∀ (n : Nat) (v0 : Nat) (v1 : Int32) (v2 : Int32) (v3 : Int32) (v4 : Int32) (h : am_H) (w2 : Int32) (h1 : am_H), fX9_waysFrom_L49 rc n v0 v1 v2 v3 v4 h = some (w2, h1) → am_G sc (am_Cl am_T am_N sc d) (am_at kX9_waysFrom) (fun t => t = ((158, [none, none, some (.int w2), none, none], []), h1)) ((49, [some (.ref v0), some (.int v1), some (.int v2), some (.int v3), some (.int v4)], []), h) := by
  intro n
  induction n with
  | zero => intro _ _ _ _ _ _ _ _ H; cases H
  | succ n ih =>
    intro v0 v1 v2 v3 v4 h w2 h1 H
    rw [fX9_waysFrom_L49] at H
    refine am_G.fr 2 (g := (52, [some (.ref v0), some (.int v1), some (.int v2), some (.int v3), some (.int v4)], [.ref v0, .int v4])) rfl ?_
    obtain ⟨told19, e20, H⟩ := am_bd H
    refine am_G.gR rfl e20 ?_
    obtain ⟨houses21, e22, H⟩ := am_bd H
    refine am_G.gI rfl e22 ?_
    by_cases c23 : houses21 ≤ v4
    · rw [if_pos c23] at H
      refine am_G.br (tgt := 158) rfl rfl (if_pos c23) rfl ?_
      obtain ⟨rfl, rfl⟩ := am_inj2 H
      refine am_G.fg [none, none, some (.int v2), none, none] (by simp only [am_sub, and_self]) ?_
      exact am_G.nd rfl
    · rw [if_neg c23] at H
      refine am_G.br (tgt := 61) rfl rfl (if_neg c23) rfl ?_
      refine am_G.fr 1 (g := (62, [some (.ref v0), some (.int v1), some (.int v2), some (.int v3), some (.int v4)], [.ref v0])) rfl ?_
      obtain ⟨row24, e25, H⟩ := am_bd H
      refine am_G.gR rfl e25 ?_
      refine am_G.fr 1 (g := (67, [some (.ref v0), some (.int v1), some (.int v2), some (.int v3), some (.int v4)], [.int v4, .ref row24])) rfl ?_
      obtain ⟨x26, e27, H⟩ := am_bd H
      refine am_G.aI rfl e27 ?_
      refine am_G.fr 1 (g := (69, [some (.ref v0), some (.int v1), some (.int v2), some (.int v3), some (.int v4)], [.int v3, .int x26])) rfl ?_
      obtain ⟨jv28, hh29, E69, H⟩ := am_bd2 H
      refine am_G.sq (t := ((152, [some (.ref v0), some (.int v1), some (.int jv28), some (.int v3), some (.int v4)], []), hh29)) ?_ ?_
      · clear H
        have H := E69
        clear E69
        by_cases c30 : x26 < v3
        · rw [if_pos c30] at H
          refine am_G.br (tgt := 152) rfl rfl (if_pos c30) rfl ?_
          obtain ⟨rfl, rfl⟩ := am_inj2 H
          exact am_G.nd rfl
        · rw [if_neg c30] at H
          refine am_G.br (tgt := 72) rfl rfl (if_neg c30) rfl ?_
          refine am_G.fr 1 (g := (73, [some (.ref v0), some (.int v1), some (.int v2), some (.int v3), some (.int v4)], [.ref v0])) rfl ?_
          obtain ⟨laid31, e32, H⟩ := am_bd H
          refine am_G.gR rfl e32 ?_
          refine am_G.fr 1 (g := (78, [some (.ref v0), some (.int v1), some (.int v2), some (.int v3), some (.int v4)], [.int v4, .ref laid31])) rfl ?_
          obtain ⟨x33, e34, H⟩ := am_bd H
          refine am_G.aI rfl e34 ?_
          refine am_G.fr 1 (g := (80, [some (.ref v0), some (.int v1), some (.int v2), some (.int v3), some (.int v4)], [.ref v0, .int x33])) rfl ?_
          obtain ⟨told35, e36, H⟩ := am_bd H
          refine am_G.gR rfl e36 ?_
          obtain ⟨foes37, e38, H⟩ := am_bd H
          refine am_G.gR rfl e38 ?_
          refine am_G.fr 1 (g := (87, [some (.ref v0), some (.int v1), some (.int v2), some (.int v3), some (.int v4)], [.int v1, .ref foes37, .int x33])) rfl ?_
          obtain ⟨x39, e40, H⟩ := am_bd H
          refine am_G.aI rfl e40 ?_
          refine am_G.fr 1 (g := (89, [some (.ref v0), some (.int v1), some (.int v2), some (.int v3), some (.int v4)], [.int (x33 &&& x39)])) rfl ?_
          by_cases c41 : ¬ (x33 &&& x39) = 0
          · rw [if_pos c41] at H
            refine am_G.br (tgt := 152) rfl rfl (if_pos c41) rfl ?_
            obtain ⟨rfl, rfl⟩ := am_inj2 H
            exact am_G.nd rfl
          · rw [if_neg c41] at H
            refine am_G.br (tgt := 92) rfl rfl (if_neg c41) rfl ?_
            refine am_G.fr 1 (g := (93, [some (.ref v0), some (.int v1), some (.int v2), some (.int v3), some (.int v4)], [.ref v0])) rfl ?_
            obtain ⟨row42, e43, H⟩ := am_bd H
            refine am_G.gR rfl e43 ?_
            refine am_G.fr 2 (g := (99, [some (.ref v0), some (.int v1), some (.int v2), some (.int v3), some (.int v4)], [.int v4, .ref row42, .int v4, .ref row42])) rfl ?_
            obtain ⟨x44, e45, H⟩ := am_bd H
            refine am_G.aI rfl e45 ?_
            refine am_G.fr 2 (g := (102, [some (.ref v0), some (.int v1), some (.int v2), some (.int v3), some (.int v4)], [.int (x44 - v3), .int v4, .ref row42])) rfl ?_
            obtain ⟨hh46, e47, H⟩ := am_bd H
            refine am_G.sI rfl e47 ?_
            refine am_G.fr 1 (g := (104, [some (.ref v0), some (.int v1), some (.int v2), some (.int v3), some (.int v4)], [.ref v0])) rfl ?_
            obtain ⟨laid48, e49, H⟩ := am_bd H
            refine am_G.gR rfl e49 ?_
            refine am_G.fr 2 (g := (110, [some (.ref v0), some (.int v1), some (.int v2), some (.int v3), some (.int v4)], [.int v4, .ref laid48, .int v4, .ref laid48])) rfl ?_
            obtain ⟨x50, e51, H⟩ := am_bd H
            refine am_G.aI rfl e51 ?_
            refine am_G.fr 4 (g := (115, [some (.ref v0), some (.int v1), some (.int v2), some (.int v3), some (.int v4)], [.int (x50 ||| (((1 : Int32)) <<< (v1 &&& 31))), .int v4, .ref laid48])) rfl ?_
            obtain ⟨hh52, e53, H⟩ := am_bd H
            refine am_G.sI rfl e53 ?_
            refine am_G.fr 5 (g := (121, [some (.ref v0), some (.int v1), some (.int v2), some (.int v3), some (.int v4)], [.int (v1 + ((1 : Int32))), .ref v0, .int v2])) rfl ?_
            obtain ⟨x55, hh56, e54, H⟩ := am_bd2 H
            refine am_G.cl [.ref v0, .int (v1 + ((1 : Int32)))] [.int v2] ((hrc _ _ _ _ _) e54) rfl rfl rfl rfl (Nat.le_of_ble_eq_true rfl) ?_
            refine am_G.fr 3 (g := (127, [some (.ref v0), some (.int v1), some (.int (v2 + x55)), some (.int v3), some (.int v4)], [.ref v0])) rfl ?_
            obtain ⟨laid57, e58, H⟩ := am_bd H
            refine am_G.gR rfl e58 ?_
            refine am_G.fr 2 (g := (133, [some (.ref v0), some (.int v1), some (.int (v2 + x55)), some (.int v3), some (.int v4)], [.int v4, .ref laid57, .int v4, .ref laid57])) rfl ?_
            obtain ⟨x59, e60, H⟩ := am_bd H
            refine am_G.aI rfl e60 ?_
            refine am_G.fr 6 (g := (140, [some (.ref v0), some (.int v1), some (.int (v2 + x55)), some (.int v3), some (.int v4)], [.int (x59 &&& ((((1 : Int32)) <<< (v1 &&& 31)) ^^^ ((-1 : Int32)))), .int v4, .ref laid57])) rfl ?_
            obtain ⟨hh61, e62, H⟩ := am_bd H
            refine am_G.sI rfl e62 ?_
            refine am_G.fr 1 (g := (142, [some (.ref v0), some (.int v1), some (.int (v2 + x55)), some (.int v3), some (.int v4)], [.ref v0])) rfl ?_
            obtain ⟨row63, e64, H⟩ := am_bd H
            refine am_G.gR rfl e64 ?_
            refine am_G.fr 2 (g := (148, [some (.ref v0), some (.int v1), some (.int (v2 + x55)), some (.int v3), some (.int v4)], [.int v4, .ref row63, .int v4, .ref row63])) rfl ?_
            obtain ⟨x65, e66, H⟩ := am_bd H
            refine am_G.aI rfl e66 ?_
            refine am_G.fr 2 (g := (151, [some (.ref v0), some (.int v1), some (.int (v2 + x55)), some (.int v3), some (.int v4)], [.int (x65 + v3), .int v4, .ref row63])) rfl ?_
            obtain ⟨hh67, e68, H⟩ := am_bd H
            refine am_G.sI rfl e68 ?_
            obtain ⟨rfl, rfl⟩ := am_inj2 H
            exact am_G.nd rfl
      · clear E69
        refine am_G.fr 2 (g := (49, [some (.ref v0), some (.int v1), some (.int jv28), some (.int v3), some (.int (v4 + (1 : Int32)))], [])) rfl ?_
        exact ih _ _ _ _ _ _ _ _ H
set_option maxHeartbeats 8000000 in
set_option maxRecDepth 100000 in
theorem lgX9_waysFrom {sc : Nat × (Nat → Int32)} : ∀ n, am_RcX9_waysFrom sc (0 + n) (gX9_waysFrom n) := by
  intro n
  induction n with
  | zero => intro _ _ _ _ _; exact fun H => by cases H
  | succ n hrc =>
    have hdb : 0 ≤ 0 + n := Nat.le_add_right _ _
    intro a0 a1 h r h1
    intro H
    rw [gX9_waysFrom] at H
    rw [if_pos rfl] at H
    obtain ⟨_, hO, H⟩ := am_bd H
    obtain ⟨fs0, hO⟩ := am_isO_ok hO
    refine am_mk (d := 0 + n) (q := qX9_waysFrom) rfl (fun _ => ⟨_, _, _, _, _, rfl, hO, rfl, rfl⟩) (fun z => absurd z (by decide)) (Nat.le_of_ble_eq_true rfl) rfl ?_
    show am_G sc (am_Cl am_T am_N sc (0 + n)) (am_at kX9_waysFrom) (fun t => t.2 = h1 ∧ am_ret 1 (am_at kX9_waysFrom) t.1 = some (some (.int r))) ((0, [some (.ref a0), some (.int a1), none, none, none], []), h)
    refine am_G.fr 2 (g := (2, [some (.ref a0), some (.int a1), none, none, none], [.ref a0, .int a1])) rfl ?_
    obtain ⟨told1, e2, H⟩ := am_bd H
    refine am_G.gR rfl e2 ?_
    obtain ⟨days3, e4, H⟩ := am_bd H
    refine am_G.gI rfl e4 ?_
    by_cases c5 : a1 < days3
    · rw [if_pos c5] at H
      refine am_G.br (tgt := 13) rfl rfl (if_pos c5) rfl ?_
      refine am_G.fr 1 (g := (14, [some (.ref a0), some (.int a1), none, none, none], [.ref a0])) rfl ?_
      obtain ⟨now6, e7, H⟩ := am_bd H
      refine am_G.gR rfl e7 ?_
      obtain ⟨at8, e9, H⟩ := am_bd H
      refine am_G.gR rfl e9 ?_
      refine am_G.fr 1 (g := (21, [some (.ref a0), some (.int a1), none, none, none], [.int a1, .ref at8])) rfl ?_
      obtain ⟨x10, e11, H⟩ := am_bd H
      refine am_G.aI rfl e11 ?_
      refine am_G.fr 1 (g := (23, [some (.ref a0), some (.int a1), none, none, none], [.int ((-1 : Int32)), .int x10])) rfl ?_
      by_cases c12 : ¬ x10 = ((-1 : Int32))
      · rw [if_pos c12] at H
        refine am_G.br (tgt := 34) rfl rfl (if_pos c12) rfl ?_
        refine am_G.fr 3 (g := (37, [some (.ref a0), some (.int a1), some (.int ((0 : Int32))), none, none], [.ref a0])) rfl ?_
        obtain ⟨told13, e14, H⟩ := am_bd H
        refine am_G.gR rfl e14 ?_
        obtain ⟨wants15, e16, H⟩ := am_bd H
        refine am_G.gR rfl e16 ?_
        refine am_G.fr 1 (g := (44, [some (.ref a0), some (.int a1), some (.int ((0 : Int32))), none, none], [.int a1, .ref wants15])) rfl ?_
        obtain ⟨x17, e18, H⟩ := am_bd H
        refine am_G.aI rfl e18 ?_
        refine am_G.fr 3 (g := (49, [some (.ref a0), some (.int a1), some (.int ((0 : Int32))), some (.int x17), some (.int ((0 : Int32)))], [])) rfl ?_
        obtain ⟨lw70, hh71, E72, H⟩ := am_bd2 H
        refine am_G.sq (lX9_waysFrom_L49 hdb hrc _ _ _ _ _ _ _ _ _ E72) ?_
        clear E72
        refine am_G.fr 1 (g := (159, [none, none, some (.int lw70), none, none], [.int lw70])) rfl ?_
        obtain ⟨rfl, rfl⟩ := am_inj2 H
        exact am_G.nd ⟨rfl, rfl⟩
      · rw [if_neg c12] at H
        refine am_G.br (tgt := 26) rfl rfl (if_neg c12) rfl ?_
        refine am_G.fr 4 (g := (30, [some (.ref a0), some (.int a1), none, none, none], [.int (a1 + ((1 : Int32))), .ref a0])) rfl ?_
        obtain ⟨x74, hh75, e73, H⟩ := am_bd2 H
        refine am_G.cl [.ref a0, .int (a1 + ((1 : Int32)))] [] ((hrc _ _ _ _ _) e73) rfl rfl rfl rfl (Nat.le_of_ble_eq_true rfl) ?_
        obtain ⟨rfl, rfl⟩ := am_inj2 H
        exact am_G.nd ⟨rfl, rfl⟩
    · rw [if_neg c5] at H
      refine am_G.br (tgt := 11) rfl rfl (if_neg c5) rfl ?_
      refine am_G.fr 1 (g := (12, [some (.ref a0), some (.int a1), none, none, none], [.int ((1 : Int32))])) rfl ?_
      obtain ⟨rfl, rfl⟩ := am_inj2 H
      exact am_G.nd ⟨rfl, rfl⟩
def fX9_waysFrom (n : Nat) (a0 : Nat) (a1 : Int32) (h : am_H) : Option (Int32 × am_H) := gX9_waysFrom n 0 a0 a1 h
theorem lX9_waysFrom {sc : Nat × (Nat → Int32)} {n : Nat} {a0 : Nat} {a1 : Int32} {h : am_H} {r : Int32} {h1 : am_H} (H : fX9_waysFrom n a0 a1 h = some (r, h1)) : am_Cl am_T am_N sc (0 + n) 103 [.ref a0, .int a1] h (some (.int r)) h1 := (lgX9_waysFrom n a0 a1 h r h1) H
def fX9_laying_L2 : Nat → Nat → Int32 → am_H → Option (am_H)
  | 0, _, _, _ => none
  | n + 1, v0, v1, h =>
    (am_gR h v0 8 9).bind fun told1 =>
    (am_gI h told1 7 11).bind fun houses3 =>
    if houses3 ≤ v1 then
      some h
    else
      (am_gR h v0 8 6).bind fun row6 =>
      (am_gR h v0 8 1).bind fun now8 =>
      (am_gR h now8 5 0).bind fun beds10 =>
      (am_aI h 0 beds10 v1).bind fun x12 =>
      (am_sI h 0 row6 v1 x12).bind fun hh14 =>
      (am_gR hh14 v0 8 7).bind fun laid16 =>
      (am_sI hh14 0 laid16 v1 ((0 : Int32))).bind fun hh18 =>
      fX9_laying_L2 n v0 (v1 + (1 : Int32)) hh18
def fX9_laying (a0 : Nat) (h : am_H) : Option (Int32 × am_H) :=
  (am_isO h a0 8).bind fun _ =>
  Option.bind (fX9_laying_L2 4000 a0 ((0 : Int32)) h) fun hh20 =>
  am_b2 (fX9_waysFrom 60 a0 ((0 : Int32)) hh20) fun x23 hh24 =>
  some (x23, hh24)
set_option maxHeartbeats 4000000 in
set_option maxRecDepth 100000 in
theorem lX9_laying_L2 {sc : Nat × (Nat → Int32)} : ∀ (n : Nat) (v0 : Nat) (v1 : Int32) (h : am_H) (h1 : am_H), fX9_laying_L2 n v0 v1 h = some h1 → am_G sc (am_Cl am_T am_N sc 61) (am_at kX9_laying) (fun t => t = ((41, [some (.ref v0), none], []), h1)) ((2, [some (.ref v0), some (.int v1)], []), h) := by
  intro n
  induction n with
  | zero => intro _ _ _ _ H; cases H
  | succ n ih =>
    intro v0 v1 h h1 H
    rw [fX9_laying_L2] at H
    refine am_G.fr 2 (g := (4, [some (.ref v0), some (.int v1)], [.ref v0, .int v1])) rfl ?_
    obtain ⟨told1, e2, H⟩ := am_bd H
    refine am_G.gR rfl e2 ?_
    obtain ⟨houses3, e4, H⟩ := am_bd H
    refine am_G.gI rfl e4 ?_
    by_cases c5 : houses3 ≤ v1
    · rw [if_pos c5] at H
      refine am_G.br (tgt := 41) rfl rfl (if_pos c5) rfl ?_
      obtain rfl := Option.some.inj H
      refine am_G.fg [some (.ref v0), none] (by simp only [am_sub, and_self]) ?_
      exact am_G.nd rfl
    · rw [if_neg c5] at H
      refine am_G.br (tgt := 13) rfl rfl (if_neg c5) rfl ?_
      refine am_G.fr 1 (g := (14, [some (.ref v0), some (.int v1)], [.ref v0])) rfl ?_
      obtain ⟨row6, e7, H⟩ := am_bd H
      refine am_G.gR rfl e7 ?_
      refine am_G.fr 2 (g := (19, [some (.ref v0), some (.int v1)], [.ref v0, .int v1, .ref row6])) rfl ?_
      obtain ⟨now8, e9, H⟩ := am_bd H
      refine am_G.gR rfl e9 ?_
      obtain ⟨beds10, e11, H⟩ := am_bd H
      refine am_G.gR rfl e11 ?_
      refine am_G.fr 1 (g := (26, [some (.ref v0), some (.int v1)], [.int v1, .ref beds10, .int v1, .ref row6])) rfl ?_
      obtain ⟨x12, e13, H⟩ := am_bd H
      refine am_G.aI rfl e13 ?_
      obtain ⟨hh14, e15, H⟩ := am_bd H
      refine am_G.sI rfl e15 ?_
      refine am_G.fr 1 (g := (29, [some (.ref v0), some (.int v1)], [.ref v0])) rfl ?_
      obtain ⟨laid16, e17, H⟩ := am_bd H
      refine am_G.gR rfl e17 ?_
      refine am_G.fr 2 (g := (34, [some (.ref v0), some (.int v1)], [.int ((0 : Int32)), .int v1, .ref laid16])) rfl ?_
      obtain ⟨hh18, e19, H⟩ := am_bd H
      refine am_G.sI rfl e19 ?_
      refine am_G.fr 2 (g := (2, [some (.ref v0), some (.int (v1 + (1 : Int32)))], [])) rfl ?_
      exact ih _ _ _ _ H
set_option maxHeartbeats 4000000 in
set_option maxRecDepth 100000 in
theorem lX9_laying {sc : Nat × (Nat → Int32)} {a0 : Nat} {h : am_H} {r : Int32} {h1 : am_H} (H : fX9_laying a0 h = some (r, h1)) : am_Cl am_T am_N sc 62 102 [.ref a0] h (some (.int r)) h1 := by
  unfold fX9_laying at H
  obtain ⟨_, hO, H⟩ := am_bd H
  obtain ⟨fs0, hO⟩ := am_isO_ok hO
  refine am_mk (q := qX9_laying) rfl (fun _ => ⟨_, _, _, _, _, rfl, hO, rfl, rfl⟩) (fun z => absurd z (by decide)) (Nat.le_of_ble_eq_true rfl) rfl ?_
  show am_G sc (am_Cl am_T am_N sc 61) (am_at kX9_laying) (fun t => t.2 = h1 ∧ am_ret 1 (am_at kX9_laying) t.1 = some (some (.int r))) ((0, [some (.ref a0), none], []), h)
  refine am_G.fr 2 (g := (2, [some (.ref a0), some (.int ((0 : Int32)))], [])) rfl ?_
  obtain ⟨hh20, E21, H⟩ := am_bd H
  refine am_G.sq (lX9_laying_L2 _ _ _ _ _ E21) ?_
  clear E21
  refine am_G.fr 2 (g := (43, [some (.ref a0), none], [.int ((0 : Int32)), .ref a0])) rfl ?_
  obtain ⟨x23, hh24, e22, H⟩ := am_bd2 H
  refine am_G.cl [.ref a0, .int ((0 : Int32))] [] (am_Cl.mono (by decide) (lX9_waysFrom e22)) rfl rfl rfl rfl (Nat.le_of_ble_eq_true rfl) ?_
  obtain ⟨rfl, rfl⟩ := am_inj2 H
  exact am_G.nd ⟨rfl, rfl⟩
def am_RcX10_products (sc : Nat × (Nat → Int32)) (d : Nat) (rc : Nat → Nat → Int32 → am_H → Option (am_H)) : Prop := ∀ (a0 : Nat) (a1 : Int32) (h : am_H) (h1 : am_H), (rc 0 a0 a1 h = some h1 → am_Cl am_T am_N sc d 170 [.ref a0, .int a1] h none h1) ∧ (rc 1 a0 a1 h = some h1 → am_Cl am_T am_N sc d 169 [.ref a0, .int a1] h none h1) ∧ (rc 2 a0 a1 h = some h1 → am_Cl am_T am_N sc d 171 [.ref a0, .int a1] h none h1) ∧ (rc 3 a0 a1 h = some h1 → am_Cl am_T am_N sc d 168 [.ref a0, .int a1] h none h1) ∧ (rc 4 a0 a1 h = some h1 → am_Cl am_T am_N sc d 167 [.ref a0, .int a1] h none h1)
def fX10_products_L5 (rc : Nat → Nat → Int32 → am_H → Option (am_H)) : Nat → Nat → Int32 → am_H → Option (am_H)
  | 0, _, _, _ => none
  | n + 1, v0, v1, h =>
    am_b2 (fX10_hasSign v0 ((42 : Int32)) h) fun x4 hh5 =>
    if x4 = 0 then
      some hh5
    else
      (rc 2 v0 v1 hh5).bind fun hh8 =>
      (fX10_emit v0 ((6 : Int32)) ((0 : Int32)) hh8).bind fun hh10 =>
      fX10_products_L5 rc n v0 v1 hh10
def fX10_sums_L5 (rc : Nat → Nat → Int32 → am_H → Option (am_H)) : Nat → Nat → Int32 → am_H → Option (am_H)
  | 0, _, _, _ => none
  | n + 1, v0, v1, h =>
    (fX10_isSign v0 ((43 : Int32)) h).bind fun x4 =>
    if ¬ x4 = 0 then
      (fX10_isSign v0 ((43 : Int32)) h).bind fun x7 =>
      (am_gI h v0 9 7).bind fun at8 =>
      (am_pF h v0 9 7 (.int (at8 + ((1 : Int32))))).bind fun hh10 =>
      (rc 0 v0 v1 hh10).bind fun hh13 =>
      Option.bind (
        if x7 = 0 then
          some ((5 : Int32))
        else
          some ((4 : Int32))) fun js14 =>
      (fX10_emit v0 js14 ((0 : Int32)) hh13).bind fun hh17 =>
      fX10_sums_L5 rc n v0 v1 hh17
    else
      (fX10_isSign v0 ((45 : Int32)) h).bind fun x20 =>
      if x20 = 0 then
        some h
      else
        (fX10_isSign v0 ((43 : Int32)) h).bind fun x23 =>
        (am_gI h v0 9 7).bind fun at24 =>
        (am_pF h v0 9 7 (.int (at24 + ((1 : Int32))))).bind fun hh26 =>
        (rc 0 v0 v1 hh26).bind fun hh29 =>
        Option.bind (
          if x23 = 0 then
            some ((5 : Int32))
          else
            some ((4 : Int32))) fun js30 =>
        (fX10_emit v0 js30 ((0 : Int32)) hh29).bind fun hh33 =>
        fX10_sums_L5 rc n v0 v1 hh33
def fX10_whole_L5 (rc : Nat → Nat → Int32 → am_H → Option (am_H)) : Nat → Nat → Int32 → am_H → Option (am_H)
  | 0, _, _, _ => none
  | n + 1, v0, v1, h =>
    (fX10_isWord v0 ((19 : Int32)) h).bind fun x4 =>
    if ¬ x4 = 0 then
      (fX10_isWord v0 ((19 : Int32)) h).bind fun x7 =>
      (am_gI h v0 9 7).bind fun at8 =>
      (am_pF h v0 9 7 (.int (at8 + ((1 : Int32))))).bind fun hh10 =>
      (rc 3 v0 v1 hh10).bind fun hh13 =>
      Option.bind (
        if x7 = 0 then
          some ((10 : Int32))
        else
          some ((9 : Int32))) fun js14 =>
      (fX10_emit v0 js14 ((0 : Int32)) hh13).bind fun hh17 =>
      fX10_whole_L5 rc n v0 v1 hh17
    else
      (fX10_isWord v0 ((20 : Int32)) h).bind fun x20 =>
      if x20 = 0 then
        some h
      else
        (fX10_isWord v0 ((19 : Int32)) h).bind fun x23 =>
        (am_gI h v0 9 7).bind fun at24 =>
        (am_pF h v0 9 7 (.int (at24 + ((1 : Int32))))).bind fun hh26 =>
        (rc 3 v0 v1 hh26).bind fun hh29 =>
        Option.bind (
          if x23 = 0 then
            some ((10 : Int32))
          else
            some ((9 : Int32))) fun js30 =>
        (fX10_emit v0 js30 ((0 : Int32)) hh29).bind fun hh33 =>
        fX10_whole_L5 rc n v0 v1 hh33
def gX10_products : Nat → Nat → Nat → Int32 → am_H → Option (am_H)
  | 0, _, _, _, _ => none
  | n + 1, tag, a0, a1, h =>
    if tag = 0 then
      (am_isO h a0 9).bind fun _ =>
      (gX10_products n 2 a0 a1 h).bind fun hh2 =>
      Option.bind (fX10_products_L5 (gX10_products n) 4000 a0 a1 hh2) fun hh11 =>
      some hh11
    else if tag = 1 then
      (am_isO h a0 9).bind fun _ =>
      (gX10_products n 0 a0 a1 h).bind fun hh2 =>
      Option.bind (fX10_sums_L5 (gX10_products n) 4000 a0 a1 hh2) fun hh35 =>
      some hh35
    else if tag = 2 then
      (am_isO h a0 9).bind fun _ =>
      (am_gI h a0 9 8).bind fun fault1 =>
      if fault1 ≤ 0 then
        (am_gR h a0 9 4).bind fun sort4 =>
        (am_gI h a0 9 7).bind fun at6 =>
        (am_aI h 0 sort4 at6).bind fun x8 =>
        Option.bind (
          if ¬ x8 = ((2 : Int32)) then
            some ((0 : Int32))
          else
            some ((1 : Int32))) fun js10 =>
        (fX10_wordHere a0 ((21 : Int32)) ((4 : Int32)) h).bind fun x13 =>
        Option.bind (
          if 0 ≤ x13 then
            if ¬ a1 = ((5 : Int32)) then
              some h
            else
              (fX10_wrong a0 ((5 : Int32)) h).bind fun hh18 =>
              some hh18
          else
            if ¬ js10 = 0 then
              if ¬ a1 = ((5 : Int32)) then
                some h
              else
                (fX10_wrong a0 ((5 : Int32)) h).bind fun hh22 =>
                some hh22
            else
              (fX10_isSign a0 ((40 : Int32)) h).bind fun x24 =>
              if ¬ x24 = 0 then
                if ¬ a1 = ((5 : Int32)) then
                  some h
                else
                  (fX10_wrong a0 ((5 : Int32)) h).bind fun hh28 =>
                  some hh28
              else
                (fX10_isWord a0 ((18 : Int32)) h).bind fun x30 =>
                if ¬ x30 = 0 then
                  if ¬ a1 = ((5 : Int32)) then
                    some h
                  else
                    (fX10_wrong a0 ((5 : Int32)) h).bind fun hh34 =>
                    some hh34
                else
                  (fX10_wrong a0 ((1 : Int32)) h).bind fun hh36 =>
                  some hh36) fun hh14 =>
        (am_gI hh14 a0 9 8).bind fun fault37 =>
        if fault37 ≤ 0 then
          am_b2 (fX10_hasWord a0 ((18 : Int32)) hh14) fun x41 hh42 =>
          Option.bind (
            if x41 = 0 then
              am_b2 (fX10_hasSign a0 ((40 : Int32)) hh42) fun x46 hh47 =>
              if x46 = 0 then
                Option.bind (
                  if js10 = 0 then
                    some ((2 : Int32))
                  else
                    some ((1 : Int32))) fun js49 =>
                Option.bind (
                  if js10 = 0 then
                    some x13
                  else
                    (am_gR hh47 a0 9 6).bind fun value53 =>
                    (am_gI hh47 a0 9 7).bind fun at55 =>
                    (am_aL hh47 value53 at55).bind fun x57 =>
                    some x57.toInt32) fun js51 =>
                (fX10_emit a0 js49 js51 hh47).bind fun hh60 =>
                (am_gI hh60 a0 9 7).bind fun at61 =>
                (am_pF hh60 a0 9 7 (.int (at61 + ((1 : Int32))))).bind fun hh63 =>
                some hh63
              else
                (gX10_products n 4 a0 (a1 + ((1 : Int32))) hh47).bind fun hh68 =>
                (fX10_takeSign a0 ((41 : Int32)) hh68).bind fun hh70 =>
                some hh70
            else
              (gX10_products n 2 a0 (a1 + ((1 : Int32))) hh42).bind fun hh72 =>
              (fX10_emit a0 ((3 : Int32)) ((0 : Int32)) hh72).bind fun hh74 =>
              some hh74) fun hh43 =>
          some hh43
        else
          some hh14
      else
        some h
    else if tag = 3 then
      (am_isO h a0 9).bind fun _ =>
      (gX10_products n 1 a0 a1 h).bind fun hh2 =>
      (fX10_isSign a0 ((60 : Int32)) hh2).bind fun x4 =>
      am_b2 (fX10_hasSign a0 ((60 : Int32)) hh2) fun x6 hh7 =>
      Option.bind (
        if ¬ x6 = 0 then
          (gX10_products n 1 a0 a1 hh7).bind fun hh11 =>
          Option.bind (
            if x4 = 0 then
              some ((8 : Int32))
            else
              some ((7 : Int32))) fun js12 =>
          (fX10_emit a0 js12 ((0 : Int32)) hh11).bind fun hh15 =>
          some hh15
        else
          am_b2 (fX10_hasSign a0 ((61 : Int32)) hh7) fun x18 hh19 =>
          if x18 = 0 then
            some hh19
          else
            (gX10_products n 1 a0 a1 hh19).bind fun hh22 =>
            Option.bind (
              if x4 = 0 then
                some ((8 : Int32))
              else
                some ((7 : Int32))) fun js23 =>
            (fX10_emit a0 js23 ((0 : Int32)) hh22).bind fun hh26 =>
            some hh26) fun hh8 =>
      some hh8
    else if tag = 4 then
      (am_isO h a0 9).bind fun _ =>
      (gX10_products n 3 a0 a1 h).bind fun hh2 =>
      Option.bind (fX10_whole_L5 (gX10_products n) 4000 a0 a1 hh2) fun hh35 =>
      some hh35
    else none
set_option maxHeartbeats 4000000 in
set_option maxRecDepth 100000 in
theorem lX10_products_L5 {sc : Nat × (Nat → Int32)} {d : Nat} {rc : Nat → Nat → Int32 → am_H → Option (am_H)} (hdb : 2 ≤ d) (hrc : am_RcX10_products sc d rc) : ∀ (n : Nat) (v0 : Nat) (v1 : Int32) (h : am_H) (h1 : am_H), fX10_products_L5 rc n v0 v1 h = some h1 → am_G sc (am_Cl am_T am_N sc d) (am_at kX10_products) (fun t => t = ((29, [none, none], []), h1)) ((5, [some (.ref v0), some (.int v1)], []), h) := by
  intro n
  induction n with
  | zero => intro _ _ _ _ H; cases H
  | succ n ih =>
    intro v0 v1 h h1 H
    rw [fX10_products_L5] at H
    refine am_G.fr 2 (g := (8, [some (.ref v0), some (.int v1)], [.int ((42 : Int32)), .ref v0])) rfl ?_
    obtain ⟨x4, hh5, e3, H⟩ := am_bd2 H
    refine am_G.cl [.ref v0, .int ((42 : Int32))] [] (am_Cl.mono (Nat.le_trans (show 2 ≤ 2 by decide) hdb) (lX10_hasSign e3)) rfl rfl rfl rfl (Nat.le_of_ble_eq_true rfl) ?_
    by_cases c6 : x4 = 0
    · rw [if_pos c6] at H
      refine am_G.br (tgt := 29) rfl rfl (if_pos c6) rfl ?_
      obtain rfl := Option.some.inj H
      refine am_G.fg [none, none] (by simp only [am_sub, and_self]) ?_
      exact am_G.nd rfl
    · rw [if_neg c6] at H
      refine am_G.br (tgt := 14) rfl rfl (if_neg c6) rfl ?_
      refine am_G.fr 2 (g := (16, [some (.ref v0), some (.int v1)], [.int v1, .ref v0])) rfl ?_
      obtain ⟨hh8, e7, H⟩ := am_bd H
      refine am_G.cl [.ref v0, .int v1] [] ((hrc _ _ _ _).2.2.1 e7) rfl rfl rfl rfl (Nat.le_of_ble_eq_true rfl) ?_
      refine am_G.fr 3 (g := (23, [some (.ref v0), some (.int v1)], [.int ((0 : Int32)), .int ((6 : Int32)), .ref v0])) rfl ?_
      obtain ⟨hh10, e9, H⟩ := am_bd H
      refine am_G.cl [.ref v0, .int ((6 : Int32)), .int ((0 : Int32))] [] (am_Cl.mono (Nat.le_trans (show 1 ≤ 2 by decide) hdb) (lX10_emit e9)) rfl rfl rfl rfl (Nat.le_of_ble_eq_true rfl) ?_
      refine am_G.fr 1 (g := (5, [some (.ref v0), some (.int v1)], [])) rfl ?_
      exact ih _ _ _ _ H
set_option maxHeartbeats 4000000 in
set_option maxRecDepth 100000 in
theorem lX10_sums_L5 {sc : Nat × (Nat → Int32)} {d : Nat} {rc : Nat → Nat → Int32 → am_H → Option (am_H)} (hdb : 2 ≤ d) (hrc : am_RcX10_products sc d rc) : ∀ (n : Nat) (v0 : Nat) (v1 : Int32) (h : am_H) (h1 : am_H), fX10_sums_L5 rc n v0 v1 h = some h1 → am_G sc (am_Cl am_T am_N sc d) (am_at kX10_sums) (fun t => t = ((62, [none, none, none], []), h1)) ((5, [some (.ref v0), some (.int v1), none], []), h) := by
  intro n
  induction n with
  | zero => intro _ _ _ _ H; cases H
  | succ n ih =>
    intro v0 v1 h h1 H
    rw [fX10_sums_L5] at H
    refine am_G.fr 2 (g := (8, [some (.ref v0), some (.int v1), none], [.int ((43 : Int32)), .ref v0])) rfl ?_
    obtain ⟨x4, e3, H⟩ := am_bd H
    refine am_G.cl [.ref v0, .int ((43 : Int32))] [] (am_Cl.mono (Nat.le_trans (show 1 ≤ 2 by decide) hdb) (lX10_isSign e3)) rfl rfl rfl rfl (Nat.le_of_ble_eq_true rfl) ?_
    by_cases c5 : ¬ x4 = 0
    · rw [if_pos c5] at H
      refine am_G.br (tgt := 23) rfl rfl (if_pos c5) rfl ?_
      refine am_G.fr 2 (g := (26, [some (.ref v0), some (.int v1), none], [.int ((43 : Int32)), .ref v0])) rfl ?_
      obtain ⟨x7, e6, H⟩ := am_bd H
      refine am_G.cl [.ref v0, .int ((43 : Int32))] [] (am_Cl.mono (Nat.le_trans (show 1 ≤ 2 by decide) hdb) (lX10_isSign e6)) rfl rfl rfl rfl (Nat.le_of_ble_eq_true rfl) ?_
      refine am_G.fr 3 (g := (32, [some (.ref v0), some (.int v1), some (.int x7)], [.ref v0, .ref v0])) rfl ?_
      obtain ⟨at8, e9, H⟩ := am_bd H
      refine am_G.gI rfl e9 ?_
      refine am_G.fr 2 (g := (37, [some (.ref v0), some (.int v1), some (.int x7)], [.int (at8 + ((1 : Int32))), .ref v0])) rfl ?_
      obtain ⟨hh10, e11, H⟩ := am_bd H
      refine am_G.pF rfl e11 ?_
      refine am_G.fr 2 (g := (42, [some (.ref v0), some (.int v1), some (.int x7)], [.int v1, .ref v0])) rfl ?_
      obtain ⟨hh13, e12, H⟩ := am_bd H
      refine am_G.cl [.ref v0, .int v1] [] ((hrc _ _ _ _).1 e12) rfl rfl rfl rfl (Nat.le_of_ble_eq_true rfl) ?_
      refine am_G.fr 2 (g := (47, [some (.ref v0), some (.int v1), some (.int x7)], [.int x7, .ref v0])) rfl ?_
      obtain ⟨js14, E18, H⟩ := am_bd H
      refine am_G.sq (t := ((55, [some (.ref v0), some (.int v1), none], [.int js14, .ref v0]), hh13)) ?_ ?_
      · clear H
        have H := E18
        clear E18
        by_cases c15 : x7 = 0
        · rw [if_pos c15] at H
          refine am_G.br (tgt := 54) rfl rfl (if_pos c15) rfl ?_
          refine am_G.fr 1 (g := (55, [some (.ref v0), some (.int v1), some (.int x7)], [.int ((5 : Int32)), .ref v0])) rfl ?_
          obtain rfl := Option.some.inj H
          refine am_G.fg [some (.ref v0), some (.int v1), none] (by simp only [am_sub, and_self]) ?_
          exact am_G.nd rfl
        · rw [if_neg c15] at H
          refine am_G.br (tgt := 50) rfl rfl (if_neg c15) rfl ?_
          refine am_G.fr 2 (g := (55, [some (.ref v0), some (.int v1), some (.int x7)], [.int ((4 : Int32)), .ref v0])) rfl ?_
          obtain rfl := Option.some.inj H
          refine am_G.fg [some (.ref v0), some (.int v1), none] (by simp only [am_sub, and_self]) ?_
          exact am_G.nd rfl
      · clear E18
        refine am_G.fr 1 (g := (56, [some (.ref v0), some (.int v1), none], [.int ((0 : Int32)), .int js14, .ref v0])) rfl ?_
        obtain ⟨hh17, e16, H⟩ := am_bd H
        refine am_G.cl [.ref v0, .int js14, .int ((0 : Int32))] [] (am_Cl.mono (Nat.le_trans (show 1 ≤ 2 by decide) hdb) (lX10_emit e16)) rfl rfl rfl rfl (Nat.le_of_ble_eq_true rfl) ?_
        refine am_G.fr 1 (g := (5, [some (.ref v0), some (.int v1), none], [])) rfl ?_
        exact ih _ _ _ _ H
    · rw [if_neg c5] at H
      refine am_G.br (tgt := 14) rfl rfl (if_neg c5) rfl ?_
      refine am_G.fr 2 (g := (17, [some (.ref v0), some (.int v1), none], [.int ((45 : Int32)), .ref v0])) rfl ?_
      obtain ⟨x20, e19, H⟩ := am_bd H
      refine am_G.cl [.ref v0, .int ((45 : Int32))] [] (am_Cl.mono (Nat.le_trans (show 1 ≤ 2 by decide) hdb) (lX10_isSign e19)) rfl rfl rfl rfl (Nat.le_of_ble_eq_true rfl) ?_
      by_cases c21 : x20 = 0
      · rw [if_pos c21] at H
        refine am_G.br (tgt := 62) rfl rfl (if_pos c21) rfl ?_
        obtain rfl := Option.some.inj H
        refine am_G.fg [none, none, none] (by simp only [am_sub, and_self]) ?_
        exact am_G.nd rfl
      · rw [if_neg c21] at H
        refine am_G.br (tgt := 23) rfl rfl (if_neg c21) rfl ?_
        refine am_G.fr 2 (g := (26, [some (.ref v0), some (.int v1), none], [.int ((43 : Int32)), .ref v0])) rfl ?_
        obtain ⟨x23, e22, H⟩ := am_bd H
        refine am_G.cl [.ref v0, .int ((43 : Int32))] [] (am_Cl.mono (Nat.le_trans (show 1 ≤ 2 by decide) hdb) (lX10_isSign e22)) rfl rfl rfl rfl (Nat.le_of_ble_eq_true rfl) ?_
        refine am_G.fr 3 (g := (32, [some (.ref v0), some (.int v1), some (.int x23)], [.ref v0, .ref v0])) rfl ?_
        obtain ⟨at24, e25, H⟩ := am_bd H
        refine am_G.gI rfl e25 ?_
        refine am_G.fr 2 (g := (37, [some (.ref v0), some (.int v1), some (.int x23)], [.int (at24 + ((1 : Int32))), .ref v0])) rfl ?_
        obtain ⟨hh26, e27, H⟩ := am_bd H
        refine am_G.pF rfl e27 ?_
        refine am_G.fr 2 (g := (42, [some (.ref v0), some (.int v1), some (.int x23)], [.int v1, .ref v0])) rfl ?_
        obtain ⟨hh29, e28, H⟩ := am_bd H
        refine am_G.cl [.ref v0, .int v1] [] ((hrc _ _ _ _).1 e28) rfl rfl rfl rfl (Nat.le_of_ble_eq_true rfl) ?_
        refine am_G.fr 2 (g := (47, [some (.ref v0), some (.int v1), some (.int x23)], [.int x23, .ref v0])) rfl ?_
        obtain ⟨js30, E34, H⟩ := am_bd H
        refine am_G.sq (t := ((55, [some (.ref v0), some (.int v1), none], [.int js30, .ref v0]), hh29)) ?_ ?_
        · clear H
          have H := E34
          clear E34
          by_cases c31 : x23 = 0
          · rw [if_pos c31] at H
            refine am_G.br (tgt := 54) rfl rfl (if_pos c31) rfl ?_
            refine am_G.fr 1 (g := (55, [some (.ref v0), some (.int v1), some (.int x23)], [.int ((5 : Int32)), .ref v0])) rfl ?_
            obtain rfl := Option.some.inj H
            refine am_G.fg [some (.ref v0), some (.int v1), none] (by simp only [am_sub, and_self]) ?_
            exact am_G.nd rfl
          · rw [if_neg c31] at H
            refine am_G.br (tgt := 50) rfl rfl (if_neg c31) rfl ?_
            refine am_G.fr 2 (g := (55, [some (.ref v0), some (.int v1), some (.int x23)], [.int ((4 : Int32)), .ref v0])) rfl ?_
            obtain rfl := Option.some.inj H
            refine am_G.fg [some (.ref v0), some (.int v1), none] (by simp only [am_sub, and_self]) ?_
            exact am_G.nd rfl
        · clear E34
          refine am_G.fr 1 (g := (56, [some (.ref v0), some (.int v1), none], [.int ((0 : Int32)), .int js30, .ref v0])) rfl ?_
          obtain ⟨hh33, e32, H⟩ := am_bd H
          refine am_G.cl [.ref v0, .int js30, .int ((0 : Int32))] [] (am_Cl.mono (Nat.le_trans (show 1 ≤ 2 by decide) hdb) (lX10_emit e32)) rfl rfl rfl rfl (Nat.le_of_ble_eq_true rfl) ?_
          refine am_G.fr 1 (g := (5, [some (.ref v0), some (.int v1), none], [])) rfl ?_
          exact ih _ _ _ _ H
set_option maxHeartbeats 4000000 in
set_option maxRecDepth 100000 in
theorem lX10_whole_L5 {sc : Nat × (Nat → Int32)} {d : Nat} {rc : Nat → Nat → Int32 → am_H → Option (am_H)} (hdb : 2 ≤ d) (hrc : am_RcX10_products sc d rc) : ∀ (n : Nat) (v0 : Nat) (v1 : Int32) (h : am_H) (h1 : am_H), fX10_whole_L5 rc n v0 v1 h = some h1 → am_G sc (am_Cl am_T am_N sc d) (am_at kX10_whole) (fun t => t = ((64, [none, none, none], []), h1)) ((5, [some (.ref v0), some (.int v1), none], []), h) := by
  intro n
  induction n with
  | zero => intro _ _ _ _ H; cases H
  | succ n ih =>
    intro v0 v1 h h1 H
    rw [fX10_whole_L5] at H
    refine am_G.fr 2 (g := (8, [some (.ref v0), some (.int v1), none], [.int ((19 : Int32)), .ref v0])) rfl ?_
    obtain ⟨x4, e3, H⟩ := am_bd H
    refine am_G.cl [.ref v0, .int ((19 : Int32))] [] (am_Cl.mono (Nat.le_trans (show 1 ≤ 2 by decide) hdb) (lX10_isWord e3)) rfl rfl rfl rfl (Nat.le_of_ble_eq_true rfl) ?_
    by_cases c5 : ¬ x4 = 0
    · rw [if_pos c5] at H
      refine am_G.br (tgt := 23) rfl rfl (if_pos c5) rfl ?_
      refine am_G.fr 2 (g := (26, [some (.ref v0), some (.int v1), none], [.int ((19 : Int32)), .ref v0])) rfl ?_
      obtain ⟨x7, e6, H⟩ := am_bd H
      refine am_G.cl [.ref v0, .int ((19 : Int32))] [] (am_Cl.mono (Nat.le_trans (show 1 ≤ 2 by decide) hdb) (lX10_isWord e6)) rfl rfl rfl rfl (Nat.le_of_ble_eq_true rfl) ?_
      refine am_G.fr 3 (g := (32, [some (.ref v0), some (.int v1), some (.int x7)], [.ref v0, .ref v0])) rfl ?_
      obtain ⟨at8, e9, H⟩ := am_bd H
      refine am_G.gI rfl e9 ?_
      refine am_G.fr 2 (g := (37, [some (.ref v0), some (.int v1), some (.int x7)], [.int (at8 + ((1 : Int32))), .ref v0])) rfl ?_
      obtain ⟨hh10, e11, H⟩ := am_bd H
      refine am_G.pF rfl e11 ?_
      refine am_G.fr 2 (g := (42, [some (.ref v0), some (.int v1), some (.int x7)], [.int v1, .ref v0])) rfl ?_
      obtain ⟨hh13, e12, H⟩ := am_bd H
      refine am_G.cl [.ref v0, .int v1] [] ((hrc _ _ _ _).2.2.2.1 e12) rfl rfl rfl rfl (Nat.le_of_ble_eq_true rfl) ?_
      refine am_G.fr 2 (g := (47, [some (.ref v0), some (.int v1), some (.int x7)], [.int x7, .ref v0])) rfl ?_
      obtain ⟨js14, E18, H⟩ := am_bd H
      refine am_G.sq (t := ((57, [some (.ref v0), some (.int v1), none], [.int js14, .ref v0]), hh13)) ?_ ?_
      · clear H
        have H := E18
        clear E18
        by_cases c15 : x7 = 0
        · rw [if_pos c15] at H
          refine am_G.br (tgt := 55) rfl rfl (if_pos c15) rfl ?_
          refine am_G.fr 1 (g := (57, [some (.ref v0), some (.int v1), some (.int x7)], [.int ((10 : Int32)), .ref v0])) rfl ?_
          obtain rfl := Option.some.inj H
          refine am_G.fg [some (.ref v0), some (.int v1), none] (by simp only [am_sub, and_self]) ?_
          exact am_G.nd rfl
        · rw [if_neg c15] at H
          refine am_G.br (tgt := 50) rfl rfl (if_neg c15) rfl ?_
          refine am_G.fr 2 (g := (57, [some (.ref v0), some (.int v1), some (.int x7)], [.int ((9 : Int32)), .ref v0])) rfl ?_
          obtain rfl := Option.some.inj H
          refine am_G.fg [some (.ref v0), some (.int v1), none] (by simp only [am_sub, and_self]) ?_
          exact am_G.nd rfl
      · clear E18
        refine am_G.fr 1 (g := (58, [some (.ref v0), some (.int v1), none], [.int ((0 : Int32)), .int js14, .ref v0])) rfl ?_
        obtain ⟨hh17, e16, H⟩ := am_bd H
        refine am_G.cl [.ref v0, .int js14, .int ((0 : Int32))] [] (am_Cl.mono (Nat.le_trans (show 1 ≤ 2 by decide) hdb) (lX10_emit e16)) rfl rfl rfl rfl (Nat.le_of_ble_eq_true rfl) ?_
        refine am_G.fr 1 (g := (5, [some (.ref v0), some (.int v1), none], [])) rfl ?_
        exact ih _ _ _ _ H
    · rw [if_neg c5] at H
      refine am_G.br (tgt := 14) rfl rfl (if_neg c5) rfl ?_
      refine am_G.fr 2 (g := (17, [some (.ref v0), some (.int v1), none], [.int ((20 : Int32)), .ref v0])) rfl ?_
      obtain ⟨x20, e19, H⟩ := am_bd H
      refine am_G.cl [.ref v0, .int ((20 : Int32))] [] (am_Cl.mono (Nat.le_trans (show 1 ≤ 2 by decide) hdb) (lX10_isWord e19)) rfl rfl rfl rfl (Nat.le_of_ble_eq_true rfl) ?_
      by_cases c21 : x20 = 0
      · rw [if_pos c21] at H
        refine am_G.br (tgt := 64) rfl rfl (if_pos c21) rfl ?_
        obtain rfl := Option.some.inj H
        refine am_G.fg [none, none, none] (by simp only [am_sub, and_self]) ?_
        exact am_G.nd rfl
      · rw [if_neg c21] at H
        refine am_G.br (tgt := 23) rfl rfl (if_neg c21) rfl ?_
        refine am_G.fr 2 (g := (26, [some (.ref v0), some (.int v1), none], [.int ((19 : Int32)), .ref v0])) rfl ?_
        obtain ⟨x23, e22, H⟩ := am_bd H
        refine am_G.cl [.ref v0, .int ((19 : Int32))] [] (am_Cl.mono (Nat.le_trans (show 1 ≤ 2 by decide) hdb) (lX10_isWord e22)) rfl rfl rfl rfl (Nat.le_of_ble_eq_true rfl) ?_
        refine am_G.fr 3 (g := (32, [some (.ref v0), some (.int v1), some (.int x23)], [.ref v0, .ref v0])) rfl ?_
        obtain ⟨at24, e25, H⟩ := am_bd H
        refine am_G.gI rfl e25 ?_
        refine am_G.fr 2 (g := (37, [some (.ref v0), some (.int v1), some (.int x23)], [.int (at24 + ((1 : Int32))), .ref v0])) rfl ?_
        obtain ⟨hh26, e27, H⟩ := am_bd H
        refine am_G.pF rfl e27 ?_
        refine am_G.fr 2 (g := (42, [some (.ref v0), some (.int v1), some (.int x23)], [.int v1, .ref v0])) rfl ?_
        obtain ⟨hh29, e28, H⟩ := am_bd H
        refine am_G.cl [.ref v0, .int v1] [] ((hrc _ _ _ _).2.2.2.1 e28) rfl rfl rfl rfl (Nat.le_of_ble_eq_true rfl) ?_
        refine am_G.fr 2 (g := (47, [some (.ref v0), some (.int v1), some (.int x23)], [.int x23, .ref v0])) rfl ?_
        obtain ⟨js30, E34, H⟩ := am_bd H
        refine am_G.sq (t := ((57, [some (.ref v0), some (.int v1), none], [.int js30, .ref v0]), hh29)) ?_ ?_
        · clear H
          have H := E34
          clear E34
          by_cases c31 : x23 = 0
          · rw [if_pos c31] at H
            refine am_G.br (tgt := 55) rfl rfl (if_pos c31) rfl ?_
            refine am_G.fr 1 (g := (57, [some (.ref v0), some (.int v1), some (.int x23)], [.int ((10 : Int32)), .ref v0])) rfl ?_
            obtain rfl := Option.some.inj H
            refine am_G.fg [some (.ref v0), some (.int v1), none] (by simp only [am_sub, and_self]) ?_
            exact am_G.nd rfl
          · rw [if_neg c31] at H
            refine am_G.br (tgt := 50) rfl rfl (if_neg c31) rfl ?_
            refine am_G.fr 2 (g := (57, [some (.ref v0), some (.int v1), some (.int x23)], [.int ((9 : Int32)), .ref v0])) rfl ?_
            obtain rfl := Option.some.inj H
            refine am_G.fg [some (.ref v0), some (.int v1), none] (by simp only [am_sub, and_self]) ?_
            exact am_G.nd rfl
        · clear E34
          refine am_G.fr 1 (g := (58, [some (.ref v0), some (.int v1), none], [.int ((0 : Int32)), .int js30, .ref v0])) rfl ?_
          obtain ⟨hh33, e32, H⟩ := am_bd H
          refine am_G.cl [.ref v0, .int js30, .int ((0 : Int32))] [] (am_Cl.mono (Nat.le_trans (show 1 ≤ 2 by decide) hdb) (lX10_emit e32)) rfl rfl rfl rfl (Nat.le_of_ble_eq_true rfl) ?_
          refine am_G.fr 1 (g := (5, [some (.ref v0), some (.int v1), none], [])) rfl ?_
          exact ih _ _ _ _ H
set_option maxHeartbeats 8000000 in
set_option maxRecDepth 100000 in
theorem lgX10_products {sc : Nat × (Nat → Int32)} : ∀ n, am_RcX10_products sc (2 + n) (gX10_products n) := by
  intro n
  induction n with
  | zero => intro _ _ _ _; exact ⟨(fun H => by cases H), (fun H => by cases H), (fun H => by cases H), (fun H => by cases H), (fun H => by cases H)⟩
  | succ n hrc =>
    have hdb : 2 ≤ 2 + n := Nat.le_add_right _ _
    intro a0 a1 h h1
    refine ⟨?_, ?_, ?_, ?_, ?_⟩
    · intro H
      rw [gX10_products] at H
      rw [if_pos rfl] at H
      obtain ⟨_, hO, H⟩ := am_bd H
      obtain ⟨fs0, hO⟩ := am_isO_ok hO
      refine am_mk (d := 2 + n) (q := qX10_products) rfl (fun _ => ⟨_, _, _, _, _, rfl, hO, rfl, rfl⟩) (fun z => absurd z (by decide)) (Nat.le_of_ble_eq_true rfl) rfl ?_
      show am_G sc (am_Cl am_T am_N sc (2 + n)) (am_at kX10_products) (fun t => t.2 = h1 ∧ am_ret 0 (am_at kX10_products) t.1 = some none) ((0, [some (.ref a0), some (.int a1)], []), h)
      refine am_G.fr 2 (g := (2, [some (.ref a0), some (.int a1)], [.int a1, .ref a0])) rfl ?_
      obtain ⟨hh2, e1, H⟩ := am_bd H
      refine am_G.cl [.ref a0, .int a1] [] ((hrc _ _ _ _).2.2.1 e1) rfl rfl rfl rfl (Nat.le_of_ble_eq_true rfl) ?_
      obtain ⟨hh11, E12, H⟩ := am_bd H
      refine am_G.sq (lX10_products_L5 hdb hrc _ _ _ _ _ E12) ?_
      clear E12
      obtain rfl := Option.some.inj H
      exact am_G.nd ⟨rfl, rfl⟩
    · intro H
      rw [gX10_products] at H
      rw [if_neg (by decide)] at H
      rw [if_pos rfl] at H
      obtain ⟨_, hO, H⟩ := am_bd H
      obtain ⟨fs0, hO⟩ := am_isO_ok hO
      refine am_mk (d := 2 + n) (q := qX10_sums) rfl (fun _ => ⟨_, _, _, _, _, rfl, hO, rfl, rfl⟩) (fun z => absurd z (by decide)) (Nat.le_of_ble_eq_true rfl) rfl ?_
      show am_G sc (am_Cl am_T am_N sc (2 + n)) (am_at kX10_sums) (fun t => t.2 = h1 ∧ am_ret 0 (am_at kX10_sums) t.1 = some none) ((0, [some (.ref a0), some (.int a1), none], []), h)
      refine am_G.fr 2 (g := (2, [some (.ref a0), some (.int a1), none], [.int a1, .ref a0])) rfl ?_
      obtain ⟨hh2, e1, H⟩ := am_bd H
      refine am_G.cl [.ref a0, .int a1] [] ((hrc _ _ _ _).1 e1) rfl rfl rfl rfl (Nat.le_of_ble_eq_true rfl) ?_
      obtain ⟨hh35, E36, H⟩ := am_bd H
      refine am_G.sq (lX10_sums_L5 hdb hrc _ _ _ _ _ E36) ?_
      clear E36
      obtain rfl := Option.some.inj H
      exact am_G.nd ⟨rfl, rfl⟩
    · intro H
      rw [gX10_products] at H
      rw [if_neg (by decide)] at H
      rw [if_neg (by decide)] at H
      rw [if_pos rfl] at H
      obtain ⟨_, hO, H⟩ := am_bd H
      obtain ⟨fs0, hO⟩ := am_isO_ok hO
      refine am_mk (d := 2 + n) (q := qX10_takePart) rfl (fun _ => ⟨_, _, _, _, _, rfl, hO, rfl, rfl⟩) (fun z => absurd z (by decide)) (Nat.le_of_ble_eq_true rfl) rfl ?_
      show am_G sc (am_Cl am_T am_N sc (2 + n)) (am_at kX10_takePart) (fun t => t.2 = h1 ∧ am_ret 0 (am_at kX10_takePart) t.1 = some none) ((0, [some (.ref a0), some (.int a1), none, none], []), h)
      refine am_G.fr 1 (g := (1, [some (.ref a0), some (.int a1), none, none], [.ref a0])) rfl ?_
      obtain ⟨fault1, e2, H⟩ := am_bd H
      refine am_G.gI rfl e2 ?_
      by_cases c3 : fault1 ≤ 0
      · rw [if_pos c3] at H
        refine am_G.br (tgt := 8) rfl rfl (if_pos c3) rfl ?_
        refine am_G.fr 1 (g := (9, [some (.ref a0), some (.int a1), none, none], [.ref a0])) rfl ?_
        obtain ⟨sort4, e5, H⟩ := am_bd H
        refine am_G.gR rfl e5 ?_
        refine am_G.fr 1 (g := (13, [some (.ref a0), some (.int a1), none, none], [.ref a0, .ref sort4])) rfl ?_
        obtain ⟨at6, e7, H⟩ := am_bd H
        refine am_G.gI rfl e7 ?_
        obtain ⟨x8, e9, H⟩ := am_bd H
        refine am_G.aI rfl e9 ?_
        refine am_G.fr 1 (g := (18, [some (.ref a0), some (.int a1), none, none], [.int ((2 : Int32)), .int x8])) rfl ?_
        obtain ⟨js10, E77, H⟩ := am_bd H
        refine am_G.sq (t := ((26, [some (.ref a0), some (.int a1), none, none], [.int js10]), h)) ?_ ?_
        · clear H
          have H := E77
          clear E77
          by_cases c11 : ¬ x8 = ((2 : Int32))
          · rw [if_pos c11] at H
            refine am_G.br (tgt := 25) rfl rfl (if_pos c11) rfl ?_
            refine am_G.fr 1 (g := (26, [some (.ref a0), some (.int a1), none, none], [.int ((0 : Int32))])) rfl ?_
            obtain rfl := Option.some.inj H
            exact am_G.nd rfl
          · rw [if_neg c11] at H
            refine am_G.br (tgt := 21) rfl rfl (if_neg c11) rfl ?_
            refine am_G.fr 2 (g := (26, [some (.ref a0), some (.int a1), none, none], [.int ((1 : Int32))])) rfl ?_
            obtain rfl := Option.some.inj H
            exact am_G.nd rfl
        · clear E77
          refine am_G.fr 4 (g := (31, [some (.ref a0), some (.int a1), some (.int js10), none], [.int ((4 : Int32)), .int ((21 : Int32)), .ref a0])) rfl ?_
          obtain ⟨x13, e12, H⟩ := am_bd H
          refine am_G.cl [.ref a0, .int ((21 : Int32)), .int ((4 : Int32))] [] (am_Cl.mono (Nat.le_trans (show 2 ≤ 2 by decide) hdb) (lX10_wordHere e12)) rfl rfl rfl rfl (Nat.le_of_ble_eq_true rfl) ?_
          refine am_G.fr 2 (g := (36, [some (.ref a0), some (.int a1), some (.int js10), some (.int x13)], [.int x13])) rfl ?_
          obtain ⟨hh14, E76, H⟩ := am_bd H
          refine am_G.sq (t := ((79, [some (.ref a0), some (.int a1), some (.int js10), some (.int x13)], []), hh14)) ?_ ?_
          · clear H
            have H := E76
            clear E76
            by_cases c15 : 0 ≤ x13
            · rw [if_pos c15] at H
              refine am_G.br (tgt := 69) rfl rfl (if_pos c15) rfl ?_
              refine am_G.fr 2 (g := (71, [some (.ref a0), some (.int a1), some (.int js10), some (.int x13)], [.int ((5 : Int32)), .int a1])) rfl ?_
              by_cases c16 : ¬ a1 = ((5 : Int32))
              · rw [if_pos c16] at H
                refine am_G.br (tgt := 79) rfl rfl (if_pos c16) rfl ?_
                obtain rfl := Option.some.inj H
                exact am_G.nd rfl
              · rw [if_neg c16] at H
                refine am_G.br (tgt := 74) rfl rfl (if_neg c16) rfl ?_
                refine am_G.fr 2 (g := (76, [some (.ref a0), some (.int a1), some (.int js10), some (.int x13)], [.int ((5 : Int32)), .ref a0])) rfl ?_
                obtain ⟨hh18, e17, H⟩ := am_bd H
                refine am_G.cl [.ref a0, .int ((5 : Int32))] [] (am_Cl.mono (Nat.le_trans (show 1 ≤ 2 by decide) hdb) (lX10_wrong e17)) rfl rfl rfl rfl (Nat.le_of_ble_eq_true rfl) ?_
                obtain rfl := Option.some.inj H
                exact am_G.nd rfl
            · rw [if_neg c15] at H
              refine am_G.br (tgt := 39) rfl rfl (if_neg c15) rfl ?_
              refine am_G.fr 1 (g := (40, [some (.ref a0), some (.int a1), some (.int js10), some (.int x13)], [.int js10])) rfl ?_
              by_cases c19 : ¬ js10 = 0
              · rw [if_pos c19] at H
                refine am_G.br (tgt := 69) rfl rfl (if_pos c19) rfl ?_
                refine am_G.fr 2 (g := (71, [some (.ref a0), some (.int a1), some (.int js10), some (.int x13)], [.int ((5 : Int32)), .int a1])) rfl ?_
                by_cases c20 : ¬ a1 = ((5 : Int32))
                · rw [if_pos c20] at H
                  refine am_G.br (tgt := 79) rfl rfl (if_pos c20) rfl ?_
                  obtain rfl := Option.some.inj H
                  exact am_G.nd rfl
                · rw [if_neg c20] at H
                  refine am_G.br (tgt := 74) rfl rfl (if_neg c20) rfl ?_
                  refine am_G.fr 2 (g := (76, [some (.ref a0), some (.int a1), some (.int js10), some (.int x13)], [.int ((5 : Int32)), .ref a0])) rfl ?_
                  obtain ⟨hh22, e21, H⟩ := am_bd H
                  refine am_G.cl [.ref a0, .int ((5 : Int32))] [] (am_Cl.mono (Nat.le_trans (show 1 ≤ 2 by decide) hdb) (lX10_wrong e21)) rfl rfl rfl rfl (Nat.le_of_ble_eq_true rfl) ?_
                  obtain rfl := Option.some.inj H
                  exact am_G.nd rfl
              · rw [if_neg c19] at H
                refine am_G.br (tgt := 43) rfl rfl (if_neg c19) rfl ?_
                refine am_G.fr 2 (g := (46, [some (.ref a0), some (.int a1), some (.int js10), some (.int x13)], [.int ((40 : Int32)), .ref a0])) rfl ?_
                obtain ⟨x24, e23, H⟩ := am_bd H
                refine am_G.cl [.ref a0, .int ((40 : Int32))] [] (am_Cl.mono (Nat.le_trans (show 1 ≤ 2 by decide) hdb) (lX10_isSign e23)) rfl rfl rfl rfl (Nat.le_of_ble_eq_true rfl) ?_
                by_cases c25 : ¬ x24 = 0
                · rw [if_pos c25] at H
                  refine am_G.br (tgt := 69) rfl rfl (if_pos c25) rfl ?_
                  refine am_G.fr 2 (g := (71, [some (.ref a0), some (.int a1), some (.int js10), some (.int x13)], [.int ((5 : Int32)), .int a1])) rfl ?_
                  by_cases c26 : ¬ a1 = ((5 : Int32))
                  · rw [if_pos c26] at H
                    refine am_G.br (tgt := 79) rfl rfl (if_pos c26) rfl ?_
                    obtain rfl := Option.some.inj H
                    exact am_G.nd rfl
                  · rw [if_neg c26] at H
                    refine am_G.br (tgt := 74) rfl rfl (if_neg c26) rfl ?_
                    refine am_G.fr 2 (g := (76, [some (.ref a0), some (.int a1), some (.int js10), some (.int x13)], [.int ((5 : Int32)), .ref a0])) rfl ?_
                    obtain ⟨hh28, e27, H⟩ := am_bd H
                    refine am_G.cl [.ref a0, .int ((5 : Int32))] [] (am_Cl.mono (Nat.le_trans (show 1 ≤ 2 by decide) hdb) (lX10_wrong e27)) rfl rfl rfl rfl (Nat.le_of_ble_eq_true rfl) ?_
                    obtain rfl := Option.some.inj H
                    exact am_G.nd rfl
                · rw [if_neg c25] at H
                  refine am_G.br (tgt := 52) rfl rfl (if_neg c25) rfl ?_
                  refine am_G.fr 2 (g := (55, [some (.ref a0), some (.int a1), some (.int js10), some (.int x13)], [.int ((18 : Int32)), .ref a0])) rfl ?_
                  obtain ⟨x30, e29, H⟩ := am_bd H
                  refine am_G.cl [.ref a0, .int ((18 : Int32))] [] (am_Cl.mono (Nat.le_trans (show 1 ≤ 2 by decide) hdb) (lX10_isWord e29)) rfl rfl rfl rfl (Nat.le_of_ble_eq_true rfl) ?_
                  by_cases c31 : ¬ x30 = 0
                  · rw [if_pos c31] at H
                    refine am_G.br (tgt := 69) rfl rfl (if_pos c31) rfl ?_
                    refine am_G.fr 2 (g := (71, [some (.ref a0), some (.int a1), some (.int js10), some (.int x13)], [.int ((5 : Int32)), .int a1])) rfl ?_
                    by_cases c32 : ¬ a1 = ((5 : Int32))
                    · rw [if_pos c32] at H
                      refine am_G.br (tgt := 79) rfl rfl (if_pos c32) rfl ?_
                      obtain rfl := Option.some.inj H
                      exact am_G.nd rfl
                    · rw [if_neg c32] at H
                      refine am_G.br (tgt := 74) rfl rfl (if_neg c32) rfl ?_
                      refine am_G.fr 2 (g := (76, [some (.ref a0), some (.int a1), some (.int js10), some (.int x13)], [.int ((5 : Int32)), .ref a0])) rfl ?_
                      obtain ⟨hh34, e33, H⟩ := am_bd H
                      refine am_G.cl [.ref a0, .int ((5 : Int32))] [] (am_Cl.mono (Nat.le_trans (show 1 ≤ 2 by decide) hdb) (lX10_wrong e33)) rfl rfl rfl rfl (Nat.le_of_ble_eq_true rfl) ?_
                      obtain rfl := Option.some.inj H
                      exact am_G.nd rfl
                  · rw [if_neg c31] at H
                    refine am_G.br (tgt := 61) rfl rfl (if_neg c31) rfl ?_
                    refine am_G.fr 2 (g := (63, [some (.ref a0), some (.int a1), some (.int js10), some (.int x13)], [.int ((1 : Int32)), .ref a0])) rfl ?_
                    obtain ⟨hh36, e35, H⟩ := am_bd H
                    refine am_G.cl [.ref a0, .int ((1 : Int32))] [] (am_Cl.mono (Nat.le_trans (show 1 ≤ 2 by decide) hdb) (lX10_wrong e35)) rfl rfl rfl rfl (Nat.le_of_ble_eq_true rfl) ?_
                    refine am_G.fr 1 (g := (79, [some (.ref a0), some (.int a1), some (.int js10), some (.int x13)], [])) rfl ?_
                    obtain rfl := Option.some.inj H
                    exact am_G.nd rfl
          · clear E76
            refine am_G.fr 1 (g := (80, [some (.ref a0), some (.int a1), some (.int js10), some (.int x13)], [.ref a0])) rfl ?_
            obtain ⟨fault37, e38, H⟩ := am_bd H
            refine am_G.gI rfl e38 ?_
            by_cases c39 : fault37 ≤ 0
            · rw [if_pos c39] at H
              refine am_G.br (tgt := 87) rfl rfl (if_pos c39) rfl ?_
              refine am_G.fr 2 (g := (90, [some (.ref a0), some (.int a1), some (.int js10), some (.int x13)], [.int ((18 : Int32)), .ref a0])) rfl ?_
              obtain ⟨x41, hh42, e40, H⟩ := am_bd2 H
              refine am_G.cl [.ref a0, .int ((18 : Int32))] [] (am_Cl.mono (Nat.le_trans (show 2 ≤ 2 by decide) hdb) (lX10_hasWord e40)) rfl rfl rfl rfl (Nat.le_of_ble_eq_true rfl) ?_
              obtain ⟨hh43, E75, H⟩ := am_bd H
              refine am_G.sq (t := ((178, [none, none, none, none], []), hh43)) ?_ ?_
              · clear H
                have H := E75
                clear E75
                by_cases c44 : x41 = 0
                · rw [if_pos c44] at H
                  refine am_G.br (tgt := 112) rfl rfl (if_pos c44) rfl ?_
                  refine am_G.fr 2 (g := (115, [some (.ref a0), some (.int a1), some (.int js10), some (.int x13)], [.int ((40 : Int32)), .ref a0])) rfl ?_
                  obtain ⟨x46, hh47, e45, H⟩ := am_bd2 H
                  refine am_G.cl [.ref a0, .int ((40 : Int32))] [] (am_Cl.mono (Nat.le_trans (show 2 ≤ 2 by decide) hdb) (lX10_hasSign e45)) rfl rfl rfl rfl (Nat.le_of_ble_eq_true rfl) ?_
                  by_cases c48 : x46 = 0
                  · rw [if_pos c48] at H
                    refine am_G.br (tgt := 137) rfl rfl (if_pos c48) rfl ?_
                    refine am_G.fr 2 (g := (139, [some (.ref a0), some (.int a1), some (.int js10), some (.int x13)], [.int js10, .ref a0])) rfl ?_
                    obtain ⟨js49, E66, H⟩ := am_bd H
                    refine am_G.sq (t := ((147, [some (.ref a0), none, some (.int js10), some (.int x13)], [.int js49, .ref a0]), hh47)) ?_ ?_
                    · clear H
                      have H := E66
                      clear E66
                      by_cases c50 : js10 = 0
                      · rw [if_pos c50] at H
                        refine am_G.br (tgt := 146) rfl rfl (if_pos c50) rfl ?_
                        refine am_G.fr 1 (g := (147, [some (.ref a0), some (.int a1), some (.int js10), some (.int x13)], [.int ((2 : Int32)), .ref a0])) rfl ?_
                        obtain rfl := Option.some.inj H
                        refine am_G.fg [some (.ref a0), none, some (.int js10), some (.int x13)] (by simp only [am_sub, and_self]) ?_
                        exact am_G.nd rfl
                      · rw [if_neg c50] at H
                        refine am_G.br (tgt := 142) rfl rfl (if_neg c50) rfl ?_
                        refine am_G.fr 2 (g := (147, [some (.ref a0), some (.int a1), some (.int js10), some (.int x13)], [.int ((1 : Int32)), .ref a0])) rfl ?_
                        obtain rfl := Option.some.inj H
                        refine am_G.fg [some (.ref a0), none, some (.int js10), some (.int x13)] (by simp only [am_sub, and_self]) ?_
                        exact am_G.nd rfl
                    · clear E66
                      refine am_G.fr 1 (g := (148, [some (.ref a0), none, some (.int js10), some (.int x13)], [.int js10, .int js49, .ref a0])) rfl ?_
                      obtain ⟨js51, E65, H⟩ := am_bd H
                      refine am_G.sq (t := ((165, [some (.ref a0), none, none, none], [.int js51, .int js49, .ref a0]), hh47)) ?_ ?_
                      · clear H
                        have H := E65
                        clear E65
                        by_cases c52 : js10 = 0
                        · rw [if_pos c52] at H
                          refine am_G.br (tgt := 164) rfl rfl (if_pos c52) rfl ?_
                          refine am_G.fr 1 (g := (165, [some (.ref a0), none, some (.int js10), some (.int x13)], [.int x13, .int js49, .ref a0])) rfl ?_
                          obtain rfl := Option.some.inj H
                          refine am_G.fg [some (.ref a0), none, none, none] (by simp only [am_sub, and_self]) ?_
                          exact am_G.nd rfl
                        · rw [if_neg c52] at H
                          refine am_G.br (tgt := 151) rfl rfl (if_neg c52) rfl ?_
                          refine am_G.fr 1 (g := (152, [some (.ref a0), none, some (.int js10), some (.int x13)], [.ref a0, .int js49, .ref a0])) rfl ?_
                          obtain ⟨value53, e54, H⟩ := am_bd H
                          refine am_G.gR rfl e54 ?_
                          refine am_G.fr 1 (g := (156, [some (.ref a0), none, some (.int js10), some (.int x13)], [.ref a0, .ref value53, .int js49, .ref a0])) rfl ?_
                          obtain ⟨at55, e56, H⟩ := am_bd H
                          refine am_G.gI rfl e56 ?_
                          obtain ⟨x57, e58, H⟩ := am_bd H
                          refine am_G.aL rfl e58 ?_
                          refine am_G.fr 2 (g := (165, [some (.ref a0), none, some (.int js10), some (.int x13)], [.int x57.toInt32, .int js49, .ref a0])) rfl ?_
                          obtain rfl := Option.some.inj H
                          refine am_G.fg [some (.ref a0), none, none, none] (by simp only [am_sub, and_self]) ?_
                          exact am_G.nd rfl
                      · clear E65
                        obtain ⟨hh60, e59, H⟩ := am_bd H
                        refine am_G.cl [.ref a0, .int js49, .int js51] [] (am_Cl.mono (Nat.le_trans (show 1 ≤ 2 by decide) hdb) (lX10_emit e59)) rfl rfl rfl rfl (Nat.le_of_ble_eq_true rfl) ?_
                        refine am_G.fr 2 (g := (170, [some (.ref a0), none, none, none], [.ref a0, .ref a0])) rfl ?_
                        obtain ⟨at61, e62, H⟩ := am_bd H
                        refine am_G.gI rfl e62 ?_
                        refine am_G.fr 2 (g := (175, [some (.ref a0), none, none, none], [.int (at61 + ((1 : Int32))), .ref a0])) rfl ?_
                        obtain ⟨hh63, e64, H⟩ := am_bd H
                        refine am_G.pF rfl e64 ?_
                        obtain rfl := Option.some.inj H
                        refine am_G.fg [none, none, none, none] (by simp only [am_sub, and_self]) ?_
                        exact am_G.nd rfl
                  · rw [if_neg c48] at H
                    refine am_G.br (tgt := 121) rfl rfl (if_neg c48) rfl ?_
                    refine am_G.fr 4 (g := (125, [some (.ref a0), some (.int a1), some (.int js10), some (.int x13)], [.int (a1 + ((1 : Int32))), .ref a0])) rfl ?_
                    obtain ⟨hh68, e67, H⟩ := am_bd H
                    refine am_G.cl [.ref a0, .int (a1 + ((1 : Int32)))] [] ((hrc _ _ _ _).2.2.2.2 e67) rfl rfl rfl rfl (Nat.le_of_ble_eq_true rfl) ?_
                    refine am_G.fr 2 (g := (131, [some (.ref a0), some (.int a1), some (.int js10), some (.int x13)], [.int ((41 : Int32)), .ref a0])) rfl ?_
                    obtain ⟨hh70, e69, H⟩ := am_bd H
                    refine am_G.cl [.ref a0, .int ((41 : Int32))] [] (am_Cl.mono (Nat.le_trans (show 2 ≤ 2 by decide) hdb) (lX10_takeSign e69)) rfl rfl rfl rfl (Nat.le_of_ble_eq_true rfl) ?_
                    refine am_G.fr 1 (g := (178, [some (.ref a0), some (.int a1), some (.int js10), some (.int x13)], [])) rfl ?_
                    obtain rfl := Option.some.inj H
                    refine am_G.fg [none, none, none, none] (by simp only [am_sub, and_self]) ?_
                    exact am_G.nd rfl
                · rw [if_neg c44] at H
                  refine am_G.br (tgt := 96) rfl rfl (if_neg c44) rfl ?_
                  refine am_G.fr 4 (g := (100, [some (.ref a0), some (.int a1), some (.int js10), some (.int x13)], [.int (a1 + ((1 : Int32))), .ref a0])) rfl ?_
                  obtain ⟨hh72, e71, H⟩ := am_bd H
                  refine am_G.cl [.ref a0, .int (a1 + ((1 : Int32)))] [] ((hrc _ _ _ _).2.2.1 e71) rfl rfl rfl rfl (Nat.le_of_ble_eq_true rfl) ?_
                  refine am_G.fr 3 (g := (106, [some (.ref a0), some (.int a1), some (.int js10), some (.int x13)], [.int ((0 : Int32)), .int ((3 : Int32)), .ref a0])) rfl ?_
                  obtain ⟨hh74, e73, H⟩ := am_bd H
                  refine am_G.cl [.ref a0, .int ((3 : Int32)), .int ((0 : Int32))] [] (am_Cl.mono (Nat.le_trans (show 1 ≤ 2 by decide) hdb) (lX10_emit e73)) rfl rfl rfl rfl (Nat.le_of_ble_eq_true rfl) ?_
                  refine am_G.fr 1 (g := (178, [some (.ref a0), some (.int a1), some (.int js10), some (.int x13)], [])) rfl ?_
                  obtain rfl := Option.some.inj H
                  refine am_G.fg [none, none, none, none] (by simp only [am_sub, and_self]) ?_
                  exact am_G.nd rfl
              · clear E75
                obtain rfl := Option.some.inj H
                exact am_G.nd ⟨rfl, rfl⟩
            · rw [if_neg c39] at H
              refine am_G.br (tgt := 86) rfl rfl (if_neg c39) rfl ?_
              obtain rfl := Option.some.inj H
              exact am_G.nd ⟨rfl, rfl⟩
      · rw [if_neg c3] at H
        refine am_G.br (tgt := 7) rfl rfl (if_neg c3) rfl ?_
        obtain rfl := Option.some.inj H
        exact am_G.nd ⟨rfl, rfl⟩
    · intro H
      rw [gX10_products] at H
      rw [if_neg (by decide)] at H
      rw [if_neg (by decide)] at H
      rw [if_neg (by decide)] at H
      rw [if_pos rfl] at H
      obtain ⟨_, hO, H⟩ := am_bd H
      obtain ⟨fs0, hO⟩ := am_isO_ok hO
      refine am_mk (d := 2 + n) (q := qX10_test) rfl (fun _ => ⟨_, _, _, _, _, rfl, hO, rfl, rfl⟩) (fun z => absurd z (by decide)) (Nat.le_of_ble_eq_true rfl) rfl ?_
      show am_G sc (am_Cl am_T am_N sc (2 + n)) (am_at kX10_test) (fun t => t.2 = h1 ∧ am_ret 0 (am_at kX10_test) t.1 = some none) ((0, [some (.ref a0), some (.int a1), none], []), h)
      refine am_G.fr 2 (g := (2, [some (.ref a0), some (.int a1), none], [.int a1, .ref a0])) rfl ?_
      obtain ⟨hh2, e1, H⟩ := am_bd H
      refine am_G.cl [.ref a0, .int a1] [] ((hrc _ _ _ _).2.1 e1) rfl rfl rfl rfl (Nat.le_of_ble_eq_true rfl) ?_
      refine am_G.fr 2 (g := (8, [some (.ref a0), some (.int a1), none], [.int ((60 : Int32)), .ref a0])) rfl ?_
      obtain ⟨x4, e3, H⟩ := am_bd H
      refine am_G.cl [.ref a0, .int ((60 : Int32))] [] (am_Cl.mono (Nat.le_trans (show 1 ≤ 2 by decide) hdb) (lX10_isSign e3)) rfl rfl rfl rfl (Nat.le_of_ble_eq_true rfl) ?_
      refine am_G.fr 3 (g := (15, [some (.ref a0), some (.int a1), some (.int x4)], [.int ((60 : Int32)), .ref a0])) rfl ?_
      obtain ⟨x6, hh7, e5, H⟩ := am_bd2 H
      refine am_G.cl [.ref a0, .int ((60 : Int32))] [] (am_Cl.mono (Nat.le_trans (show 2 ≤ 2 by decide) hdb) (lX10_hasSign e5)) rfl rfl rfl rfl (Nat.le_of_ble_eq_true rfl) ?_
      obtain ⟨hh8, E28, H⟩ := am_bd H
      refine am_G.sq (t := ((51, [none, none, none], []), hh8)) ?_ ?_
      · clear H
        have H := E28
        clear E28
        by_cases c9 : ¬ x6 = 0
        · rw [if_pos c9] at H
          refine am_G.br (tgt := 30) rfl rfl (if_pos c9) rfl ?_
          refine am_G.fr 2 (g := (32, [some (.ref a0), some (.int a1), some (.int x4)], [.int a1, .ref a0])) rfl ?_
          obtain ⟨hh11, e10, H⟩ := am_bd H
          refine am_G.cl [.ref a0, .int a1] [] ((hrc _ _ _ _).2.1 e10) rfl rfl rfl rfl (Nat.le_of_ble_eq_true rfl) ?_
          refine am_G.fr 2 (g := (37, [some (.ref a0), some (.int a1), some (.int x4)], [.int x4, .ref a0])) rfl ?_
          obtain ⟨js12, E16, H⟩ := am_bd H
          refine am_G.sq (t := ((47, [none, none, none], [.int js12, .ref a0]), hh11)) ?_ ?_
          · clear H
            have H := E16
            clear E16
            by_cases c13 : x4 = 0
            · rw [if_pos c13] at H
              refine am_G.br (tgt := 45) rfl rfl (if_pos c13) rfl ?_
              refine am_G.fr 1 (g := (47, [some (.ref a0), some (.int a1), some (.int x4)], [.int ((8 : Int32)), .ref a0])) rfl ?_
              obtain rfl := Option.some.inj H
              refine am_G.fg [none, none, none] (by simp only [am_sub, and_self]) ?_
              exact am_G.nd rfl
            · rw [if_neg c13] at H
              refine am_G.br (tgt := 40) rfl rfl (if_neg c13) rfl ?_
              refine am_G.fr 2 (g := (47, [some (.ref a0), some (.int a1), some (.int x4)], [.int ((7 : Int32)), .ref a0])) rfl ?_
              obtain rfl := Option.some.inj H
              refine am_G.fg [none, none, none] (by simp only [am_sub, and_self]) ?_
              exact am_G.nd rfl
          · clear E16
            refine am_G.fr 1 (g := (48, [none, none, none], [.int ((0 : Int32)), .int js12, .ref a0])) rfl ?_
            obtain ⟨hh15, e14, H⟩ := am_bd H
            refine am_G.cl [.ref a0, .int js12, .int ((0 : Int32))] [] (am_Cl.mono (Nat.le_trans (show 1 ≤ 2 by decide) hdb) (lX10_emit e14)) rfl rfl rfl rfl (Nat.le_of_ble_eq_true rfl) ?_
            obtain rfl := Option.some.inj H
            exact am_G.nd rfl
        · rw [if_neg c9] at H
          refine am_G.br (tgt := 21) rfl rfl (if_neg c9) rfl ?_
          refine am_G.fr 2 (g := (24, [some (.ref a0), some (.int a1), some (.int x4)], [.int ((61 : Int32)), .ref a0])) rfl ?_
          obtain ⟨x18, hh19, e17, H⟩ := am_bd2 H
          refine am_G.cl [.ref a0, .int ((61 : Int32))] [] (am_Cl.mono (Nat.le_trans (show 2 ≤ 2 by decide) hdb) (lX10_hasSign e17)) rfl rfl rfl rfl (Nat.le_of_ble_eq_true rfl) ?_
          by_cases c20 : x18 = 0
          · rw [if_pos c20] at H
            refine am_G.br (tgt := 51) rfl rfl (if_pos c20) rfl ?_
            obtain rfl := Option.some.inj H
            refine am_G.fg [none, none, none] (by simp only [am_sub, and_self]) ?_
            exact am_G.nd rfl
          · rw [if_neg c20] at H
            refine am_G.br (tgt := 30) rfl rfl (if_neg c20) rfl ?_
            refine am_G.fr 2 (g := (32, [some (.ref a0), some (.int a1), some (.int x4)], [.int a1, .ref a0])) rfl ?_
            obtain ⟨hh22, e21, H⟩ := am_bd H
            refine am_G.cl [.ref a0, .int a1] [] ((hrc _ _ _ _).2.1 e21) rfl rfl rfl rfl (Nat.le_of_ble_eq_true rfl) ?_
            refine am_G.fr 2 (g := (37, [some (.ref a0), some (.int a1), some (.int x4)], [.int x4, .ref a0])) rfl ?_
            obtain ⟨js23, E27, H⟩ := am_bd H
            refine am_G.sq (t := ((47, [none, none, none], [.int js23, .ref a0]), hh22)) ?_ ?_
            · clear H
              have H := E27
              clear E27
              by_cases c24 : x4 = 0
              · rw [if_pos c24] at H
                refine am_G.br (tgt := 45) rfl rfl (if_pos c24) rfl ?_
                refine am_G.fr 1 (g := (47, [some (.ref a0), some (.int a1), some (.int x4)], [.int ((8 : Int32)), .ref a0])) rfl ?_
                obtain rfl := Option.some.inj H
                refine am_G.fg [none, none, none] (by simp only [am_sub, and_self]) ?_
                exact am_G.nd rfl
              · rw [if_neg c24] at H
                refine am_G.br (tgt := 40) rfl rfl (if_neg c24) rfl ?_
                refine am_G.fr 2 (g := (47, [some (.ref a0), some (.int a1), some (.int x4)], [.int ((7 : Int32)), .ref a0])) rfl ?_
                obtain rfl := Option.some.inj H
                refine am_G.fg [none, none, none] (by simp only [am_sub, and_self]) ?_
                exact am_G.nd rfl
            · clear E27
              refine am_G.fr 1 (g := (48, [none, none, none], [.int ((0 : Int32)), .int js23, .ref a0])) rfl ?_
              obtain ⟨hh26, e25, H⟩ := am_bd H
              refine am_G.cl [.ref a0, .int js23, .int ((0 : Int32))] [] (am_Cl.mono (Nat.le_trans (show 1 ≤ 2 by decide) hdb) (lX10_emit e25)) rfl rfl rfl rfl (Nat.le_of_ble_eq_true rfl) ?_
              obtain rfl := Option.some.inj H
              exact am_G.nd rfl
      · clear E28
        obtain rfl := Option.some.inj H
        exact am_G.nd ⟨rfl, rfl⟩
    · intro H
      rw [gX10_products] at H
      rw [if_neg (by decide)] at H
      rw [if_neg (by decide)] at H
      rw [if_neg (by decide)] at H
      rw [if_neg (by decide)] at H
      rw [if_pos rfl] at H
      obtain ⟨_, hO, H⟩ := am_bd H
      obtain ⟨fs0, hO⟩ := am_isO_ok hO
      refine am_mk (d := 2 + n) (q := qX10_whole) rfl (fun _ => ⟨_, _, _, _, _, rfl, hO, rfl, rfl⟩) (fun z => absurd z (by decide)) (Nat.le_of_ble_eq_true rfl) rfl ?_
      show am_G sc (am_Cl am_T am_N sc (2 + n)) (am_at kX10_whole) (fun t => t.2 = h1 ∧ am_ret 0 (am_at kX10_whole) t.1 = some none) ((0, [some (.ref a0), some (.int a1), none], []), h)
      refine am_G.fr 2 (g := (2, [some (.ref a0), some (.int a1), none], [.int a1, .ref a0])) rfl ?_
      obtain ⟨hh2, e1, H⟩ := am_bd H
      refine am_G.cl [.ref a0, .int a1] [] ((hrc _ _ _ _).2.2.2.1 e1) rfl rfl rfl rfl (Nat.le_of_ble_eq_true rfl) ?_
      obtain ⟨hh35, E36, H⟩ := am_bd H
      refine am_G.sq (lX10_whole_L5 hdb hrc _ _ _ _ _ E36) ?_
      clear E36
      obtain rfl := Option.some.inj H
      exact am_G.nd ⟨rfl, rfl⟩
def fX10_products (n : Nat) (a0 : Nat) (a1 : Int32) (h : am_H) : Option (am_H) := gX10_products n 0 a0 a1 h
theorem lX10_products {sc : Nat × (Nat → Int32)} {n : Nat} {a0 : Nat} {a1 : Int32} {h : am_H} {h1 : am_H} (H : fX10_products n a0 a1 h = some h1) : am_Cl am_T am_N sc (2 + n) 170 [.ref a0, .int a1] h none h1 := (lgX10_products n a0 a1 h h1).1 H
def fX10_sums (n : Nat) (a0 : Nat) (a1 : Int32) (h : am_H) : Option (am_H) := gX10_products n 1 a0 a1 h
theorem lX10_sums {sc : Nat × (Nat → Int32)} {n : Nat} {a0 : Nat} {a1 : Int32} {h : am_H} {h1 : am_H} (H : fX10_sums n a0 a1 h = some h1) : am_Cl am_T am_N sc (2 + n) 169 [.ref a0, .int a1] h none h1 := (lgX10_products n a0 a1 h h1).2.1 H
def fX10_takePart (n : Nat) (a0 : Nat) (a1 : Int32) (h : am_H) : Option (am_H) := gX10_products n 2 a0 a1 h
theorem lX10_takePart {sc : Nat × (Nat → Int32)} {n : Nat} {a0 : Nat} {a1 : Int32} {h : am_H} {h1 : am_H} (H : fX10_takePart n a0 a1 h = some h1) : am_Cl am_T am_N sc (2 + n) 171 [.ref a0, .int a1] h none h1 := (lgX10_products n a0 a1 h h1).2.2.1 H
def fX10_test (n : Nat) (a0 : Nat) (a1 : Int32) (h : am_H) : Option (am_H) := gX10_products n 3 a0 a1 h
theorem lX10_test {sc : Nat × (Nat → Int32)} {n : Nat} {a0 : Nat} {a1 : Int32} {h : am_H} {h1 : am_H} (H : fX10_test n a0 a1 h = some h1) : am_Cl am_T am_N sc (2 + n) 168 [.ref a0, .int a1] h none h1 := (lgX10_products n a0 a1 h h1).2.2.2.1 H
def fX10_whole (n : Nat) (a0 : Nat) (a1 : Int32) (h : am_H) : Option (am_H) := gX10_products n 4 a0 a1 h
theorem lX10_whole {sc : Nat × (Nat → Int32)} {n : Nat} {a0 : Nat} {a1 : Int32} {h : am_H} {h1 : am_H} (H : fX10_whole n a0 a1 h = some h1) : am_Cl am_T am_N sc (2 + n) 167 [.ref a0, .int a1] h none h1 := (lgX10_products n a0 a1 h h1).2.2.2.2 H
def fX10_readOnce (a0 : Nat) (h : am_H) : Option (am_H) :=
  (am_isO h a0 9).bind fun _ =>
  (fX10_wordHere a0 ((8 : Int32)) ((2 : Int32)) h).bind fun x2 =>
  Option.bind (
    if 0 ≤ x2 then
      (am_gI h a0 9 20).bind fun once5 =>
      if ¬ ((once5 >>> (x2 &&& 31)) &&& ((1 : Int32))) = ((1 : Int32)) then
        some h
      else
        (fX10_wrong a0 ((3 : Int32)) h).bind fun hh9 =>
        some hh9
    else
      (fX10_wrong a0 ((1 : Int32)) h).bind fun hh11 =>
      some hh11) fun hh3 =>
  (am_gI hh3 a0 9 8).bind fun fault12 =>
  if fault12 ≤ 0 then
    (am_gI hh3 a0 9 20).bind fun once15 =>
    (am_pF hh3 a0 9 20 (.int (once15 ||| (((1 : Int32)) <<< (x2 &&& 31))))).bind fun hh17 =>
    (am_gI hh17 a0 9 7).bind fun at19 =>
    (am_pF hh17 a0 9 7 (.int (at19 + ((1 : Int32))))).bind fun hh21 =>
    Option.bind (
      if ¬ x2 = 0 then
        (am_gR hh21 a0 9 10).bind fun vales25 =>
        (am_gI hh21 a0 9 13).bind fun codes27 =>
        (am_sI hh21 0 vales25 ((53 : Int32)) codes27).bind fun hh29 =>
        (fX10_whole 60 a0 ((0 : Int32)) hh29).bind fun hh32 =>
        (fX10_emit a0 ((0 : Int32)) ((0 : Int32)) hh32).bind fun hh34 =>
        some hh34
      else
        (am_gR hh21 a0 9 10).bind fun vales35 =>
        am_b2 (fX10_takeNumber a0 ((1 : Int32)) ((4 : Int32)) hh21) fun x38 hh39 =>
        (am_sI hh39 0 vales35 ((52 : Int32)) x38).bind fun hh40 =>
        some hh40) fun hh23 =>
    some hh23
  else
    some hh3
set_option maxHeartbeats 4000000 in
set_option maxRecDepth 100000 in
theorem lX10_readOnce {sc : Nat × (Nat → Int32)} {a0 : Nat} {h : am_H} {h1 : am_H} (H : fX10_readOnce a0 h = some h1) : am_Cl am_T am_N sc 64 164 [.ref a0] h none h1 := by
  unfold fX10_readOnce at H
  obtain ⟨_, hO, H⟩ := am_bd H
  obtain ⟨fs0, hO⟩ := am_isO_ok hO
  refine am_mk (q := qX10_readOnce) rfl (fun _ => ⟨_, _, _, _, _, rfl, hO, rfl, rfl⟩) (fun z => absurd z (by decide)) (Nat.le_of_ble_eq_true rfl) rfl ?_
  show am_G sc (am_Cl am_T am_N sc 63) (am_at kX10_readOnce) (fun t => t.2 = h1 ∧ am_ret 0 (am_at kX10_readOnce) t.1 = some none) ((0, [some (.ref a0), none], []), h)
  refine am_G.fr 3 (g := (4, [some (.ref a0), none], [.int ((2 : Int32)), .int ((8 : Int32)), .ref a0])) rfl ?_
  obtain ⟨x2, e1, H⟩ := am_bd H
  refine am_G.cl [.ref a0, .int ((8 : Int32)), .int ((2 : Int32))] [] (am_Cl.mono (by decide) (lX10_wordHere e1)) rfl rfl rfl rfl (Nat.le_of_ble_eq_true rfl) ?_
  refine am_G.fr 2 (g := (9, [some (.ref a0), some (.int x2)], [.int x2])) rfl ?_
  obtain ⟨hh3, E43, H⟩ := am_bd H
  refine am_G.sq (t := ((37, [some (.ref a0), some (.int x2)], []), hh3)) ?_ ?_
  · clear H
    have H := E43
    clear E43
    by_cases c4 : 0 ≤ x2
    · rw [if_pos c4] at H
      refine am_G.br (tgt := 20) rfl rfl (if_pos c4) rfl ?_
      refine am_G.fr 1 (g := (21, [some (.ref a0), some (.int x2)], [.ref a0])) rfl ?_
      obtain ⟨once5, e6, H⟩ := am_bd H
      refine am_G.gI rfl e6 ?_
      refine am_G.fr 5 (g := (29, [some (.ref a0), some (.int x2)], [.int ((1 : Int32)), .int ((once5 >>> (x2 &&& 31)) &&& ((1 : Int32)))])) rfl ?_
      by_cases c7 : ¬ ((once5 >>> (x2 &&& 31)) &&& ((1 : Int32))) = ((1 : Int32))
      · rw [if_pos c7] at H
        refine am_G.br (tgt := 37) rfl rfl (if_pos c7) rfl ?_
        obtain rfl := Option.some.inj H
        exact am_G.nd rfl
      · rw [if_neg c7] at H
        refine am_G.br (tgt := 32) rfl rfl (if_neg c7) rfl ?_
        refine am_G.fr 2 (g := (34, [some (.ref a0), some (.int x2)], [.int ((3 : Int32)), .ref a0])) rfl ?_
        obtain ⟨hh9, e8, H⟩ := am_bd H
        refine am_G.cl [.ref a0, .int ((3 : Int32))] [] (am_Cl.mono (by decide) (lX10_wrong e8)) rfl rfl rfl rfl (Nat.le_of_ble_eq_true rfl) ?_
        obtain rfl := Option.some.inj H
        exact am_G.nd rfl
    · rw [if_neg c4] at H
      refine am_G.br (tgt := 12) rfl rfl (if_neg c4) rfl ?_
      refine am_G.fr 2 (g := (14, [some (.ref a0), some (.int x2)], [.int ((1 : Int32)), .ref a0])) rfl ?_
      obtain ⟨hh11, e10, H⟩ := am_bd H
      refine am_G.cl [.ref a0, .int ((1 : Int32))] [] (am_Cl.mono (by decide) (lX10_wrong e10)) rfl rfl rfl rfl (Nat.le_of_ble_eq_true rfl) ?_
      refine am_G.fr 1 (g := (37, [some (.ref a0), some (.int x2)], [])) rfl ?_
      obtain rfl := Option.some.inj H
      exact am_G.nd rfl
  · clear E43
    refine am_G.fr 1 (g := (38, [some (.ref a0), some (.int x2)], [.ref a0])) rfl ?_
    obtain ⟨fault12, e13, H⟩ := am_bd H
    refine am_G.gI rfl e13 ?_
    by_cases c14 : fault12 ≤ 0
    · rw [if_pos c14] at H
      refine am_G.br (tgt := 45) rfl rfl (if_pos c14) rfl ?_
      refine am_G.fr 2 (g := (47, [some (.ref a0), some (.int x2)], [.ref a0, .ref a0])) rfl ?_
      obtain ⟨once15, e16, H⟩ := am_bd H
      refine am_G.gI rfl e16 ?_
      refine am_G.fr 4 (g := (54, [some (.ref a0), some (.int x2)], [.int (once15 ||| (((1 : Int32)) <<< (x2 &&& 31))), .ref a0])) rfl ?_
      obtain ⟨hh17, e18, H⟩ := am_bd H
      refine am_G.pF rfl e18 ?_
      refine am_G.fr 2 (g := (59, [some (.ref a0), some (.int x2)], [.ref a0, .ref a0])) rfl ?_
      obtain ⟨at19, e20, H⟩ := am_bd H
      refine am_G.gI rfl e20 ?_
      refine am_G.fr 2 (g := (64, [some (.ref a0), some (.int x2)], [.int (at19 + ((1 : Int32))), .ref a0])) rfl ?_
      obtain ⟨hh21, e22, H⟩ := am_bd H
      refine am_G.pF rfl e22 ?_
      refine am_G.fr 1 (g := (68, [some (.ref a0), some (.int x2)], [.int x2])) rfl ?_
      obtain ⟨hh23, E42, H⟩ := am_bd H
      refine am_G.sq (t := ((109, [none, none], []), hh23)) ?_ ?_
      · clear H
        have H := E42
        clear E42
        by_cases c24 : ¬ x2 = 0
        · rw [if_pos c24] at H
          refine am_G.br (tgt := 87) rfl rfl (if_pos c24) rfl ?_
          refine am_G.fr 1 (g := (88, [some (.ref a0), some (.int x2)], [.ref a0])) rfl ?_
          obtain ⟨vales25, e26, H⟩ := am_bd H
          refine am_G.gR rfl e26 ?_
          refine am_G.fr 2 (g := (94, [some (.ref a0), some (.int x2)], [.ref a0, .int ((53 : Int32)), .ref vales25])) rfl ?_
          obtain ⟨codes27, e28, H⟩ := am_bd H
          refine am_G.gI rfl e28 ?_
          obtain ⟨hh29, e30, H⟩ := am_bd H
          refine am_G.sI rfl e30 ?_
          refine am_G.fr 2 (g := (100, [some (.ref a0), some (.int x2)], [.int ((0 : Int32)), .ref a0])) rfl ?_
          obtain ⟨hh32, e31, H⟩ := am_bd H
          refine am_G.cl [.ref a0, .int ((0 : Int32))] [] (am_Cl.mono (by decide) (lX10_whole e31)) rfl rfl rfl rfl (Nat.le_of_ble_eq_true rfl) ?_
          refine am_G.fr 3 (g := (106, [some (.ref a0), some (.int x2)], [.int ((0 : Int32)), .int ((0 : Int32)), .ref a0])) rfl ?_
          obtain ⟨hh34, e33, H⟩ := am_bd H
          refine am_G.cl [.ref a0, .int ((0 : Int32)), .int ((0 : Int32))] [] (am_Cl.mono (by decide) (lX10_emit e33)) rfl rfl rfl rfl (Nat.le_of_ble_eq_true rfl) ?_
          obtain rfl := Option.some.inj H
          refine am_G.fg [none, none] (by simp only [am_sub, and_self]) ?_
          exact am_G.nd rfl
        · rw [if_neg c24] at H
          refine am_G.br (tgt := 71) rfl rfl (if_neg c24) rfl ?_
          refine am_G.fr 1 (g := (72, [some (.ref a0), some (.int x2)], [.ref a0])) rfl ?_
          obtain ⟨vales35, e36, H⟩ := am_bd H
          refine am_G.gR rfl e36 ?_
          refine am_G.fr 4 (g := (80, [some (.ref a0), some (.int x2)], [.int ((4 : Int32)), .int ((1 : Int32)), .ref a0, .int ((52 : Int32)), .ref vales35])) rfl ?_
          obtain ⟨x38, hh39, e37, H⟩ := am_bd2 H
          refine am_G.cl [.ref a0, .int ((1 : Int32)), .int ((4 : Int32))] [.int ((52 : Int32)), .ref vales35] (am_Cl.mono (by decide) (lX10_takeNumber e37)) rfl rfl rfl rfl (Nat.le_of_ble_eq_true rfl) ?_
          obtain ⟨hh40, e41, H⟩ := am_bd H
          refine am_G.sI rfl e41 ?_
          refine am_G.fr 1 (g := (109, [some (.ref a0), some (.int x2)], [])) rfl ?_
          obtain rfl := Option.some.inj H
          refine am_G.fg [none, none] (by simp only [am_sub, and_self]) ?_
          exact am_G.nd rfl
      · clear E42
        obtain rfl := Option.some.inj H
        exact am_G.nd ⟨rfl, rfl⟩
    · rw [if_neg c14] at H
      refine am_G.br (tgt := 44) rfl rfl (if_neg c14) rfl ?_
      obtain rfl := Option.some.inj H
      exact am_G.nd ⟨rfl, rfl⟩
def fX10_readLine (a0 : Nat) (h : am_H) : Option (am_H) :=
  (am_isO h a0 9).bind fun _ =>
  (fX10_isWord a0 ((0 : Int32)) h).bind fun x2 =>
  Option.bind (
    if x2 = 0 then
      (fX10_isWord a0 ((3 : Int32)) h).bind fun x6 =>
      if x6 = 0 then
        (fX10_isWord a0 ((2 : Int32)) h).bind fun x9 =>
        if x9 = 0 then
          (fX10_isWord a0 ((7 : Int32)) h).bind fun x12 =>
          if x12 = 0 then
            (fX10_readOnce a0 h).bind fun hh15 =>
            some hh15
          else
            (fX10_readPair a0 ((20 : Int32)) ((16 : Int32)) ((5 : Int32)) h).bind fun hh17 =>
            some hh17
        else
          (fX10_readPair a0 ((0 : Int32)) ((5 : Int32)) ((2 : Int32)) h).bind fun hh19 =>
          some hh19
      else
        (fX10_readDay a0 h).bind fun hh21 =>
        some hh21
    else
      (am_gR h a0 9 10).bind fun vales22 =>
      (am_aI h 0 vales22 ((50 : Int32))).bind fun x24 =>
      (fX10_readName a0 ((0 : Int32)) ((4 : Int32)) ((0 : Int32)) h).bind fun hh27 =>
      am_b2 (fX10_takeAfter a0 ((1 : Int32)) ((1 : Int32)) ((6 : Int32)) hh27) fun x29 hh30 =>
      (am_gI hh30 a0 9 8).bind fun fault31 =>
      Option.bind (
        if ¬ fault31 = 0 then
          some hh30
        else
          (am_gR hh30 a0 9 10).bind fun vales35 =>
          (am_sI hh30 0 vales35 (((54 : Int32)) + (((2 : Int32)) * x24)) x29).bind fun hh37 =>
          some hh37) fun hh33 =>
      some hh33) fun hh3 =>
  some hh3
set_option maxHeartbeats 4000000 in
set_option maxRecDepth 100000 in
theorem lX10_readLine {sc : Nat × (Nat → Int32)} {a0 : Nat} {h : am_H} {h1 : am_H} (H : fX10_readLine a0 h = some h1) : am_Cl am_T am_N sc 65 160 [.ref a0] h none h1 := by
  unfold fX10_readLine at H
  obtain ⟨_, hO, H⟩ := am_bd H
  obtain ⟨fs0, hO⟩ := am_isO_ok hO
  refine am_mk (q := qX10_readLine) rfl (fun _ => ⟨_, _, _, _, _, rfl, hO, rfl, rfl⟩) (fun z => absurd z (by decide)) (Nat.le_of_ble_eq_true rfl) rfl ?_
  show am_G sc (am_Cl am_T am_N sc 64) (am_at kX10_readLine) (fun t => t.2 = h1 ∧ am_ret 0 (am_at kX10_readLine) t.1 = some none) ((0, [some (.ref a0), none, none], []), h)
  refine am_G.fr 2 (g := (2, [some (.ref a0), none, none], [.int ((0 : Int32)), .ref a0])) rfl ?_
  obtain ⟨x2, e1, H⟩ := am_bd H
  refine am_G.cl [.ref a0, .int ((0 : Int32))] [] (am_Cl.mono (by decide) (lX10_isWord e1)) rfl rfl rfl rfl (Nat.le_of_ble_eq_true rfl) ?_
  obtain ⟨hh3, E40, H⟩ := am_bd H
  refine am_G.sq (t := ((112, [none, none, none], []), hh3)) ?_ ?_
  · clear H
    have H := E40
    clear E40
    by_cases c4 : x2 = 0
    · rw [if_pos c4] at H
      refine am_G.br (tgt := 54) rfl rfl (if_pos c4) rfl ?_
      refine am_G.fr 2 (g := (56, [some (.ref a0), none, none], [.int ((3 : Int32)), .ref a0])) rfl ?_
      obtain ⟨x6, e5, H⟩ := am_bd H
      refine am_G.cl [.ref a0, .int ((3 : Int32))] [] (am_Cl.mono (by decide) (lX10_isWord e5)) rfl rfl rfl rfl (Nat.le_of_ble_eq_true rfl) ?_
      by_cases c7 : x6 = 0
      · rw [if_pos c7] at H
        refine am_G.br (tgt := 69) rfl rfl (if_pos c7) rfl ?_
        refine am_G.fr 2 (g := (71, [some (.ref a0), none, none], [.int ((2 : Int32)), .ref a0])) rfl ?_
        obtain ⟨x9, e8, H⟩ := am_bd H
        refine am_G.cl [.ref a0, .int ((2 : Int32))] [] (am_Cl.mono (by decide) (lX10_isWord e8)) rfl rfl rfl rfl (Nat.le_of_ble_eq_true rfl) ?_
        by_cases c10 : x9 = 0
        · rw [if_pos c10] at H
          refine am_G.br (tgt := 87) rfl rfl (if_pos c10) rfl ?_
          refine am_G.fr 2 (g := (90, [some (.ref a0), none, none], [.int ((7 : Int32)), .ref a0])) rfl ?_
          obtain ⟨x12, e11, H⟩ := am_bd H
          refine am_G.cl [.ref a0, .int ((7 : Int32))] [] (am_Cl.mono (by decide) (lX10_isWord e11)) rfl rfl rfl rfl (Nat.le_of_ble_eq_true rfl) ?_
          by_cases c13 : x12 = 0
          · rw [if_pos c13] at H
            refine am_G.br (tgt := 108) rfl rfl (if_pos c13) rfl ?_
            refine am_G.fr 1 (g := (109, [some (.ref a0), none, none], [.ref a0])) rfl ?_
            obtain ⟨hh15, e14, H⟩ := am_bd H
            refine am_G.cl [.ref a0] [] (am_Cl.mono (by decide) (lX10_readOnce e14)) rfl rfl rfl rfl (Nat.le_of_ble_eq_true rfl) ?_
            obtain rfl := Option.some.inj H
            refine am_G.fg [none, none, none] (by simp only [am_sub, and_self]) ?_
            exact am_G.nd rfl
          · rw [if_neg c13] at H
            refine am_G.br (tgt := 96) rfl rfl (if_neg c13) rfl ?_
            refine am_G.fr 4 (g := (102, [some (.ref a0), none, none], [.int ((5 : Int32)), .int ((16 : Int32)), .int ((20 : Int32)), .ref a0])) rfl ?_
            obtain ⟨hh17, e16, H⟩ := am_bd H
            refine am_G.cl [.ref a0, .int ((20 : Int32)), .int ((16 : Int32)), .int ((5 : Int32))] [] (am_Cl.mono (by decide) (lX10_readPair e16)) rfl rfl rfl rfl (Nat.le_of_ble_eq_true rfl) ?_
            refine am_G.fr 1 (g := (112, [some (.ref a0), none, none], [])) rfl ?_
            obtain rfl := Option.some.inj H
            refine am_G.fg [none, none, none] (by simp only [am_sub, and_self]) ?_
            exact am_G.nd rfl
        · rw [if_neg c10] at H
          refine am_G.br (tgt := 77) rfl rfl (if_neg c10) rfl ?_
          refine am_G.fr 4 (g := (81, [some (.ref a0), none, none], [.int ((2 : Int32)), .int ((5 : Int32)), .int ((0 : Int32)), .ref a0])) rfl ?_
          obtain ⟨hh19, e18, H⟩ := am_bd H
          refine am_G.cl [.ref a0, .int ((0 : Int32)), .int ((5 : Int32)), .int ((2 : Int32))] [] (am_Cl.mono (by decide) (lX10_readPair e18)) rfl rfl rfl rfl (Nat.le_of_ble_eq_true rfl) ?_
          refine am_G.fr 1 (g := (112, [some (.ref a0), none, none], [])) rfl ?_
          obtain rfl := Option.some.inj H
          refine am_G.fg [none, none, none] (by simp only [am_sub, and_self]) ?_
          exact am_G.nd rfl
      · rw [if_neg c7] at H
        refine am_G.br (tgt := 62) rfl rfl (if_neg c7) rfl ?_
        refine am_G.fr 1 (g := (63, [some (.ref a0), none, none], [.ref a0])) rfl ?_
        obtain ⟨hh21, e20, H⟩ := am_bd H
        refine am_G.cl [.ref a0] [] (am_Cl.mono (by decide) (lX10_readDay e20)) rfl rfl rfl rfl (Nat.le_of_ble_eq_true rfl) ?_
        refine am_G.fr 1 (g := (112, [some (.ref a0), none, none], [])) rfl ?_
        obtain rfl := Option.some.inj H
        refine am_G.fg [none, none, none] (by simp only [am_sub, and_self]) ?_
        exact am_G.nd rfl
    · rw [if_neg c4] at H
      refine am_G.br (tgt := 8) rfl rfl (if_neg c4) rfl ?_
      refine am_G.fr 3 (g := (12, [some (.ref a0), none, none], [.ref a0, .int ((2 : Int32)), .int ((54 : Int32))])) rfl ?_
      obtain ⟨vales22, e23, H⟩ := am_bd H
      refine am_G.gR rfl e23 ?_
      refine am_G.fr 1 (g := (17, [some (.ref a0), none, none], [.int ((50 : Int32)), .ref vales22, .int ((2 : Int32)), .int ((54 : Int32))])) rfl ?_
      obtain ⟨x24, e25, H⟩ := am_bd H
      refine am_G.aI rfl e25 ?_
      refine am_G.fr 7 (g := (25, [some (.ref a0), some (.int (((54 : Int32)) + (((2 : Int32)) * x24))), none], [.int ((0 : Int32)), .int ((4 : Int32)), .int ((0 : Int32)), .ref a0])) rfl ?_
      obtain ⟨hh27, e26, H⟩ := am_bd H
      refine am_G.cl [.ref a0, .int ((0 : Int32)), .int ((4 : Int32)), .int ((0 : Int32))] [] (am_Cl.mono (by decide) (lX10_readName e26)) rfl rfl rfl rfl (Nat.le_of_ble_eq_true rfl) ?_
      refine am_G.fr 4 (g := (33, [some (.ref a0), some (.int (((54 : Int32)) + (((2 : Int32)) * x24))), none], [.int ((6 : Int32)), .int ((1 : Int32)), .int ((1 : Int32)), .ref a0])) rfl ?_
      obtain ⟨x29, hh30, e28, H⟩ := am_bd2 H
      refine am_G.cl [.ref a0, .int ((1 : Int32)), .int ((1 : Int32)), .int ((6 : Int32))] [] (am_Cl.mono (by decide) (lX10_takeAfter e28)) rfl rfl rfl rfl (Nat.le_of_ble_eq_true rfl) ?_
      refine am_G.fr 2 (g := (38, [some (.ref a0), some (.int (((54 : Int32)) + (((2 : Int32)) * x24))), some (.int x29)], [.ref a0])) rfl ?_
      obtain ⟨fault31, e32, H⟩ := am_bd H
      refine am_G.gI rfl e32 ?_
      obtain ⟨hh33, E39, H⟩ := am_bd H
      refine am_G.sq (t := ((51, [none, none, none], []), hh33)) ?_ ?_
      · clear H
        have H := E39
        clear E39
        by_cases c34 : ¬ fault31 = 0
        · rw [if_pos c34] at H
          refine am_G.br (tgt := 51) rfl rfl (if_pos c34) rfl ?_
          obtain rfl := Option.some.inj H
          refine am_G.fg [none, none, none] (by simp only [am_sub, and_self]) ?_
          exact am_G.nd rfl
        · rw [if_neg c34] at H
          refine am_G.br (tgt := 44) rfl rfl (if_neg c34) rfl ?_
          refine am_G.fr 1 (g := (45, [some (.ref a0), some (.int (((54 : Int32)) + (((2 : Int32)) * x24))), some (.int x29)], [.ref a0])) rfl ?_
          obtain ⟨vales35, e36, H⟩ := am_bd H
          refine am_G.gR rfl e36 ?_
          refine am_G.fr 2 (g := (50, [some (.ref a0), some (.int (((54 : Int32)) + (((2 : Int32)) * x24))), some (.int x29)], [.int x29, .int (((54 : Int32)) + (((2 : Int32)) * x24)), .ref vales35])) rfl ?_
          obtain ⟨hh37, e38, H⟩ := am_bd H
          refine am_G.sI rfl e38 ?_
          obtain rfl := Option.some.inj H
          refine am_G.fg [none, none, none] (by simp only [am_sub, and_self]) ?_
          exact am_G.nd rfl
      · clear E39
        refine am_G.fr 1 (g := (112, [none, none, none], [])) rfl ?_
        obtain rfl := Option.some.inj H
        exact am_G.nd rfl
  · clear E40
    obtain rfl := Option.some.inj H
    exact am_G.nd ⟨rfl, rfl⟩
def fX10_vale_L30 : Nat → Nat → am_H → Option (am_H)
  | 0, _, _ => none
  | n + 1, v0, h =>
    (am_gI h v0 9 8).bind fun fault13 =>
    if ¬ fault13 = 0 then
      some h
    else
      (am_gR h v0 9 4).bind fun sort16 =>
      (am_gI h v0 9 7).bind fun at18 =>
      (am_aI h 0 sort16 at18).bind fun x20 =>
      if x20 = 0 then
        some h
      else
        (fX10_readLine v0 h).bind fun hh24 =>
        (fX10_takeSign v0 ((59 : Int32)) hh24).bind fun hh26 =>
        fX10_vale_L30 n v0 hh26
def fX10_vale_L76 : Nat → Nat → Int32 → am_H → Option (am_H)
  | 0, _, _, _ => none
  | n + 1, v0, v1, h =>
    if ((50 : Int32)) ≤ v1 then
      some h
    else
      (am_gR h v0 9 10).bind fun vales33 =>
      (am_gR h v0 9 10).bind fun vales35 =>
      (am_aI h 0 vales35 (((50 : Int32)) + v1)).bind fun x37 =>
      (am_sI h 0 vales33 v1 x37).bind fun hh39 =>
      fX10_vale_L76 n v0 (v1 + (1 : Int32)) hh39
def fX10_vale_L105 : Nat → Nat → Int32 → am_H → Option (am_H)
  | 0, _, _, _ => none
  | n + 1, v0, v1, h =>
    (am_gI h v0 9 13).bind fun codes43 =>
    if codes43 ≤ v1 then
      some h
    else
      (am_gR h v0 9 11).bind fun op46 =>
      (am_gR h v0 9 11).bind fun op48 =>
      (am_aI h 0 op48 (((1100 : Int32)) + v1)).bind fun x50 =>
      (am_sI h 0 op46 v1 x50).bind fun hh52 =>
      (am_gR hh52 v0 9 12).bind fun arg54 =>
      (am_gR hh52 v0 9 12).bind fun arg56 =>
      (am_aI hh52 0 arg56 (((1100 : Int32)) + v1)).bind fun x58 =>
      (am_sI hh52 0 arg54 v1 x58).bind fun hh60 =>
      fX10_vale_L105 n v0 (v1 + (1 : Int32)) hh60
def fX10_vale_L153 : Nat → Nat → Int32 → am_H → Option (am_H)
  | 0, _, _, _ => none
  | n + 1, v0, v1, h =>
    (am_gI h v0 9 19).bind fun readMany64 =>
    if readMany64 ≤ v1 then
      some h
    else
      (am_gR h v0 9 14).bind fun names67 =>
      (am_gR h v0 9 15).bind fun readNames69 =>
      (am_aL h readNames69 v1).bind fun x71 =>
      (am_sL h names67 v1 x71).bind fun hh73 =>
      (am_gR hh73 v0 9 16).bind fun nameOf75 =>
      (am_gR hh73 v0 9 17).bind fun readNameOf77 =>
      (am_aI hh73 0 readNameOf77 v1).bind fun x79 =>
      (am_sI hh73 0 nameOf75 v1 x79).bind fun hh81 =>
      fX10_vale_L153 n v0 (v1 + (1 : Int32)) hh81
def fX10_vale (a0 : Nat) (h : am_H) : Option (Int32 × am_H) :=
  (am_isO h a0 9).bind fun _ =>
  (am_pF h a0 9 0 (.int ((0 : Int32)))).bind fun hh1 =>
  (fX10_cutAll a0 hh1).bind fun hh4 =>
  (am_pF hh4 a0 9 13 (.int ((0 : Int32)))).bind fun hh5 =>
  (am_pF hh5 a0 9 19 (.int ((0 : Int32)))).bind fun hh7 =>
  (am_pF hh7 a0 9 20 (.int ((0 : Int32)))).bind fun hh9 =>
  (fX10_standsAsAlways a0 ((50 : Int32)) hh9).bind fun hh12 =>
  Option.bind (fX10_vale_L30 4000 a0 hh12) fun hh27 =>
  (am_gI hh27 a0 9 8).bind fun fault29 =>
  if fault29 ≤ 0 then
    Option.bind (fX10_vale_L76 4000 a0 ((0 : Int32)) hh27) fun hh41 =>
    Option.bind (fX10_vale_L105 4000 a0 ((0 : Int32)) hh41) fun hh62 =>
    Option.bind (fX10_vale_L153 4000 a0 ((0 : Int32)) hh62) fun hh83 =>
    (am_gI hh83 a0 9 19).bind fun readMany85 =>
    (am_pF hh83 a0 9 18 (.int readMany85)).bind fun hh87 =>
    (fX10_begins a0 hh87).bind fun hh90 =>
    some ((0 : Int32), hh90)
  else
    (am_gI hh27 a0 9 8).bind fun fault91 =>
    some (fault91, hh27)
set_option maxHeartbeats 4000000 in
set_option maxRecDepth 100000 in
theorem lX10_vale_L30 {sc : Nat × (Nat → Int32)} : ∀ (n : Nat) (v0 : Nat) (h : am_H) (h1 : am_H), fX10_vale_L30 n v0 h = some h1 → am_G sc (am_Cl am_T am_N sc 65) (am_at kX10_vale) (fun t => t = ((62, [some (.ref v0), none], []), h1)) ((30, [some (.ref v0), none], []), h) := by
  intro n
  induction n with
  | zero => intro _ _ _ H; cases H
  | succ n ih =>
    intro v0 h h1 H
    rw [fX10_vale_L30] at H
    refine am_G.fr 1 (g := (31, [some (.ref v0), none], [.ref v0])) rfl ?_
    obtain ⟨fault13, e14, H⟩ := am_bd H
    refine am_G.gI rfl e14 ?_
    by_cases c15 : ¬ fault13 = 0
    · rw [if_pos c15] at H
      refine am_G.br (tgt := 62) rfl rfl (if_pos c15) rfl ?_
      obtain rfl := Option.some.inj H
      exact am_G.nd rfl
    · rw [if_neg c15] at H
      refine am_G.br (tgt := 37) rfl rfl (if_neg c15) rfl ?_
      refine am_G.fr 1 (g := (38, [some (.ref v0), none], [.ref v0])) rfl ?_
      obtain ⟨sort16, e17, H⟩ := am_bd H
      refine am_G.gR rfl e17 ?_
      refine am_G.fr 1 (g := (42, [some (.ref v0), none], [.ref v0, .ref sort16])) rfl ?_
      obtain ⟨at18, e19, H⟩ := am_bd H
      refine am_G.gI rfl e19 ?_
      obtain ⟨x20, e21, H⟩ := am_bd H
      refine am_G.aI rfl e21 ?_
      by_cases c22 : x20 = 0
      · rw [if_pos c22] at H
        refine am_G.br (tgt := 62) rfl rfl (if_pos c22) rfl ?_
        obtain rfl := Option.some.inj H
        exact am_G.nd rfl
      · rw [if_neg c22] at H
        refine am_G.br (tgt := 49) rfl rfl (if_neg c22) rfl ?_
        refine am_G.fr 1 (g := (50, [some (.ref v0), none], [.ref v0])) rfl ?_
        obtain ⟨hh24, e23, H⟩ := am_bd H
        refine am_G.cl [.ref v0] [] (am_Cl.mono (by decide) (lX10_readLine e23)) rfl rfl rfl rfl (Nat.le_of_ble_eq_true rfl) ?_
        refine am_G.fr 2 (g := (56, [some (.ref v0), none], [.int ((59 : Int32)), .ref v0])) rfl ?_
        obtain ⟨hh26, e25, H⟩ := am_bd H
        refine am_G.cl [.ref v0, .int ((59 : Int32))] [] (am_Cl.mono (by decide) (lX10_takeSign e25)) rfl rfl rfl rfl (Nat.le_of_ble_eq_true rfl) ?_
        refine am_G.fr 1 (g := (30, [some (.ref v0), none], [])) rfl ?_
        exact ih _ _ _ H
set_option maxHeartbeats 4000000 in
set_option maxRecDepth 100000 in
theorem lX10_vale_L76 {sc : Nat × (Nat → Int32)} : ∀ (n : Nat) (v0 : Nat) (v1 : Int32) (h : am_H) (h1 : am_H), fX10_vale_L76 n v0 v1 h = some h1 → am_G sc (am_Cl am_T am_N sc 65) (am_at kX10_vale) (fun t => t = ((103, [some (.ref v0), none], []), h1)) ((76, [some (.ref v0), some (.int v1)], []), h) := by
  intro n
  induction n with
  | zero => intro _ _ _ _ H; cases H
  | succ n ih =>
    intro v0 v1 h h1 H
    rw [fX10_vale_L76] at H
    refine am_G.fr 2 (g := (79, [some (.ref v0), some (.int v1)], [.int ((50 : Int32)), .int v1])) rfl ?_
    by_cases c32 : ((50 : Int32)) ≤ v1
    · rw [if_pos c32] at H
      refine am_G.br (tgt := 103) rfl rfl (if_pos c32) rfl ?_
      obtain rfl := Option.some.inj H
      refine am_G.fg [some (.ref v0), none] (by simp only [am_sub, and_self]) ?_
      exact am_G.nd rfl
    · rw [if_neg c32] at H
      refine am_G.br (tgt := 82) rfl rfl (if_neg c32) rfl ?_
      refine am_G.fr 1 (g := (83, [some (.ref v0), some (.int v1)], [.ref v0])) rfl ?_
      obtain ⟨vales33, e34, H⟩ := am_bd H
      refine am_G.gR rfl e34 ?_
      refine am_G.fr 2 (g := (88, [some (.ref v0), some (.int v1)], [.ref v0, .int v1, .ref vales33])) rfl ?_
      obtain ⟨vales35, e36, H⟩ := am_bd H
      refine am_G.gR rfl e36 ?_
      refine am_G.fr 3 (g := (95, [some (.ref v0), some (.int v1)], [.int (((50 : Int32)) + v1), .ref vales35, .int v1, .ref vales33])) rfl ?_
      obtain ⟨x37, e38, H⟩ := am_bd H
      refine am_G.aI rfl e38 ?_
      obtain ⟨hh39, e40, H⟩ := am_bd H
      refine am_G.sI rfl e40 ?_
      refine am_G.fr 2 (g := (76, [some (.ref v0), some (.int (v1 + (1 : Int32)))], [])) rfl ?_
      exact ih _ _ _ _ H
set_option maxHeartbeats 4000000 in
set_option maxRecDepth 100000 in
theorem lX10_vale_L105 {sc : Nat × (Nat → Int32)} : ∀ (n : Nat) (v0 : Nat) (v1 : Int32) (h : am_H) (h1 : am_H), fX10_vale_L105 n v0 v1 h = some h1 → am_G sc (am_Cl am_T am_N sc 65) (am_at kX10_vale) (fun t => t = ((151, [some (.ref v0), none], []), h1)) ((105, [some (.ref v0), some (.int v1)], []), h) := by
  intro n
  induction n with
  | zero => intro _ _ _ _ H; cases H
  | succ n ih =>
    intro v0 v1 h h1 H
    rw [fX10_vale_L105] at H
    refine am_G.fr 2 (g := (107, [some (.ref v0), some (.int v1)], [.ref v0, .int v1])) rfl ?_
    obtain ⟨codes43, e44, H⟩ := am_bd H
    refine am_G.gI rfl e44 ?_
    by_cases c45 : codes43 ≤ v1
    · rw [if_pos c45] at H
      refine am_G.br (tgt := 151) rfl rfl (if_pos c45) rfl ?_
      obtain rfl := Option.some.inj H
      refine am_G.fg [some (.ref v0), none] (by simp only [am_sub, and_self]) ?_
      exact am_G.nd rfl
    · rw [if_neg c45] at H
      refine am_G.br (tgt := 113) rfl rfl (if_neg c45) rfl ?_
      refine am_G.fr 1 (g := (114, [some (.ref v0), some (.int v1)], [.ref v0])) rfl ?_
      obtain ⟨op46, e47, H⟩ := am_bd H
      refine am_G.gR rfl e47 ?_
      refine am_G.fr 2 (g := (119, [some (.ref v0), some (.int v1)], [.ref v0, .int v1, .ref op46])) rfl ?_
      obtain ⟨op48, e49, H⟩ := am_bd H
      refine am_G.gR rfl e49 ?_
      refine am_G.fr 3 (g := (127, [some (.ref v0), some (.int v1)], [.int (((1100 : Int32)) + v1), .ref op48, .int v1, .ref op46])) rfl ?_
      obtain ⟨x50, e51, H⟩ := am_bd H
      refine am_G.aI rfl e51 ?_
      obtain ⟨hh52, e53, H⟩ := am_bd H
      refine am_G.sI rfl e53 ?_
      refine am_G.fr 1 (g := (130, [some (.ref v0), some (.int v1)], [.ref v0])) rfl ?_
      obtain ⟨arg54, e55, H⟩ := am_bd H
      refine am_G.gR rfl e55 ?_
      refine am_G.fr 2 (g := (135, [some (.ref v0), some (.int v1)], [.ref v0, .int v1, .ref arg54])) rfl ?_
      obtain ⟨arg56, e57, H⟩ := am_bd H
      refine am_G.gR rfl e57 ?_
      refine am_G.fr 3 (g := (143, [some (.ref v0), some (.int v1)], [.int (((1100 : Int32)) + v1), .ref arg56, .int v1, .ref arg54])) rfl ?_
      obtain ⟨x58, e59, H⟩ := am_bd H
      refine am_G.aI rfl e59 ?_
      obtain ⟨hh60, e61, H⟩ := am_bd H
      refine am_G.sI rfl e61 ?_
      refine am_G.fr 2 (g := (105, [some (.ref v0), some (.int (v1 + (1 : Int32)))], [])) rfl ?_
      exact ih _ _ _ _ H
set_option maxHeartbeats 4000000 in
set_option maxRecDepth 100000 in
theorem lX10_vale_L153 {sc : Nat × (Nat → Int32)} : ∀ (n : Nat) (v0 : Nat) (v1 : Int32) (h : am_H) (h1 : am_H), fX10_vale_L153 n v0 v1 h = some h1 → am_G sc (am_Cl am_T am_N sc 65) (am_at kX10_vale) (fun t => t = ((191, [some (.ref v0), none], []), h1)) ((153, [some (.ref v0), some (.int v1)], []), h) := by
  intro n
  induction n with
  | zero => intro _ _ _ _ H; cases H
  | succ n ih =>
    intro v0 v1 h h1 H
    rw [fX10_vale_L153] at H
    refine am_G.fr 2 (g := (155, [some (.ref v0), some (.int v1)], [.ref v0, .int v1])) rfl ?_
    obtain ⟨readMany64, e65, H⟩ := am_bd H
    refine am_G.gI rfl e65 ?_
    by_cases c66 : readMany64 ≤ v1
    · rw [if_pos c66] at H
      refine am_G.br (tgt := 191) rfl rfl (if_pos c66) rfl ?_
      obtain rfl := Option.some.inj H
      refine am_G.fg [some (.ref v0), none] (by simp only [am_sub, and_self]) ?_
      exact am_G.nd rfl
    · rw [if_neg c66] at H
      refine am_G.br (tgt := 161) rfl rfl (if_neg c66) rfl ?_
      refine am_G.fr 1 (g := (162, [some (.ref v0), some (.int v1)], [.ref v0])) rfl ?_
      obtain ⟨names67, e68, H⟩ := am_bd H
      refine am_G.gR rfl e68 ?_
      refine am_G.fr 2 (g := (167, [some (.ref v0), some (.int v1)], [.ref v0, .int v1, .ref names67])) rfl ?_
      obtain ⟨readNames69, e70, H⟩ := am_bd H
      refine am_G.gR rfl e70 ?_
      refine am_G.fr 1 (g := (171, [some (.ref v0), some (.int v1)], [.int v1, .ref readNames69, .int v1, .ref names67])) rfl ?_
      obtain ⟨x71, e72, H⟩ := am_bd H
      refine am_G.aL rfl e72 ?_
      obtain ⟨hh73, e74, H⟩ := am_bd H
      refine am_G.sL rfl e74 ?_
      refine am_G.fr 1 (g := (174, [some (.ref v0), some (.int v1)], [.ref v0])) rfl ?_
      obtain ⟨nameOf75, e76, H⟩ := am_bd H
      refine am_G.gR rfl e76 ?_
      refine am_G.fr 2 (g := (179, [some (.ref v0), some (.int v1)], [.ref v0, .int v1, .ref nameOf75])) rfl ?_
      obtain ⟨readNameOf77, e78, H⟩ := am_bd H
      refine am_G.gR rfl e78 ?_
      refine am_G.fr 1 (g := (183, [some (.ref v0), some (.int v1)], [.int v1, .ref readNameOf77, .int v1, .ref nameOf75])) rfl ?_
      obtain ⟨x79, e80, H⟩ := am_bd H
      refine am_G.aI rfl e80 ?_
      obtain ⟨hh81, e82, H⟩ := am_bd H
      refine am_G.sI rfl e82 ?_
      refine am_G.fr 2 (g := (153, [some (.ref v0), some (.int (v1 + (1 : Int32)))], [])) rfl ?_
      exact ih _ _ _ _ H
set_option maxHeartbeats 4000000 in
set_option maxRecDepth 100000 in
theorem lX10_vale {sc : Nat × (Nat → Int32)} {a0 : Nat} {h : am_H} {r : Int32} {h1 : am_H} (H : fX10_vale a0 h = some (r, h1)) : am_Cl am_T am_N sc 66 159 [.ref a0] h (some (.int r)) h1 := by
  unfold fX10_vale at H
  obtain ⟨_, hO, H⟩ := am_bd H
  obtain ⟨fs0, hO⟩ := am_isO_ok hO
  refine am_mk (q := qX10_vale) rfl (fun _ => ⟨_, _, _, _, _, rfl, hO, rfl, rfl⟩) (fun z => absurd z (by decide)) (Nat.le_of_ble_eq_true rfl) rfl ?_
  show am_G sc (am_Cl am_T am_N sc 65) (am_at kX10_vale) (fun t => t.2 = h1 ∧ am_ret 1 (am_at kX10_vale) t.1 = some (some (.int r))) ((0, [some (.ref a0), none], []), h)
  refine am_G.fr 2 (g := (2, [some (.ref a0), none], [.int ((0 : Int32)), .ref a0])) rfl ?_
  obtain ⟨hh1, e2, H⟩ := am_bd H
  refine am_G.pF rfl e2 ?_
  refine am_G.fr 1 (g := (6, [some (.ref a0), none], [.ref a0])) rfl ?_
  obtain ⟨hh4, e3, H⟩ := am_bd H
  refine am_G.cl [.ref a0] [] (am_Cl.mono (by decide) (lX10_cutAll e3)) rfl rfl rfl rfl (Nat.le_of_ble_eq_true rfl) ?_
  refine am_G.fr 2 (g := (11, [some (.ref a0), none], [.int ((0 : Int32)), .ref a0])) rfl ?_
  obtain ⟨hh5, e6, H⟩ := am_bd H
  refine am_G.pF rfl e6 ?_
  refine am_G.fr 2 (g := (16, [some (.ref a0), none], [.int ((0 : Int32)), .ref a0])) rfl ?_
  obtain ⟨hh7, e8, H⟩ := am_bd H
  refine am_G.pF rfl e8 ?_
  refine am_G.fr 2 (g := (21, [some (.ref a0), none], [.int ((0 : Int32)), .ref a0])) rfl ?_
  obtain ⟨hh9, e10, H⟩ := am_bd H
  refine am_G.pF rfl e10 ?_
  refine am_G.fr 2 (g := (27, [some (.ref a0), none], [.int ((50 : Int32)), .ref a0])) rfl ?_
  obtain ⟨hh12, e11, H⟩ := am_bd H
  refine am_G.cl [.ref a0, .int ((50 : Int32))] [] (am_Cl.mono (by decide) (lX10_standsAsAlways e11)) rfl rfl rfl rfl (Nat.le_of_ble_eq_true rfl) ?_
  obtain ⟨hh27, E28, H⟩ := am_bd H
  refine am_G.sq (lX10_vale_L30 _ _ _ _ E28) ?_
  clear E28
  refine am_G.fr 1 (g := (63, [some (.ref a0), none], [.ref a0])) rfl ?_
  obtain ⟨fault29, e30, H⟩ := am_bd H
  refine am_G.gI rfl e30 ?_
  by_cases c31 : fault29 ≤ 0
  · rw [if_pos c31] at H
    refine am_G.br (tgt := 74) rfl rfl (if_pos c31) rfl ?_
    refine am_G.fr 2 (g := (76, [some (.ref a0), some (.int ((0 : Int32)))], [])) rfl ?_
    obtain ⟨hh41, E42, H⟩ := am_bd H
    refine am_G.sq (lX10_vale_L76 _ _ _ _ _ E42) ?_
    clear E42
    refine am_G.fr 2 (g := (105, [some (.ref a0), some (.int ((0 : Int32)))], [])) rfl ?_
    obtain ⟨hh62, E63, H⟩ := am_bd H
    refine am_G.sq (lX10_vale_L105 _ _ _ _ _ E63) ?_
    clear E63
    refine am_G.fr 2 (g := (153, [some (.ref a0), some (.int ((0 : Int32)))], [])) rfl ?_
    obtain ⟨hh83, E84, H⟩ := am_bd H
    refine am_G.sq (lX10_vale_L153 _ _ _ _ _ E84) ?_
    clear E84
    refine am_G.fr 2 (g := (193, [some (.ref a0), none], [.ref a0, .ref a0])) rfl ?_
    obtain ⟨readMany85, e86, H⟩ := am_bd H
    refine am_G.gI rfl e86 ?_
    obtain ⟨hh87, e88, H⟩ := am_bd H
    refine am_G.pF rfl e88 ?_
    refine am_G.fr 1 (g := (200, [some (.ref a0), none], [.ref a0])) rfl ?_
    obtain ⟨hh90, e89, H⟩ := am_bd H
    refine am_G.cl [.ref a0] [] (am_Cl.mono (by decide) (lX10_begins e89)) rfl rfl rfl rfl (Nat.le_of_ble_eq_true rfl) ?_
    refine am_G.fr 1 (g := (204, [some (.ref a0), none], [.int ((0 : Int32))])) rfl ?_
    obtain ⟨rfl, rfl⟩ := am_inj2 H
    exact am_G.nd ⟨rfl, rfl⟩
  · rw [if_neg c31] at H
    refine am_G.br (tgt := 69) rfl rfl (if_neg c31) rfl ?_
    refine am_G.fr 1 (g := (70, [some (.ref a0), none], [.ref a0])) rfl ?_
    obtain ⟨fault91, e92, H⟩ := am_bd H
    refine am_G.gI rfl e92 ?_
    obtain ⟨rfl, rfl⟩ := am_inj2 H
    exact am_G.nd ⟨rfl, rfl⟩
def am_RcX10_laysFrom (sc : Nat × (Nat → Int32)) (d : Nat) (rc : Nat → Nat → Int32 → am_H → Option (Int32 × am_H)) : Prop := ∀ (a0 : Nat) (a1 : Int32) (h : am_H) (r : Int32) (h1 : am_H), (rc 0 a0 a1 h = some (r, h1) → am_Cl am_T am_N sc d 216 [.ref a0, .int a1] h (some (.int r)) h1)
def fX10_laysFrom_L34 (rc : Nat → Nat → Int32 → am_H → Option (Int32 × am_H)) : Nat → Nat → Int32 → Int32 → Int32 → am_H → Option (Int32 × am_H)
  | 0, _, _, _, _, _ => none
  | n + 1, v0, v1, v2, v3, h =>
    (fX10_houses v0 h).bind fun x10 =>
    if x10 ≤ v3 then
      some (v2, h)
    else
      (fX10_doesHold v0 ((987 : Int32)) v3 v1 h).bind fun x13 =>
      am_b2 (
        if x13 = 0 then
          some (v2, h)
        else
          (am_gR h v0 9 24).bind fun state17 =>
          (am_sI h 0 state17 (((993 : Int32)) + v1) v3).bind fun hh19 =>
          am_b2 (rc 0 v0 (v1 + ((1 : Int32))) hh19) fun x22 hh23 =>
          (am_gR hh23 v0 9 24).bind fun state24 =>
          (am_sI hh23 0 state24 (((993 : Int32)) + v1) ((-1 : Int32))).bind fun hh26 =>
          some (v2 + x22, hh26)) fun jv14 hh15 =>
      fX10_laysFrom_L34 rc n v0 v1 jv14 (v3 + (1 : Int32)) hh15
def gX10_laysFrom : Nat → Nat → Nat → Int32 → am_H → Option (Int32 × am_H)
  | 0, _, _, _, _ => none
  | n + 1, tag, a0, a1, h =>
    if tag = 0 then
      (am_isO h a0 9).bind fun _ =>
      (fX10_days a0 h).bind fun x2 =>
      if ¬ a1 = x2 then
        (am_gR h a0 9 24).bind fun state4 =>
        (am_aI h 0 state4 (((6 : Int32)) + a1)).bind fun x6 =>
        if 0 ≤ x6 then
          am_b2 (fX10_laysFrom_L34 (gX10_laysFrom n) 4000 a0 a1 ((0 : Int32)) ((0 : Int32)) h) fun lw29 hh30 =>
          some (lw29, hh30)
        else
          am_b2 (gX10_laysFrom n 0 a0 (a1 + ((1 : Int32))) h) fun x33 hh34 =>
          some (x33, hh34)
      else
        some ((1 : Int32), h)
    else none
set_option maxHeartbeats 4000000 in
set_option maxRecDepth 100000 in
theorem lX10_laysFrom_L34 {sc : Nat × (Nat → Int32)} {d : Nat} {rc : Nat → Nat → Int32 → am_H → Option (Int32 × am_H)} (hdb : 4 ≤ d) (hrc : am_RcX10_laysFrom sc d rc) : ∀ (n : Nat) (v0 : Nat) (v1 : Int32) (v2 : Int32) (v3 : Int32) (h : am_H) (w2 : Int32) (h1 : am_H), fX10_laysFrom_L34 rc n v0 v1 v2 v3 h = some (w2, h1) → am_G sc (am_Cl am_T am_N sc d) (am_at kX10_laysFrom) (fun t => t = ((92, [none, none, some (.int w2), none], []), h1)) ((34, [some (.ref v0), some (.int v1), some (.int v2), some (.int v3)], []), h) := by
  intro n
  induction n with
  | zero => intro _ _ _ _ _ _ _ H; cases H
  | succ n ih =>
    intro v0 v1 v2 v3 h w2 h1 H
    rw [fX10_laysFrom_L34] at H
    refine am_G.fr 2 (g := (36, [some (.ref v0), some (.int v1), some (.int v2), some (.int v3)], [.ref v0, .int v3])) rfl ?_
    obtain ⟨x10, e9, H⟩ := am_bd H
    refine am_G.cl [.ref v0] [.int v3] (am_Cl.mono (Nat.le_trans (show 1 ≤ 4 by decide) hdb) (lX10_houses e9)) rfl rfl rfl rfl (Nat.le_of_ble_eq_true rfl) ?_
    by_cases c11 : x10 ≤ v3
    · rw [if_pos c11] at H
      refine am_G.br (tgt := 92) rfl rfl (if_pos c11) rfl ?_
      obtain ⟨rfl, rfl⟩ := am_inj2 H
      refine am_G.fg [none, none, some (.int v2), none] (by simp only [am_sub, and_self]) ?_
      exact am_G.nd rfl
    · rw [if_neg c11] at H
      refine am_G.br (tgt := 42) rfl rfl (if_neg c11) rfl ?_
      refine am_G.fr 4 (g := (48, [some (.ref v0), some (.int v1), some (.int v2), some (.int v3)], [.int v1, .int v3, .int ((987 : Int32)), .ref v0])) rfl ?_
      obtain ⟨x13, e12, H⟩ := am_bd H
      refine am_G.cl [.ref v0, .int ((987 : Int32)), .int v3, .int v1] [] (am_Cl.mono (Nat.le_trans (show 4 ≤ 4 by decide) hdb) (lX10_doesHold e12)) rfl rfl rfl rfl (Nat.le_of_ble_eq_true rfl) ?_
      obtain ⟨jv14, hh15, E28, H⟩ := am_bd2 H
      refine am_G.sq (t := ((86, [some (.ref v0), some (.int v1), some (.int jv14), some (.int v3)], []), hh15)) ?_ ?_
      · clear H
        have H := E28
        clear E28
        by_cases c16 : x13 = 0
        · rw [if_pos c16] at H
          refine am_G.br (tgt := 86) rfl rfl (if_pos c16) rfl ?_
          obtain ⟨rfl, rfl⟩ := am_inj2 H
          exact am_G.nd rfl
        · rw [if_neg c16] at H
          refine am_G.br (tgt := 54) rfl rfl (if_neg c16) rfl ?_
          refine am_G.fr 1 (g := (55, [some (.ref v0), some (.int v1), some (.int v2), some (.int v3)], [.ref v0])) rfl ?_
          obtain ⟨state17, e18, H⟩ := am_bd H
          refine am_G.gR rfl e18 ?_
          refine am_G.fr 4 (g := (64, [some (.ref v0), some (.int v1), some (.int v2), some (.int v3)], [.int v3, .int (((993 : Int32)) + v1), .ref state17])) rfl ?_
          obtain ⟨hh19, e20, H⟩ := am_bd H
          refine am_G.sI rfl e20 ?_
          refine am_G.fr 5 (g := (70, [some (.ref v0), some (.int v1), some (.int v2), some (.int v3)], [.int (v1 + ((1 : Int32))), .ref v0, .int v2])) rfl ?_
          obtain ⟨x22, hh23, e21, H⟩ := am_bd2 H
          refine am_G.cl [.ref v0, .int (v1 + ((1 : Int32)))] [.int v2] ((hrc _ _ _ _ _) e21) rfl rfl rfl rfl (Nat.le_of_ble_eq_true rfl) ?_
          refine am_G.fr 3 (g := (76, [some (.ref v0), some (.int v1), some (.int (v2 + x22)), some (.int v3)], [.ref v0])) rfl ?_
          obtain ⟨state24, e25, H⟩ := am_bd H
          refine am_G.gR rfl e25 ?_
          refine am_G.fr 4 (g := (85, [some (.ref v0), some (.int v1), some (.int (v2 + x22)), some (.int v3)], [.int ((-1 : Int32)), .int (((993 : Int32)) + v1), .ref state24])) rfl ?_
          obtain ⟨hh26, e27, H⟩ := am_bd H
          refine am_G.sI rfl e27 ?_
          obtain ⟨rfl, rfl⟩ := am_inj2 H
          exact am_G.nd rfl
      · clear E28
        refine am_G.fr 2 (g := (34, [some (.ref v0), some (.int v1), some (.int jv14), some (.int (v3 + (1 : Int32)))], [])) rfl ?_
        exact ih _ _ _ _ _ _ _ H
set_option maxHeartbeats 8000000 in
set_option maxRecDepth 100000 in
theorem lgX10_laysFrom {sc : Nat × (Nat → Int32)} : ∀ n, am_RcX10_laysFrom sc (4 + n) (gX10_laysFrom n) := by
  intro n
  induction n with
  | zero => intro _ _ _ _ _; exact fun H => by cases H
  | succ n hrc =>
    have hdb : 4 ≤ 4 + n := Nat.le_add_right _ _
    intro a0 a1 h r h1
    intro H
    rw [gX10_laysFrom] at H
    rw [if_pos rfl] at H
    obtain ⟨_, hO, H⟩ := am_bd H
    obtain ⟨fs0, hO⟩ := am_isO_ok hO
    refine am_mk (d := 4 + n) (q := qX10_laysFrom) rfl (fun _ => ⟨_, _, _, _, _, rfl, hO, rfl, rfl⟩) (fun z => absurd z (by decide)) (Nat.le_of_ble_eq_true rfl) rfl ?_
    show am_G sc (am_Cl am_T am_N sc (4 + n)) (am_at kX10_laysFrom) (fun t => t.2 = h1 ∧ am_ret 1 (am_at kX10_laysFrom) t.1 = some (some (.int r))) ((0, [some (.ref a0), some (.int a1), none, none], []), h)
    refine am_G.fr 2 (g := (2, [some (.ref a0), some (.int a1), none, none], [.ref a0, .int a1])) rfl ?_
    obtain ⟨x2, e1, H⟩ := am_bd H
    refine am_G.cl [.ref a0] [.int a1] (am_Cl.mono (Nat.le_trans (show 1 ≤ 4 by decide) hdb) (lX10_days e1)) rfl rfl rfl rfl (Nat.le_of_ble_eq_true rfl) ?_
    by_cases c3 : ¬ a1 = x2
    · rw [if_pos c3] at H
      refine am_G.br (tgt := 10) rfl rfl (if_pos c3) rfl ?_
      refine am_G.fr 1 (g := (11, [some (.ref a0), some (.int a1), none, none], [.ref a0])) rfl ?_
      obtain ⟨state4, e5, H⟩ := am_bd H
      refine am_G.gR rfl e5 ?_
      refine am_G.fr 3 (g := (18, [some (.ref a0), some (.int a1), none, none], [.int (((6 : Int32)) + a1), .ref state4])) rfl ?_
      obtain ⟨x6, e7, H⟩ := am_bd H
      refine am_G.aI rfl e7 ?_
      by_cases c8 : 0 ≤ x6
      · rw [if_pos c8] at H
        refine am_G.br (tgt := 30) rfl rfl (if_pos c8) rfl ?_
        refine am_G.fr 4 (g := (34, [some (.ref a0), some (.int a1), some (.int ((0 : Int32))), some (.int ((0 : Int32)))], [])) rfl ?_
        obtain ⟨lw29, hh30, E31, H⟩ := am_bd2 H
        refine am_G.sq (lX10_laysFrom_L34 hdb hrc _ _ _ _ _ _ _ _ E31) ?_
        clear E31
        refine am_G.fr 1 (g := (93, [none, none, some (.int lw29), none], [.int lw29])) rfl ?_
        obtain ⟨rfl, rfl⟩ := am_inj2 H
        exact am_G.nd ⟨rfl, rfl⟩
      · rw [if_neg c8] at H
        refine am_G.br (tgt := 22) rfl rfl (if_neg c8) rfl ?_
        refine am_G.fr 4 (g := (26, [some (.ref a0), some (.int a1), none, none], [.int (a1 + ((1 : Int32))), .ref a0])) rfl ?_
        obtain ⟨x33, hh34, e32, H⟩ := am_bd2 H
        refine am_G.cl [.ref a0, .int (a1 + ((1 : Int32)))] [] ((hrc _ _ _ _ _) e32) rfl rfl rfl rfl (Nat.le_of_ble_eq_true rfl) ?_
        obtain ⟨rfl, rfl⟩ := am_inj2 H
        exact am_G.nd ⟨rfl, rfl⟩
    · rw [if_neg c3] at H
      refine am_G.br (tgt := 8) rfl rfl (if_neg c3) rfl ?_
      refine am_G.fr 1 (g := (9, [some (.ref a0), some (.int a1), none, none], [.int ((1 : Int32))])) rfl ?_
      obtain ⟨rfl, rfl⟩ := am_inj2 H
      exact am_G.nd ⟨rfl, rfl⟩
def fX10_laysFrom (n : Nat) (a0 : Nat) (a1 : Int32) (h : am_H) : Option (Int32 × am_H) := gX10_laysFrom n 0 a0 a1 h
theorem lX10_laysFrom {sc : Nat × (Nat → Int32)} {n : Nat} {a0 : Nat} {a1 : Int32} {h : am_H} {r : Int32} {h1 : am_H} (H : fX10_laysFrom n a0 a1 h = some (r, h1)) : am_Cl am_T am_N sc (4 + n) 216 [.ref a0, .int a1] h (some (.int r)) h1 := (lgX10_laysFrom n a0 a1 h r h1) H
def fX10_laying_L11 : Nat → Nat → Int32 → am_H → Option (am_H)
  | 0, _, _, _ => none
  | n + 1, v0, v1, h =>
    if ((6 : Int32)) ≤ v1 then
      some h
    else
      (am_gR h v0 9 24).bind fun state6 =>
      (am_sI h 0 state6 (((993 : Int32)) + v1) ((-1 : Int32))).bind fun hh8 =>
      fX10_laying_L11 n v0 (v1 + (1 : Int32)) hh8
def fX10_laying (a0 : Nat) (h : am_H) : Option (Int32 × am_H) :=
  (am_isO h a0 9).bind fun _ =>
  (am_pF h a0 9 0 (.int ((0 : Int32)))).bind fun hh1 =>
  (fX10_triesNow a0 hh1).bind fun hh4 =>
  Option.bind (fX10_laying_L11 4000 a0 ((0 : Int32)) hh4) fun hh10 =>
  am_b2 (fX10_laysFrom 60 a0 ((0 : Int32)) hh10) fun x13 hh14 =>
  some (x13, hh14)
set_option maxHeartbeats 4000000 in
set_option maxRecDepth 100000 in
theorem lX10_laying_L11 {sc : Nat × (Nat → Int32)} : ∀ (n : Nat) (v0 : Nat) (v1 : Int32) (h : am_H) (h1 : am_H), fX10_laying_L11 n v0 v1 h = some h1 → am_G sc (am_Cl am_T am_N sc 65) (am_at kX10_laying) (fun t => t = ((34, [some (.ref v0), none], []), h1)) ((11, [some (.ref v0), some (.int v1)], []), h) := by
  intro n
  induction n with
  | zero => intro _ _ _ _ H; cases H
  | succ n ih =>
    intro v0 v1 h h1 H
    rw [fX10_laying_L11] at H
    refine am_G.fr 2 (g := (14, [some (.ref v0), some (.int v1)], [.int ((6 : Int32)), .int v1])) rfl ?_
    by_cases c5 : ((6 : Int32)) ≤ v1
    · rw [if_pos c5] at H
      refine am_G.br (tgt := 34) rfl rfl (if_pos c5) rfl ?_
      obtain rfl := Option.some.inj H
      refine am_G.fg [some (.ref v0), none] (by simp only [am_sub, and_self]) ?_
      exact am_G.nd rfl
    · rw [if_neg c5] at H
      refine am_G.br (tgt := 17) rfl rfl (if_neg c5) rfl ?_
      refine am_G.fr 1 (g := (18, [some (.ref v0), some (.int v1)], [.ref v0])) rfl ?_
      obtain ⟨state6, e7, H⟩ := am_bd H
      refine am_G.gR rfl e7 ?_
      refine am_G.fr 4 (g := (27, [some (.ref v0), some (.int v1)], [.int ((-1 : Int32)), .int (((993 : Int32)) + v1), .ref state6])) rfl ?_
      obtain ⟨hh8, e9, H⟩ := am_bd H
      refine am_G.sI rfl e9 ?_
      refine am_G.fr 2 (g := (11, [some (.ref v0), some (.int (v1 + (1 : Int32)))], [])) rfl ?_
      exact ih _ _ _ _ H
set_option maxHeartbeats 4000000 in
set_option maxRecDepth 100000 in
theorem lX10_laying {sc : Nat × (Nat → Int32)} {a0 : Nat} {h : am_H} {r : Int32} {h1 : am_H} (H : fX10_laying a0 h = some (r, h1)) : am_Cl am_T am_N sc 66 217 [.ref a0] h (some (.int r)) h1 := by
  unfold fX10_laying at H
  obtain ⟨_, hO, H⟩ := am_bd H
  obtain ⟨fs0, hO⟩ := am_isO_ok hO
  refine am_mk (q := qX10_laying) rfl (fun _ => ⟨_, _, _, _, _, rfl, hO, rfl, rfl⟩) (fun z => absurd z (by decide)) (Nat.le_of_ble_eq_true rfl) rfl ?_
  show am_G sc (am_Cl am_T am_N sc 65) (am_at kX10_laying) (fun t => t.2 = h1 ∧ am_ret 1 (am_at kX10_laying) t.1 = some (some (.int r))) ((0, [some (.ref a0), none], []), h)
  refine am_G.fr 2 (g := (2, [some (.ref a0), none], [.int ((0 : Int32)), .ref a0])) rfl ?_
  obtain ⟨hh1, e2, H⟩ := am_bd H
  refine am_G.pF rfl e2 ?_
  refine am_G.fr 1 (g := (6, [some (.ref a0), none], [.ref a0])) rfl ?_
  obtain ⟨hh4, e3, H⟩ := am_bd H
  refine am_G.cl [.ref a0] [] (am_Cl.mono (by decide) (lX10_triesNow e3)) rfl rfl rfl rfl (Nat.le_of_ble_eq_true rfl) ?_
  refine am_G.fr 2 (g := (11, [some (.ref a0), some (.int ((0 : Int32)))], [])) rfl ?_
  obtain ⟨hh10, E11, H⟩ := am_bd H
  refine am_G.sq (lX10_laying_L11 _ _ _ _ _ E11) ?_
  clear E11
  refine am_G.fr 2 (g := (36, [some (.ref a0), none], [.int ((0 : Int32)), .ref a0])) rfl ?_
  obtain ⟨x13, hh14, e12, H⟩ := am_bd2 H
  refine am_G.cl [.ref a0, .int ((0 : Int32))] [] (am_Cl.mono (by decide) (lX10_laysFrom e12)) rfl rfl rfl rfl (Nat.le_of_ble_eq_true rfl) ?_
  obtain ⟨rfl, rfl⟩ := am_inj2 H
  exact am_G.nd ⟨rfl, rfl⟩
def am_RcX10_isApart (sc : Nat × (Nat → Int32)) (d : Nat) (rc : Nat → Nat → Int32 → Int32 → am_H → Option (Int32 × am_H)) : Prop := ∀ (a0 : Nat) (a1 : Int32) (a2 : Int32) (h : am_H) (r : Int32) (h1 : am_H), (rc 0 a0 a1 a2 h = some (r, h1) → am_Cl am_T am_N sc d 218 [.ref a0, .int a1, .int a2] h (some (.int r)) h1)
def fX10_isApart_L31 (rc : Nat → Nat → Int32 → Int32 → am_H → Option (Int32 × am_H)) : Nat → Nat → Int32 → Int32 → Int32 → Int32 → Int32 → am_H → Option (Int32)
  | 0, _, _, _, _, _, _, _ => none
  | n + 1, v0, v1, v2, v4, v5, v6, h =>
    if v1 ≤ v6 then
      some v5
    else
      Option.bind (
        if v5 = 0 then
          some ((0 : Int32))
        else
          (am_gR h v0 9 30).bind fun apart9 =>
          (am_aI h 0 apart9 v6).bind fun x11 =>
          if ¬ x11 = v4 then
            some ((1 : Int32))
          else
            (fX10_dayOf v0 v1 ((4 : Int32)) h).bind fun x15 =>
            if ¬ ((x15 >>> (v6 &&& 31)) &&& ((1 : Int32))) = 0 then
              some ((0 : Int32))
            else
              some ((1 : Int32))) fun js7 =>
      fX10_isApart_L31 rc n v0 v1 v2 v4 js7 (v6 + (1 : Int32)) h
def fX10_isApart_L15 (rc : Nat → Nat → Int32 → Int32 → am_H → Option (Int32 × am_H)) : Nat → Nat → Int32 → Int32 → Int32 → Int32 → am_H → Option (Int32 × am_H)
  | 0, _, _, _, _, _, _ => none
  | n + 1, v0, v1, v2, v3, v4, h =>
    if v2 ≤ v4 then
      some (v3, h)
    else
      if ¬ v3 = 0 then
        some (v3, h)
      else
        Option.bind (fX10_isApart_L31 (rc) 4000 v0 v1 v2 v4 ((1 : Int32)) ((0 : Int32)) h) fun lw18 =>
        (am_gR h v0 9 30).bind fun apart20 =>
        (am_sI h 0 apart20 v1 v4).bind fun hh22 =>
        am_b2 (
          if lw18 = 0 then
            some ((0 : Int32), hh22)
          else
            am_b2 (rc 0 v0 (v1 + ((1 : Int32))) v2 hh22) fun x28 hh29 =>
            if x28 = 0 then
              some ((0 : Int32), hh29)
            else
              some ((1 : Int32), hh29)) fun js24 hh25 =>
        fX10_isApart_L15 rc n v0 v1 v2 js24 (v4 + (1 : Int32)) hh25
def gX10_isApart : Nat → Nat → Nat → Int32 → Int32 → am_H → Option (Int32 × am_H)
  | 0, _, _, _, _, _ => none
  | n + 1, tag, a0, a1, a2, h =>
    if tag = 0 then
      (am_isO h a0 9).bind fun _ =>
      (fX10_days a0 h).bind fun x2 =>
      if ¬ a1 = x2 then
        am_b2 (fX10_isApart_L15 (gX10_isApart n) 4000 a0 a1 a2 ((0 : Int32)) ((0 : Int32)) h) fun lw32 hh33 =>
        (am_z01 lw32).bind fun b35 =>
        some (b35, hh33)
      else
        some ((1 : Int32), h)
    else none
set_option maxHeartbeats 4000000 in
set_option maxRecDepth 100000 in
theorem lX10_isApart_L31 {sc : Nat × (Nat → Int32)} {d : Nat} {rc : Nat → Nat → Int32 → Int32 → am_H → Option (Int32 × am_H)} (hdb : 1 ≤ d) (hrc : am_RcX10_isApart sc d rc) : ∀ (n : Nat) (v0 : Nat) (v1 : Int32) (v2 : Int32) (v4 : Int32) (v5 : Int32) (v6 : Int32) (h : am_H) (w5 : Int32), fX10_isApart_L31 rc n v0 v1 v2 v4 v5 v6 h = some w5 → am_G sc (am_Cl am_T am_N sc d) (am_at kX10_isApart) (fun t => t = ((81, [some (.ref v0), some (.int v1), some (.int v2), none, some (.int v4), some (.int w5), none], []), h)) ((31, [some (.ref v0), some (.int v1), some (.int v2), none, some (.int v4), some (.int v5), some (.int v6)], []), h) := by
  intro n
  induction n with
  | zero => intro _ _ _ _ _ _ _ _ H; cases H
  | succ n ih =>
    intro v0 v1 v2 v4 v5 v6 h w5 H
    rw [fX10_isApart_L31] at H
    refine am_G.fr 2 (g := (34, [some (.ref v0), some (.int v1), some (.int v2), none, some (.int v4), some (.int v5), some (.int v6)], [.int v1, .int v6])) rfl ?_
    by_cases c6 : v1 ≤ v6
    · rw [if_pos c6] at H
      refine am_G.br (tgt := 81) rfl rfl (if_pos c6) rfl ?_
      obtain rfl := Option.some.inj H
      refine am_G.fg [some (.ref v0), some (.int v1), some (.int v2), none, some (.int v4), some (.int v5), none] (by simp only [am_sub, and_self]) ?_
      exact am_G.nd rfl
    · rw [if_neg c6] at H
      refine am_G.br (tgt := 37) rfl rfl (if_neg c6) rfl ?_
      refine am_G.fr 1 (g := (39, [some (.ref v0), some (.int v1), some (.int v2), none, some (.int v4), some (.int v5), some (.int v6)], [.int v5])) rfl ?_
      obtain ⟨js7, E17, H⟩ := am_bd H
      refine am_G.sq (t := ((73, [some (.ref v0), some (.int v1), some (.int v2), none, some (.int v4), none, some (.int v6)], [.int js7]), h)) ?_ ?_
      · clear H
        have H := E17
        clear E17
        by_cases c8 : v5 = 0
        · rw [if_pos c8] at H
          refine am_G.br (tgt := 72) rfl rfl (if_pos c8) rfl ?_
          refine am_G.fr 1 (g := (73, [some (.ref v0), some (.int v1), some (.int v2), none, some (.int v4), some (.int v5), some (.int v6)], [.int ((0 : Int32))])) rfl ?_
          obtain rfl := Option.some.inj H
          refine am_G.fg [some (.ref v0), some (.int v1), some (.int v2), none, some (.int v4), none, some (.int v6)] (by simp only [am_sub, and_self]) ?_
          exact am_G.nd rfl
        · rw [if_neg c8] at H
          refine am_G.br (tgt := 42) rfl rfl (if_neg c8) rfl ?_
          refine am_G.fr 1 (g := (43, [some (.ref v0), some (.int v1), some (.int v2), none, some (.int v4), some (.int v5), some (.int v6)], [.ref v0])) rfl ?_
          obtain ⟨apart9, e10, H⟩ := am_bd H
          refine am_G.gR rfl e10 ?_
          refine am_G.fr 1 (g := (48, [some (.ref v0), some (.int v1), some (.int v2), none, some (.int v4), some (.int v5), some (.int v6)], [.int v6, .ref apart9])) rfl ?_
          obtain ⟨x11, e12, H⟩ := am_bd H
          refine am_G.aI rfl e12 ?_
          refine am_G.fr 1 (g := (51, [some (.ref v0), some (.int v1), some (.int v2), none, some (.int v4), some (.int v5), some (.int v6)], [.int v4, .int x11])) rfl ?_
          by_cases c13 : ¬ x11 = v4
          · rw [if_pos c13] at H
            refine am_G.br (tgt := 68) rfl rfl (if_pos c13) rfl ?_
            refine am_G.fr 2 (g := (73, [some (.ref v0), some (.int v1), some (.int v2), none, some (.int v4), some (.int v5), some (.int v6)], [.int ((1 : Int32))])) rfl ?_
            obtain rfl := Option.some.inj H
            refine am_G.fg [some (.ref v0), some (.int v1), some (.int v2), none, some (.int v4), none, some (.int v6)] (by simp only [am_sub, and_self]) ?_
            exact am_G.nd rfl
          · rw [if_neg c13] at H
            refine am_G.br (tgt := 54) rfl rfl (if_neg c13) rfl ?_
            refine am_G.fr 3 (g := (57, [some (.ref v0), some (.int v1), some (.int v2), none, some (.int v4), some (.int v5), some (.int v6)], [.int ((4 : Int32)), .int v1, .ref v0])) rfl ?_
            obtain ⟨x15, e14, H⟩ := am_bd H
            refine am_G.cl [.ref v0, .int v1, .int ((4 : Int32))] [] (am_Cl.mono (Nat.le_trans (show 1 ≤ 1 by decide) hdb) (lX10_dayOf e14)) rfl rfl rfl rfl (Nat.le_of_ble_eq_true rfl) ?_
            refine am_G.fr 4 (g := (65, [some (.ref v0), some (.int v1), some (.int v2), none, some (.int v4), some (.int v5), some (.int v6)], [.int ((x15 >>> (v6 &&& 31)) &&& ((1 : Int32)))])) rfl ?_
            by_cases c16 : ¬ ((x15 >>> (v6 &&& 31)) &&& ((1 : Int32))) = 0
            · rw [if_pos c16] at H
              refine am_G.br (tgt := 72) rfl rfl (if_pos c16) rfl ?_
              refine am_G.fr 1 (g := (73, [some (.ref v0), some (.int v1), some (.int v2), none, some (.int v4), some (.int v5), some (.int v6)], [.int ((0 : Int32))])) rfl ?_
              obtain rfl := Option.some.inj H
              refine am_G.fg [some (.ref v0), some (.int v1), some (.int v2), none, some (.int v4), none, some (.int v6)] (by simp only [am_sub, and_self]) ?_
              exact am_G.nd rfl
            · rw [if_neg c16] at H
              refine am_G.br (tgt := 68) rfl rfl (if_neg c16) rfl ?_
              refine am_G.fr 2 (g := (73, [some (.ref v0), some (.int v1), some (.int v2), none, some (.int v4), some (.int v5), some (.int v6)], [.int ((1 : Int32))])) rfl ?_
              obtain rfl := Option.some.inj H
              refine am_G.fg [some (.ref v0), some (.int v1), some (.int v2), none, some (.int v4), none, some (.int v6)] (by simp only [am_sub, and_self]) ?_
              exact am_G.nd rfl
      · clear E17
        refine am_G.fr 3 (g := (31, [some (.ref v0), some (.int v1), some (.int v2), none, some (.int v4), some (.int js7), some (.int (v6 + (1 : Int32)))], [])) rfl ?_
        exact ih _ _ _ _ _ _ _ _ H
set_option maxHeartbeats 4000000 in
set_option maxRecDepth 100000 in
theorem lX10_isApart_L15 {sc : Nat × (Nat → Int32)} {d : Nat} {rc : Nat → Nat → Int32 → Int32 → am_H → Option (Int32 × am_H)} (hdb : 1 ≤ d) (hrc : am_RcX10_isApart sc d rc) : ∀ (n : Nat) (v0 : Nat) (v1 : Int32) (v2 : Int32) (v3 : Int32) (v4 : Int32) (h : am_H) (w3 : Int32) (h1 : am_H), fX10_isApart_L15 rc n v0 v1 v2 v3 v4 h = some (w3, h1) → am_G sc (am_Cl am_T am_N sc d) (am_at kX10_isApart) (fun t => t = ((117, [none, none, none, some (.int w3), none, none, none], []), h1)) ((15, [some (.ref v0), some (.int v1), some (.int v2), some (.int v3), some (.int v4), none, none], []), h) := by
  intro n
  induction n with
  | zero => intro _ _ _ _ _ _ _ _ H; cases H
  | succ n ih =>
    intro v0 v1 v2 v3 v4 h w3 h1 H
    rw [fX10_isApart_L15] at H
    refine am_G.fr 2 (g := (18, [some (.ref v0), some (.int v1), some (.int v2), some (.int v3), some (.int v4), none, none], [.int v2, .int v4])) rfl ?_
    by_cases c4 : v2 ≤ v4
    · rw [if_pos c4] at H
      refine am_G.br (tgt := 117) rfl rfl (if_pos c4) rfl ?_
      obtain ⟨rfl, rfl⟩ := am_inj2 H
      refine am_G.fg [none, none, none, some (.int v3), none, none, none] (by simp only [am_sub, and_self]) ?_
      exact am_G.nd rfl
    · rw [if_neg c4] at H
      refine am_G.br (tgt := 21) rfl rfl (if_neg c4) rfl ?_
      refine am_G.fr 1 (g := (22, [some (.ref v0), some (.int v1), some (.int v2), some (.int v3), some (.int v4), none, none], [.int v3])) rfl ?_
      by_cases c5 : ¬ v3 = 0
      · rw [if_pos c5] at H
        refine am_G.br (tgt := 117) rfl rfl (if_pos c5) rfl ?_
        obtain ⟨rfl, rfl⟩ := am_inj2 H
        refine am_G.fg [none, none, none, some (.int v3), none, none, none] (by simp only [am_sub, and_self]) ?_
        exact am_G.nd rfl
      · rw [if_neg c5] at H
        refine am_G.br (tgt := 25) rfl rfl (if_neg c5) rfl ?_
        refine am_G.fr 4 (g := (31, [some (.ref v0), some (.int v1), some (.int v2), some (.int v3), some (.int v4), some (.int ((1 : Int32))), some (.int ((0 : Int32)))], [])) rfl ?_
        obtain ⟨lw18, E19, H⟩ := am_bd H
        refine am_G.fg [some (.ref v0), some (.int v1), some (.int v2), none, some (.int v4), some (.int ((1 : Int32))), some (.int ((0 : Int32)))] (by simp only [am_sub, and_self]) ?_
        refine am_G.sq (lX10_isApart_L31 hdb hrc _ _ _ _ _ _ _ _ _ E19) ?_
        clear E19
        refine am_G.fr 1 (g := (82, [some (.ref v0), some (.int v1), some (.int v2), none, some (.int v4), some (.int lw18), none], [.ref v0])) rfl ?_
        obtain ⟨apart20, e21, H⟩ := am_bd H
        refine am_G.gR rfl e21 ?_
        refine am_G.fr 2 (g := (88, [some (.ref v0), some (.int v1), some (.int v2), none, some (.int v4), some (.int lw18), none], [.int v4, .int v1, .ref apart20])) rfl ?_
        obtain ⟨hh22, e23, H⟩ := am_bd H
        refine am_G.sI rfl e23 ?_
        refine am_G.fr 1 (g := (91, [some (.ref v0), some (.int v1), some (.int v2), none, some (.int v4), some (.int lw18), none], [.int lw18])) rfl ?_
        obtain ⟨js24, hh25, E31, H⟩ := am_bd2 H
        refine am_G.sq (t := ((110, [some (.ref v0), some (.int v1), some (.int v2), none, some (.int v4), none, none], [.int js24]), hh25)) ?_ ?_
        · clear H
          have H := E31
          clear E31
          by_cases c26 : lw18 = 0
          · rw [if_pos c26] at H
            refine am_G.br (tgt := 109) rfl rfl (if_pos c26) rfl ?_
            refine am_G.fr 1 (g := (110, [some (.ref v0), some (.int v1), some (.int v2), none, some (.int v4), some (.int lw18), none], [.int ((0 : Int32))])) rfl ?_
            obtain ⟨rfl, rfl⟩ := am_inj2 H
            refine am_G.fg [some (.ref v0), some (.int v1), some (.int v2), none, some (.int v4), none, none] (by simp only [am_sub, and_self]) ?_
            exact am_G.nd rfl
          · rw [if_neg c26] at H
            refine am_G.br (tgt := 94) rfl rfl (if_neg c26) rfl ?_
            refine am_G.fr 5 (g := (99, [some (.ref v0), some (.int v1), some (.int v2), none, some (.int v4), some (.int lw18), none], [.int v2, .int (v1 + ((1 : Int32))), .ref v0])) rfl ?_
            obtain ⟨x28, hh29, e27, H⟩ := am_bd2 H
            refine am_G.cl [.ref v0, .int (v1 + ((1 : Int32))), .int v2] [] ((hrc _ _ _ _ _ _) e27) rfl rfl rfl rfl (Nat.le_of_ble_eq_true rfl) ?_
            by_cases c30 : x28 = 0
            · rw [if_pos c30] at H
              refine am_G.br (tgt := 109) rfl rfl (if_pos c30) rfl ?_
              refine am_G.fr 1 (g := (110, [some (.ref v0), some (.int v1), some (.int v2), none, some (.int v4), some (.int lw18), none], [.int ((0 : Int32))])) rfl ?_
              obtain ⟨rfl, rfl⟩ := am_inj2 H
              refine am_G.fg [some (.ref v0), some (.int v1), some (.int v2), none, some (.int v4), none, none] (by simp only [am_sub, and_self]) ?_
              exact am_G.nd rfl
            · rw [if_neg c30] at H
              refine am_G.br (tgt := 105) rfl rfl (if_neg c30) rfl ?_
              refine am_G.fr 2 (g := (110, [some (.ref v0), some (.int v1), some (.int v2), none, some (.int v4), some (.int lw18), none], [.int ((1 : Int32))])) rfl ?_
              obtain ⟨rfl, rfl⟩ := am_inj2 H
              refine am_G.fg [some (.ref v0), some (.int v1), some (.int v2), none, some (.int v4), none, none] (by simp only [am_sub, and_self]) ?_
              exact am_G.nd rfl
        · clear E31
          refine am_G.fr 3 (g := (15, [some (.ref v0), some (.int v1), some (.int v2), some (.int js24), some (.int (v4 + (1 : Int32))), none, none], [])) rfl ?_
          exact ih _ _ _ _ _ _ _ _ H
set_option maxHeartbeats 8000000 in
set_option maxRecDepth 100000 in
theorem lgX10_isApart {sc : Nat × (Nat → Int32)} : ∀ n, am_RcX10_isApart sc (1 + n) (gX10_isApart n) := by
  intro n
  induction n with
  | zero => intro _ _ _ _ _ _; exact fun H => by cases H
  | succ n hrc =>
    have hdb : 1 ≤ 1 + n := Nat.le_add_right _ _
    intro a0 a1 a2 h r h1
    intro H
    rw [gX10_isApart] at H
    rw [if_pos rfl] at H
    obtain ⟨_, hO, H⟩ := am_bd H
    obtain ⟨fs0, hO⟩ := am_isO_ok hO
    refine am_mk (d := 1 + n) (q := qX10_isApart) rfl (fun _ => ⟨_, _, _, _, _, rfl, hO, rfl, rfl⟩) (fun z => absurd z (by decide)) (Nat.le_of_ble_eq_true rfl) rfl ?_
    show am_G sc (am_Cl am_T am_N sc (1 + n)) (am_at kX10_isApart) (fun t => t.2 = h1 ∧ am_ret 2 (am_at kX10_isApart) t.1 = some (some (.int r))) ((0, [some (.ref a0), some (.int a1), some (.int a2), none, none, none, none], []), h)
    refine am_G.fr 2 (g := (2, [some (.ref a0), some (.int a1), some (.int a2), none, none, none, none], [.ref a0, .int a1])) rfl ?_
    obtain ⟨x2, e1, H⟩ := am_bd H
    refine am_G.cl [.ref a0] [.int a1] (am_Cl.mono (Nat.le_trans (show 1 ≤ 1 by decide) hdb) (lX10_days e1)) rfl rfl rfl rfl (Nat.le_of_ble_eq_true rfl) ?_
    by_cases c3 : ¬ a1 = x2
    · rw [if_pos c3] at H
      refine am_G.br (tgt := 10) rfl rfl (if_pos c3) rfl ?_
      refine am_G.fr 4 (g := (15, [some (.ref a0), some (.int a1), some (.int a2), some (.int ((0 : Int32))), some (.int ((0 : Int32))), none, none], [])) rfl ?_
      obtain ⟨lw32, hh33, E34, H⟩ := am_bd2 H
      refine am_G.sq (lX10_isApart_L15 hdb hrc _ _ _ _ _ _ _ _ _ E34) ?_
      clear E34
      refine am_G.fr 1 (g := (118, [none, none, none, some (.int lw32), none, none, none], [.int lw32])) rfl ?_
      obtain ⟨b35, e36, H⟩ := am_bd H
      obtain ⟨rfl, rfl⟩ := am_inj2 H
      exact am_G.nd ⟨rfl, am_ret2 rfl e36⟩
    · rw [if_neg c3] at H
      refine am_G.br (tgt := 8) rfl rfl (if_neg c3) rfl ?_
      refine am_G.fr 1 (g := (9, [some (.ref a0), some (.int a1), some (.int a2), none, none, none, none], [.int ((1 : Int32))])) rfl ?_
      obtain ⟨rfl, rfl⟩ := am_inj2 H
      exact am_G.nd ⟨rfl, am_ret2 rfl (if_pos (by decide))⟩
def fX10_isApart (n : Nat) (a0 : Nat) (a1 : Int32) (a2 : Int32) (h : am_H) : Option (Int32 × am_H) := gX10_isApart n 0 a0 a1 a2 h
theorem lX10_isApart {sc : Nat × (Nat → Int32)} {n : Nat} {a0 : Nat} {a1 : Int32} {a2 : Int32} {h : am_H} {r : Int32} {h1 : am_H} (H : fX10_isApart n a0 a1 a2 h = some (r, h1)) : am_Cl am_T am_N sc (1 + n) 218 [.ref a0, .int a1, .int a2] h (some (.int r)) h1 := (lgX10_isApart n a0 a1 a2 h r h1) H
def fX10_apart_L7 : Nat → Nat → Int32 → am_H → Option (Int32 × am_H)
  | 0, _, _, _ => none
  | n + 1, v0, v1, h =>
    am_b2 (fX10_isApart 60 v0 ((0 : Int32)) v1 h) fun x4 hh5 =>
    if ¬ x4 = 0 then
      some (v1, hh5)
    else
      fX10_apart_L7 n v0 (v1 + (1 : Int32)) hh5
def fX10_apart (a0 : Nat) (h : am_H) : Option (Int32 × am_H) :=
  (am_isO h a0 9).bind fun _ =>
  (am_pF h a0 9 0 (.int ((0 : Int32)))).bind fun hh1 =>
  am_b2 (fX10_apart_L7 4000 a0 ((0 : Int32)) hh1) fun lw7 hh8 =>
  some (lw7, hh8)
set_option maxHeartbeats 4000000 in
set_option maxRecDepth 100000 in
theorem lX10_apart_L7 {sc : Nat × (Nat → Int32)} : ∀ (n : Nat) (v0 : Nat) (v1 : Int32) (h : am_H) (w1 : Int32) (h1 : am_H), fX10_apart_L7 n v0 v1 h = some (w1, h1) → am_G sc (am_Cl am_T am_N sc 62) (am_at kX10_apart) (fun t => t = ((22, [none, some (.int w1)], []), h1)) ((7, [some (.ref v0), some (.int v1)], []), h) := by
  intro n
  induction n with
  | zero => intro _ _ _ _ _ H; cases H
  | succ n ih =>
    intro v0 v1 h w1 h1 H
    rw [fX10_apart_L7] at H
    refine am_G.fr 3 (g := (10, [some (.ref v0), some (.int v1)], [.int v1, .int ((0 : Int32)), .ref v0])) rfl ?_
    obtain ⟨x4, hh5, e3, H⟩ := am_bd2 H
    refine am_G.cl [.ref v0, .int ((0 : Int32)), .int v1] [] (am_Cl.mono (by decide) (lX10_isApart e3)) rfl rfl rfl rfl (Nat.le_of_ble_eq_true rfl) ?_
    by_cases c6 : ¬ x4 = 0
    · rw [if_pos c6] at H
      refine am_G.br (tgt := 22) rfl rfl (if_pos c6) rfl ?_
      obtain ⟨rfl, rfl⟩ := am_inj2 H
      refine am_G.fg [none, some (.int v1)] (by simp only [am_sub, and_self]) ?_
      exact am_G.nd rfl
    · rw [if_neg c6] at H
      refine am_G.br (tgt := 16) rfl rfl (if_neg c6) rfl ?_
      refine am_G.fr 2 (g := (7, [some (.ref v0), some (.int (v1 + (1 : Int32)))], [])) rfl ?_
      exact ih _ _ _ _ _ H
set_option maxHeartbeats 4000000 in
set_option maxRecDepth 100000 in
theorem lX10_apart {sc : Nat × (Nat → Int32)} {a0 : Nat} {h : am_H} {r : Int32} {h1 : am_H} (H : fX10_apart a0 h = some (r, h1)) : am_Cl am_T am_N sc 63 219 [.ref a0] h (some (.int r)) h1 := by
  unfold fX10_apart at H
  obtain ⟨_, hO, H⟩ := am_bd H
  obtain ⟨fs0, hO⟩ := am_isO_ok hO
  refine am_mk (q := qX10_apart) rfl (fun _ => ⟨_, _, _, _, _, rfl, hO, rfl, rfl⟩) (fun z => absurd z (by decide)) (Nat.le_of_ble_eq_true rfl) rfl ?_
  show am_G sc (am_Cl am_T am_N sc 62) (am_at kX10_apart) (fun t => t.2 = h1 ∧ am_ret 1 (am_at kX10_apart) t.1 = some (some (.int r))) ((0, [some (.ref a0), none], []), h)
  refine am_G.fr 2 (g := (2, [some (.ref a0), none], [.int ((0 : Int32)), .ref a0])) rfl ?_
  obtain ⟨hh1, e2, H⟩ := am_bd H
  refine am_G.pF rfl e2 ?_
  refine am_G.fr 2 (g := (7, [some (.ref a0), some (.int ((0 : Int32)))], [])) rfl ?_
  obtain ⟨lw7, hh8, E9, H⟩ := am_bd2 H
  refine am_G.sq (lX10_apart_L7 _ _ _ _ _ _ E9) ?_
  clear E9
  refine am_G.fr 1 (g := (23, [none, some (.int lw7)], [.int lw7])) rfl ?_
  obtain ⟨rfl, rfl⟩ := am_inj2 H
  exact am_G.nd ⟨rfl, rfl⟩
