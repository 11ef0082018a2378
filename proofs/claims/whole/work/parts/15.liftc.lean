/-! lifted methods -/
def fX7_isName (a0 : Nat) (h : am_H) : Option (Int32) :=
  (am_isO h a0 6).bind fun _ =>
  (am_gI h a0 6 4).bind fun sort1 =>
  if sort1 = ((1 : Int32)) then
    (fX7_isWord a0 1000000 h).bind fun x5 =>
    Option.bind (
      if ¬ x5 = 0 then
        some ((1 : Int32))
      else
        (fX7_isWord a0 1000001 h).bind fun x9 =>
        if ¬ x9 = 0 then
          some ((1 : Int32))
        else
          (fX7_isWord a0 1000002 h).bind fun x12 =>
          if ¬ x12 = 0 then
            some ((1 : Int32))
          else
            (fX7_isWord a0 1000003 h).bind fun x15 =>
            if ¬ x15 = 0 then
              some ((1 : Int32))
            else
              (fX7_isWord a0 1000004 h).bind fun x18 =>
              if ¬ x18 = 0 then
                some ((1 : Int32))
              else
                (fX7_isWord a0 1000005 h).bind fun x21 =>
                if ¬ x21 = 0 then
                  some ((1 : Int32))
                else
                  (fX7_isWord a0 1000006 h).bind fun x24 =>
                  if ¬ x24 = 0 then
                    some ((1 : Int32))
                  else
                    (fX7_isWord a0 1000007 h).bind fun x27 =>
                    if ¬ x27 = 0 then
                      some ((1 : Int32))
                    else
                      (fX7_isWord a0 1000008 h).bind fun x30 =>
                      if ¬ x30 = 0 then
                        some ((1 : Int32))
                      else
                        (fX7_isWord a0 1000009 h).bind fun x33 =>
                        if ¬ x33 = 0 then
                          some ((1 : Int32))
                        else
                          (fX7_isWord a0 1000010 h).bind fun x36 =>
                          if ¬ x36 = 0 then
                            some ((1 : Int32))
                          else
                            (fX7_isWord a0 1000011 h).bind fun x39 =>
                            if ¬ x39 = 0 then
                              some ((1 : Int32))
                            else
                              (fX7_isWord a0 1000012 h).bind fun x42 =>
                              if ¬ x42 = 0 then
                                some ((1 : Int32))
                              else
                                (fX7_isWord a0 1000013 h).bind fun x45 =>
                                if ¬ x45 = 0 then
                                  some ((1 : Int32))
                                else
                                  (fX7_isWord a0 1000014 h).bind fun x48 =>
                                  if ¬ x48 = 0 then
                                    some ((1 : Int32))
                                  else
                                    (fX7_isWord a0 1000015 h).bind fun x51 =>
                                    if ¬ x51 = 0 then
                                      some ((1 : Int32))
                                    else
                                      (fX7_isWord a0 1000016 h).bind fun x54 =>
                                      if ¬ x54 = 0 then
                                        some ((1 : Int32))
                                      else
                                        (fX7_isWord a0 1000017 h).bind fun x57 =>
                                        if ¬ x57 = 0 then
                                          some ((1 : Int32))
                                        else
                                          (fX7_isWord a0 1000018 h).bind fun x60 =>
                                          if ¬ x60 = 0 then
                                            some ((1 : Int32))
                                          else
                                            (fX7_isWord a0 1000019 h).bind fun x63 =>
                                            if ¬ x63 = 0 then
                                              some ((1 : Int32))
                                            else
                                              (fX7_isWord a0 1000020 h).bind fun x66 =>
                                              if x66 = 0 then
                                                some ((0 : Int32))
                                              else
                                                some ((1 : Int32))) fun js6 =>
    Option.bind (
      if ¬ js6 = 0 then
        some ((0 : Int32))
      else
        some ((1 : Int32))) fun js68 =>
    (am_z01 js68).bind fun b70 =>
    some b70
  else
    some ((0 : Int32))
set_option maxHeartbeats 4000000 in
set_option maxRecDepth 100000 in
theorem lX7_isName {sc : Nat × (Nat → Int32)} {a0 : Nat} {h : am_H} {r : Int32} (H : fX7_isName a0 h = some r) : am_Cl am_T am_N sc 11 66 [.ref a0] h (some (.int r)) h := by
  unfold fX7_isName at H
  obtain ⟨_, hO, H⟩ := am_bd H
  obtain ⟨fs0, hO⟩ := am_isO_ok hO
  refine am_mk (q := qX7_isName) rfl (fun _ => ⟨_, _, _, _, _, rfl, hO, rfl, rfl⟩) (fun z => absurd z (by decide)) (Nat.le_of_ble_eq_true rfl) rfl ?_
  show am_G sc (am_Cl am_T am_N sc 10) (am_at kX7_isName) (fun t => t.2 = h ∧ am_ret 2 (am_at kX7_isName) t.1 = some (some (.int r))) ((0, [some (.ref a0), none], []), h)
  refine am_G.fr 1 (g := (1, [some (.ref a0), none], [.ref a0])) rfl ?_
  obtain ⟨sort1, e2, H⟩ := am_bd H
  refine am_G.gI rfl e2 ?_
  refine am_G.fr 1 (g := (5, [some (.ref a0), none], [.int ((1 : Int32)), .int sort1])) rfl ?_
  by_cases c3 : sort1 = ((1 : Int32))
  · rw [if_pos c3] at H
    refine am_G.br (tgt := 10) rfl rfl (if_pos c3) rfl ?_
    refine am_G.fr 2 (g := (13, [some (.ref a0), none], [.ref 1000000, .ref a0])) rfl ?_
    obtain ⟨x5, e4, H⟩ := am_bd H
    refine am_G.cl [.ref a0, .ref 1000000] [] (am_Cl.mono (by decide) (lX7_isWord e4)) rfl rfl rfl rfl (Nat.le_of_ble_eq_true rfl) ?_
    obtain ⟨js6, E73, H⟩ := am_bd H
    refine am_G.sq (t := ((204, [none, none], [.int js6]), h)) ?_ ?_
    · clear H
      have H := E73
      clear E73
      by_cases c7 : ¬ x5 = 0
      · rw [if_pos c7] at H
        refine am_G.br (tgt := 199) rfl rfl (if_pos c7) rfl ?_
        refine am_G.fr 2 (g := (204, [some (.ref a0), none], [.int ((1 : Int32))])) rfl ?_
        obtain rfl := Option.some.inj H
        refine am_G.fg [none, none] (by simp only [am_sub, and_self]) ?_
        exact am_G.nd rfl
      · rw [if_neg c7] at H
        refine am_G.br (tgt := 19) rfl rfl (if_neg c7) rfl ?_
        refine am_G.fr 2 (g := (22, [some (.ref a0), none], [.ref 1000001, .ref a0])) rfl ?_
        obtain ⟨x9, e8, H⟩ := am_bd H
        refine am_G.cl [.ref a0, .ref 1000001] [] (am_Cl.mono (by decide) (lX7_isWord e8)) rfl rfl rfl rfl (Nat.le_of_ble_eq_true rfl) ?_
        by_cases c10 : ¬ x9 = 0
        · rw [if_pos c10] at H
          refine am_G.br (tgt := 199) rfl rfl (if_pos c10) rfl ?_
          refine am_G.fr 2 (g := (204, [some (.ref a0), none], [.int ((1 : Int32))])) rfl ?_
          obtain rfl := Option.some.inj H
          refine am_G.fg [none, none] (by simp only [am_sub, and_self]) ?_
          exact am_G.nd rfl
        · rw [if_neg c10] at H
          refine am_G.br (tgt := 28) rfl rfl (if_neg c10) rfl ?_
          refine am_G.fr 2 (g := (31, [some (.ref a0), none], [.ref 1000002, .ref a0])) rfl ?_
          obtain ⟨x12, e11, H⟩ := am_bd H
          refine am_G.cl [.ref a0, .ref 1000002] [] (am_Cl.mono (by decide) (lX7_isWord e11)) rfl rfl rfl rfl (Nat.le_of_ble_eq_true rfl) ?_
          by_cases c13 : ¬ x12 = 0
          · rw [if_pos c13] at H
            refine am_G.br (tgt := 199) rfl rfl (if_pos c13) rfl ?_
            refine am_G.fr 2 (g := (204, [some (.ref a0), none], [.int ((1 : Int32))])) rfl ?_
            obtain rfl := Option.some.inj H
            refine am_G.fg [none, none] (by simp only [am_sub, and_self]) ?_
            exact am_G.nd rfl
          · rw [if_neg c13] at H
            refine am_G.br (tgt := 37) rfl rfl (if_neg c13) rfl ?_
            refine am_G.fr 2 (g := (40, [some (.ref a0), none], [.ref 1000003, .ref a0])) rfl ?_
            obtain ⟨x15, e14, H⟩ := am_bd H
            refine am_G.cl [.ref a0, .ref 1000003] [] (am_Cl.mono (by decide) (lX7_isWord e14)) rfl rfl rfl rfl (Nat.le_of_ble_eq_true rfl) ?_
            by_cases c16 : ¬ x15 = 0
            · rw [if_pos c16] at H
              refine am_G.br (tgt := 199) rfl rfl (if_pos c16) rfl ?_
              refine am_G.fr 2 (g := (204, [some (.ref a0), none], [.int ((1 : Int32))])) rfl ?_
              obtain rfl := Option.some.inj H
              refine am_G.fg [none, none] (by simp only [am_sub, and_self]) ?_
              exact am_G.nd rfl
            · rw [if_neg c16] at H
              refine am_G.br (tgt := 46) rfl rfl (if_neg c16) rfl ?_
              refine am_G.fr 2 (g := (49, [some (.ref a0), none], [.ref 1000004, .ref a0])) rfl ?_
              obtain ⟨x18, e17, H⟩ := am_bd H
              refine am_G.cl [.ref a0, .ref 1000004] [] (am_Cl.mono (by decide) (lX7_isWord e17)) rfl rfl rfl rfl (Nat.le_of_ble_eq_true rfl) ?_
              by_cases c19 : ¬ x18 = 0
              · rw [if_pos c19] at H
                refine am_G.br (tgt := 199) rfl rfl (if_pos c19) rfl ?_
                refine am_G.fr 2 (g := (204, [some (.ref a0), none], [.int ((1 : Int32))])) rfl ?_
                obtain rfl := Option.some.inj H
                refine am_G.fg [none, none] (by simp only [am_sub, and_self]) ?_
                exact am_G.nd rfl
              · rw [if_neg c19] at H
                refine am_G.br (tgt := 55) rfl rfl (if_neg c19) rfl ?_
                refine am_G.fr 2 (g := (58, [some (.ref a0), none], [.ref 1000005, .ref a0])) rfl ?_
                obtain ⟨x21, e20, H⟩ := am_bd H
                refine am_G.cl [.ref a0, .ref 1000005] [] (am_Cl.mono (by decide) (lX7_isWord e20)) rfl rfl rfl rfl (Nat.le_of_ble_eq_true rfl) ?_
                by_cases c22 : ¬ x21 = 0
                · rw [if_pos c22] at H
                  refine am_G.br (tgt := 199) rfl rfl (if_pos c22) rfl ?_
                  refine am_G.fr 2 (g := (204, [some (.ref a0), none], [.int ((1 : Int32))])) rfl ?_
                  obtain rfl := Option.some.inj H
                  refine am_G.fg [none, none] (by simp only [am_sub, and_self]) ?_
                  exact am_G.nd rfl
                · rw [if_neg c22] at H
                  refine am_G.br (tgt := 64) rfl rfl (if_neg c22) rfl ?_
                  refine am_G.fr 2 (g := (67, [some (.ref a0), none], [.ref 1000006, .ref a0])) rfl ?_
                  obtain ⟨x24, e23, H⟩ := am_bd H
                  refine am_G.cl [.ref a0, .ref 1000006] [] (am_Cl.mono (by decide) (lX7_isWord e23)) rfl rfl rfl rfl (Nat.le_of_ble_eq_true rfl) ?_
                  by_cases c25 : ¬ x24 = 0
                  · rw [if_pos c25] at H
                    refine am_G.br (tgt := 199) rfl rfl (if_pos c25) rfl ?_
                    refine am_G.fr 2 (g := (204, [some (.ref a0), none], [.int ((1 : Int32))])) rfl ?_
                    obtain rfl := Option.some.inj H
                    refine am_G.fg [none, none] (by simp only [am_sub, and_self]) ?_
                    exact am_G.nd rfl
                  · rw [if_neg c25] at H
                    refine am_G.br (tgt := 73) rfl rfl (if_neg c25) rfl ?_
                    refine am_G.fr 2 (g := (76, [some (.ref a0), none], [.ref 1000007, .ref a0])) rfl ?_
                    obtain ⟨x27, e26, H⟩ := am_bd H
                    refine am_G.cl [.ref a0, .ref 1000007] [] (am_Cl.mono (by decide) (lX7_isWord e26)) rfl rfl rfl rfl (Nat.le_of_ble_eq_true rfl) ?_
                    by_cases c28 : ¬ x27 = 0
                    · rw [if_pos c28] at H
                      refine am_G.br (tgt := 199) rfl rfl (if_pos c28) rfl ?_
                      refine am_G.fr 2 (g := (204, [some (.ref a0), none], [.int ((1 : Int32))])) rfl ?_
                      obtain rfl := Option.some.inj H
                      refine am_G.fg [none, none] (by simp only [am_sub, and_self]) ?_
                      exact am_G.nd rfl
                    · rw [if_neg c28] at H
                      refine am_G.br (tgt := 82) rfl rfl (if_neg c28) rfl ?_
                      refine am_G.fr 2 (g := (85, [some (.ref a0), none], [.ref 1000008, .ref a0])) rfl ?_
                      obtain ⟨x30, e29, H⟩ := am_bd H
                      refine am_G.cl [.ref a0, .ref 1000008] [] (am_Cl.mono (by decide) (lX7_isWord e29)) rfl rfl rfl rfl (Nat.le_of_ble_eq_true rfl) ?_
                      by_cases c31 : ¬ x30 = 0
                      · rw [if_pos c31] at H
                        refine am_G.br (tgt := 199) rfl rfl (if_pos c31) rfl ?_
                        refine am_G.fr 2 (g := (204, [some (.ref a0), none], [.int ((1 : Int32))])) rfl ?_
                        obtain rfl := Option.some.inj H
                        refine am_G.fg [none, none] (by simp only [am_sub, and_self]) ?_
                        exact am_G.nd rfl
                      · rw [if_neg c31] at H
                        refine am_G.br (tgt := 91) rfl rfl (if_neg c31) rfl ?_
                        refine am_G.fr 2 (g := (94, [some (.ref a0), none], [.ref 1000009, .ref a0])) rfl ?_
                        obtain ⟨x33, e32, H⟩ := am_bd H
                        refine am_G.cl [.ref a0, .ref 1000009] [] (am_Cl.mono (by decide) (lX7_isWord e32)) rfl rfl rfl rfl (Nat.le_of_ble_eq_true rfl) ?_
                        by_cases c34 : ¬ x33 = 0
                        · rw [if_pos c34] at H
                          refine am_G.br (tgt := 199) rfl rfl (if_pos c34) rfl ?_
                          refine am_G.fr 2 (g := (204, [some (.ref a0), none], [.int ((1 : Int32))])) rfl ?_
                          obtain rfl := Option.some.inj H
                          refine am_G.fg [none, none] (by simp only [am_sub, and_self]) ?_
                          exact am_G.nd rfl
                        · rw [if_neg c34] at H
                          refine am_G.br (tgt := 100) rfl rfl (if_neg c34) rfl ?_
                          refine am_G.fr 2 (g := (103, [some (.ref a0), none], [.ref 1000010, .ref a0])) rfl ?_
                          obtain ⟨x36, e35, H⟩ := am_bd H
                          refine am_G.cl [.ref a0, .ref 1000010] [] (am_Cl.mono (by decide) (lX7_isWord e35)) rfl rfl rfl rfl (Nat.le_of_ble_eq_true rfl) ?_
                          by_cases c37 : ¬ x36 = 0
                          · rw [if_pos c37] at H
                            refine am_G.br (tgt := 199) rfl rfl (if_pos c37) rfl ?_
                            refine am_G.fr 2 (g := (204, [some (.ref a0), none], [.int ((1 : Int32))])) rfl ?_
                            obtain rfl := Option.some.inj H
                            refine am_G.fg [none, none] (by simp only [am_sub, and_self]) ?_
                            exact am_G.nd rfl
                          · rw [if_neg c37] at H
                            refine am_G.br (tgt := 109) rfl rfl (if_neg c37) rfl ?_
                            refine am_G.fr 2 (g := (112, [some (.ref a0), none], [.ref 1000011, .ref a0])) rfl ?_
                            obtain ⟨x39, e38, H⟩ := am_bd H
                            refine am_G.cl [.ref a0, .ref 1000011] [] (am_Cl.mono (by decide) (lX7_isWord e38)) rfl rfl rfl rfl (Nat.le_of_ble_eq_true rfl) ?_
                            by_cases c40 : ¬ x39 = 0
                            · rw [if_pos c40] at H
                              refine am_G.br (tgt := 199) rfl rfl (if_pos c40) rfl ?_
                              refine am_G.fr 2 (g := (204, [some (.ref a0), none], [.int ((1 : Int32))])) rfl ?_
                              obtain rfl := Option.some.inj H
                              refine am_G.fg [none, none] (by simp only [am_sub, and_self]) ?_
                              exact am_G.nd rfl
                            · rw [if_neg c40] at H
                              refine am_G.br (tgt := 118) rfl rfl (if_neg c40) rfl ?_
                              refine am_G.fr 2 (g := (121, [some (.ref a0), none], [.ref 1000012, .ref a0])) rfl ?_
                              obtain ⟨x42, e41, H⟩ := am_bd H
                              refine am_G.cl [.ref a0, .ref 1000012] [] (am_Cl.mono (by decide) (lX7_isWord e41)) rfl rfl rfl rfl (Nat.le_of_ble_eq_true rfl) ?_
                              by_cases c43 : ¬ x42 = 0
                              · rw [if_pos c43] at H
                                refine am_G.br (tgt := 199) rfl rfl (if_pos c43) rfl ?_
                                refine am_G.fr 2 (g := (204, [some (.ref a0), none], [.int ((1 : Int32))])) rfl ?_
                                obtain rfl := Option.some.inj H
                                refine am_G.fg [none, none] (by simp only [am_sub, and_self]) ?_
                                exact am_G.nd rfl
                              · rw [if_neg c43] at H
                                refine am_G.br (tgt := 127) rfl rfl (if_neg c43) rfl ?_
                                refine am_G.fr 2 (g := (130, [some (.ref a0), none], [.ref 1000013, .ref a0])) rfl ?_
                                obtain ⟨x45, e44, H⟩ := am_bd H
                                refine am_G.cl [.ref a0, .ref 1000013] [] (am_Cl.mono (by decide) (lX7_isWord e44)) rfl rfl rfl rfl (Nat.le_of_ble_eq_true rfl) ?_
                                by_cases c46 : ¬ x45 = 0
                                · rw [if_pos c46] at H
                                  refine am_G.br (tgt := 199) rfl rfl (if_pos c46) rfl ?_
                                  refine am_G.fr 2 (g := (204, [some (.ref a0), none], [.int ((1 : Int32))])) rfl ?_
                                  obtain rfl := Option.some.inj H
                                  refine am_G.fg [none, none] (by simp only [am_sub, and_self]) ?_
                                  exact am_G.nd rfl
                                · rw [if_neg c46] at H
                                  refine am_G.br (tgt := 136) rfl rfl (if_neg c46) rfl ?_
                                  refine am_G.fr 2 (g := (139, [some (.ref a0), none], [.ref 1000014, .ref a0])) rfl ?_
                                  obtain ⟨x48, e47, H⟩ := am_bd H
                                  refine am_G.cl [.ref a0, .ref 1000014] [] (am_Cl.mono (by decide) (lX7_isWord e47)) rfl rfl rfl rfl (Nat.le_of_ble_eq_true rfl) ?_
                                  by_cases c49 : ¬ x48 = 0
                                  · rw [if_pos c49] at H
                                    refine am_G.br (tgt := 199) rfl rfl (if_pos c49) rfl ?_
                                    refine am_G.fr 2 (g := (204, [some (.ref a0), none], [.int ((1 : Int32))])) rfl ?_
                                    obtain rfl := Option.some.inj H
                                    refine am_G.fg [none, none] (by simp only [am_sub, and_self]) ?_
                                    exact am_G.nd rfl
                                  · rw [if_neg c49] at H
                                    refine am_G.br (tgt := 145) rfl rfl (if_neg c49) rfl ?_
                                    refine am_G.fr 2 (g := (148, [some (.ref a0), none], [.ref 1000015, .ref a0])) rfl ?_
                                    obtain ⟨x51, e50, H⟩ := am_bd H
                                    refine am_G.cl [.ref a0, .ref 1000015] [] (am_Cl.mono (by decide) (lX7_isWord e50)) rfl rfl rfl rfl (Nat.le_of_ble_eq_true rfl) ?_
                                    by_cases c52 : ¬ x51 = 0
                                    · rw [if_pos c52] at H
                                      refine am_G.br (tgt := 199) rfl rfl (if_pos c52) rfl ?_
                                      refine am_G.fr 2 (g := (204, [some (.ref a0), none], [.int ((1 : Int32))])) rfl ?_
                                      obtain rfl := Option.some.inj H
                                      refine am_G.fg [none, none] (by simp only [am_sub, and_self]) ?_
                                      exact am_G.nd rfl
                                    · rw [if_neg c52] at H
                                      refine am_G.br (tgt := 154) rfl rfl (if_neg c52) rfl ?_
                                      refine am_G.fr 2 (g := (157, [some (.ref a0), none], [.ref 1000016, .ref a0])) rfl ?_
                                      obtain ⟨x54, e53, H⟩ := am_bd H
                                      refine am_G.cl [.ref a0, .ref 1000016] [] (am_Cl.mono (by decide) (lX7_isWord e53)) rfl rfl rfl rfl (Nat.le_of_ble_eq_true rfl) ?_
                                      by_cases c55 : ¬ x54 = 0
                                      · rw [if_pos c55] at H
                                        refine am_G.br (tgt := 199) rfl rfl (if_pos c55) rfl ?_
                                        refine am_G.fr 2 (g := (204, [some (.ref a0), none], [.int ((1 : Int32))])) rfl ?_
                                        obtain rfl := Option.some.inj H
                                        refine am_G.fg [none, none] (by simp only [am_sub, and_self]) ?_
                                        exact am_G.nd rfl
                                      · rw [if_neg c55] at H
                                        refine am_G.br (tgt := 163) rfl rfl (if_neg c55) rfl ?_
                                        refine am_G.fr 2 (g := (166, [some (.ref a0), none], [.ref 1000017, .ref a0])) rfl ?_
                                        obtain ⟨x57, e56, H⟩ := am_bd H
                                        refine am_G.cl [.ref a0, .ref 1000017] [] (am_Cl.mono (by decide) (lX7_isWord e56)) rfl rfl rfl rfl (Nat.le_of_ble_eq_true rfl) ?_
                                        by_cases c58 : ¬ x57 = 0
                                        · rw [if_pos c58] at H
                                          refine am_G.br (tgt := 199) rfl rfl (if_pos c58) rfl ?_
                                          refine am_G.fr 2 (g := (204, [some (.ref a0), none], [.int ((1 : Int32))])) rfl ?_
                                          obtain rfl := Option.some.inj H
                                          refine am_G.fg [none, none] (by simp only [am_sub, and_self]) ?_
                                          exact am_G.nd rfl
                                        · rw [if_neg c58] at H
                                          refine am_G.br (tgt := 172) rfl rfl (if_neg c58) rfl ?_
                                          refine am_G.fr 2 (g := (175, [some (.ref a0), none], [.ref 1000018, .ref a0])) rfl ?_
                                          obtain ⟨x60, e59, H⟩ := am_bd H
                                          refine am_G.cl [.ref a0, .ref 1000018] [] (am_Cl.mono (by decide) (lX7_isWord e59)) rfl rfl rfl rfl (Nat.le_of_ble_eq_true rfl) ?_
                                          by_cases c61 : ¬ x60 = 0
                                          · rw [if_pos c61] at H
                                            refine am_G.br (tgt := 199) rfl rfl (if_pos c61) rfl ?_
                                            refine am_G.fr 2 (g := (204, [some (.ref a0), none], [.int ((1 : Int32))])) rfl ?_
                                            obtain rfl := Option.some.inj H
                                            refine am_G.fg [none, none] (by simp only [am_sub, and_self]) ?_
                                            exact am_G.nd rfl
                                          · rw [if_neg c61] at H
                                            refine am_G.br (tgt := 181) rfl rfl (if_neg c61) rfl ?_
                                            refine am_G.fr 2 (g := (184, [some (.ref a0), none], [.ref 1000019, .ref a0])) rfl ?_
                                            obtain ⟨x63, e62, H⟩ := am_bd H
                                            refine am_G.cl [.ref a0, .ref 1000019] [] (am_Cl.mono (by decide) (lX7_isWord e62)) rfl rfl rfl rfl (Nat.le_of_ble_eq_true rfl) ?_
                                            by_cases c64 : ¬ x63 = 0
                                            · rw [if_pos c64] at H
                                              refine am_G.br (tgt := 199) rfl rfl (if_pos c64) rfl ?_
                                              refine am_G.fr 2 (g := (204, [some (.ref a0), none], [.int ((1 : Int32))])) rfl ?_
                                              obtain rfl := Option.some.inj H
                                              refine am_G.fg [none, none] (by simp only [am_sub, and_self]) ?_
                                              exact am_G.nd rfl
                                            · rw [if_neg c64] at H
                                              refine am_G.br (tgt := 190) rfl rfl (if_neg c64) rfl ?_
                                              refine am_G.fr 2 (g := (193, [some (.ref a0), none], [.ref 1000020, .ref a0])) rfl ?_
                                              obtain ⟨x66, e65, H⟩ := am_bd H
                                              refine am_G.cl [.ref a0, .ref 1000020] [] (am_Cl.mono (by decide) (lX7_isWord e65)) rfl rfl rfl rfl (Nat.le_of_ble_eq_true rfl) ?_
                                              by_cases c67 : x66 = 0
                                              · rw [if_pos c67] at H
                                                refine am_G.br (tgt := 203) rfl rfl (if_pos c67) rfl ?_
                                                refine am_G.fr 1 (g := (204, [some (.ref a0), none], [.int ((0 : Int32))])) rfl ?_
                                                obtain rfl := Option.some.inj H
                                                refine am_G.fg [none, none] (by simp only [am_sub, and_self]) ?_
                                                exact am_G.nd rfl
                                              · rw [if_neg c67] at H
                                                refine am_G.br (tgt := 199) rfl rfl (if_neg c67) rfl ?_
                                                refine am_G.fr 2 (g := (204, [some (.ref a0), none], [.int ((1 : Int32))])) rfl ?_
                                                obtain rfl := Option.some.inj H
                                                refine am_G.fg [none, none] (by simp only [am_sub, and_self]) ?_
                                                exact am_G.nd rfl
    · clear E73
      refine am_G.fr 2 (g := (206, [none, some (.int js6)], [.int js6])) rfl ?_
      obtain ⟨js68, E72, H⟩ := am_bd H
      refine am_G.sq (t := ((214, [none, none], [.int js68]), h)) ?_ ?_
      · clear H
        have H := E72
        clear E72
        by_cases c69 : ¬ js6 = 0
        · rw [if_pos c69] at H
          refine am_G.br (tgt := 213) rfl rfl (if_pos c69) rfl ?_
          refine am_G.fr 1 (g := (214, [none, some (.int js6)], [.int ((0 : Int32))])) rfl ?_
          obtain rfl := Option.some.inj H
          refine am_G.fg [none, none] (by simp only [am_sub, and_self]) ?_
          exact am_G.nd rfl
        · rw [if_neg c69] at H
          refine am_G.br (tgt := 209) rfl rfl (if_neg c69) rfl ?_
          refine am_G.fr 2 (g := (214, [none, some (.int js6)], [.int ((1 : Int32))])) rfl ?_
          obtain rfl := Option.some.inj H
          refine am_G.fg [none, none] (by simp only [am_sub, and_self]) ?_
          exact am_G.nd rfl
      · clear E72
        obtain ⟨b70, e71, H⟩ := am_bd H
        obtain rfl := Option.some.inj H
        exact am_G.nd ⟨rfl, am_ret2 rfl e71⟩
  · rw [if_neg c3] at H
    refine am_G.br (tgt := 8) rfl rfl (if_neg c3) rfl ?_
    refine am_G.fr 1 (g := (9, [some (.ref a0), none], [.int ((0 : Int32))])) rfl ?_
    obtain rfl := Option.some.inj H
    exact am_G.nd ⟨rfl, am_ret2 rfl (if_pos (by decide))⟩
def fX4_passTold (a0 : Nat) (a1 : Int32) (a2 : Int32) (h : am_H) : Option (Int32 × am_H) :=
  (fX7_isName a0 h).bind fun x2 =>
  if ¬ x2 = 0 then
    if ¬ a1 = ((-1 : Int32)) then
      (fX9_has a2 a1 h).bind fun x6 =>
      if x6 = 0 then
        (am_pF h a0 6 8 (.int a1)).bind fun hh8 =>
        (fX7_step a0 hh8).bind fun hh11 =>
        some ((1 : Int32), hh11)
      else
        am_b2 (fX7_refuse a0 ((3 : Int32)) h) fun x13 hh14 =>
        (am_z01 x13).bind fun b15 =>
        some (b15, hh14)
    else
      am_b2 (fX7_refuse a0 ((2 : Int32)) h) fun x18 hh19 =>
      (am_z01 x18).bind fun b20 =>
      some (b20, hh19)
  else
    am_b2 (fX7_refuse a0 ((1 : Int32)) h) fun x23 hh24 =>
    (am_z01 x23).bind fun b25 =>
    some (b25, hh24)
set_option maxHeartbeats 4000000 in
set_option maxRecDepth 100000 in
theorem lX4_passTold {sc : Nat × (Nat → Int32)} {a0 : Nat} {a1 : Int32} {a2 : Int32} {h : am_H} {r : Int32} {h1 : am_H} (H : fX4_passTold a0 a1 a2 h = some (r, h1)) : am_Cl am_T am_N sc 12 31 [.ref a0, .int a1, .int a2] h (some (.int r)) h1 := by
  unfold fX4_passTold at H
  refine am_mk (q := qX4_passTold) rfl (fun z => absurd z (by decide)) (fun z => absurd z (by decide)) (Nat.le_of_ble_eq_true rfl) rfl ?_
  show am_G sc (am_Cl am_T am_N sc 11) (am_at kX4_passTold) (fun t => t.2 = h1 ∧ am_ret 2 (am_at kX4_passTold) t.1 = some (some (.int r))) ((0, [some (.ref a0), some (.int a1), some (.int a2)], []), h)
  refine am_G.fr 1 (g := (1, [some (.ref a0), some (.int a1), some (.int a2)], [.ref a0])) rfl ?_
  obtain ⟨x2, e1, H⟩ := am_bd H
  refine am_G.cl [.ref a0] [] (am_Cl.mono (by decide) (lX7_isName e1)) rfl rfl rfl rfl (Nat.le_of_ble_eq_true rfl) ?_
  by_cases c3 : ¬ x2 = 0
  · rw [if_pos c3] at H
    refine am_G.br (tgt := 13) rfl rfl (if_pos c3) rfl ?_
    refine am_G.fr 2 (g := (15, [some (.ref a0), some (.int a1), some (.int a2)], [.int ((-1 : Int32)), .int a1])) rfl ?_
    by_cases c4 : ¬ a1 = ((-1 : Int32))
    · rw [if_pos c4] at H
      refine am_G.br (tgt := 24) rfl rfl (if_pos c4) rfl ?_
      refine am_G.fr 2 (g := (26, [some (.ref a0), some (.int a1), some (.int a2)], [.int a1, .int a2])) rfl ?_
      obtain ⟨x6, e5, H⟩ := am_bd H
      refine am_G.cl [.int a2, .int a1] [] (am_Cl.mono (by decide) (lX9_has e5)) rfl rfl rfl rfl (Nat.le_of_ble_eq_true rfl) ?_
      by_cases c7 : x6 = 0
      · rw [if_pos c7] at H
        refine am_G.br (tgt := 38) rfl rfl (if_pos c7) rfl ?_
        refine am_G.fr 2 (g := (40, [some (.ref a0), some (.int a1), some (.int a2)], [.int a1, .ref a0])) rfl ?_
        obtain ⟨hh8, e9, H⟩ := am_bd H
        refine am_G.pF rfl e9 ?_
        refine am_G.fr 1 (g := (44, [some (.ref a0), some (.int a1), some (.int a2)], [.ref a0])) rfl ?_
        obtain ⟨hh11, e10, H⟩ := am_bd H
        refine am_G.cl [.ref a0] [] (am_Cl.mono (by decide) (lX7_step e10)) rfl rfl rfl rfl (Nat.le_of_ble_eq_true rfl) ?_
        refine am_G.fr 1 (g := (48, [some (.ref a0), some (.int a1), some (.int a2)], [.int ((1 : Int32))])) rfl ?_
        obtain ⟨rfl, rfl⟩ := am_inj2 H
        exact am_G.nd ⟨rfl, am_ret2 rfl (if_pos (by decide))⟩
      · rw [if_neg c7] at H
        refine am_G.br (tgt := 32) rfl rfl (if_neg c7) rfl ?_
        refine am_G.fr 2 (g := (34, [some (.ref a0), some (.int a1), some (.int a2)], [.int ((3 : Int32)), .ref a0])) rfl ?_
        obtain ⟨x13, hh14, e12, H⟩ := am_bd2 H
        refine am_G.cl [.ref a0, .int ((3 : Int32))] [] (am_Cl.mono (by decide) (lX7_refuse e12)) rfl rfl rfl rfl (Nat.le_of_ble_eq_true rfl) ?_
        obtain ⟨b15, e16, H⟩ := am_bd H
        obtain ⟨rfl, rfl⟩ := am_inj2 H
        exact am_G.nd ⟨rfl, am_ret2 rfl e16⟩
    · rw [if_neg c4] at H
      refine am_G.br (tgt := 18) rfl rfl (if_neg c4) rfl ?_
      refine am_G.fr 2 (g := (20, [some (.ref a0), some (.int a1), some (.int a2)], [.int ((2 : Int32)), .ref a0])) rfl ?_
      obtain ⟨x18, hh19, e17, H⟩ := am_bd2 H
      refine am_G.cl [.ref a0, .int ((2 : Int32))] [] (am_Cl.mono (by decide) (lX7_refuse e17)) rfl rfl rfl rfl (Nat.le_of_ble_eq_true rfl) ?_
      obtain ⟨b20, e21, H⟩ := am_bd H
      obtain ⟨rfl, rfl⟩ := am_inj2 H
      exact am_G.nd ⟨rfl, am_ret2 rfl e21⟩
  · rw [if_neg c3] at H
    refine am_G.br (tgt := 7) rfl rfl (if_neg c3) rfl ?_
    refine am_G.fr 2 (g := (9, [some (.ref a0), some (.int a1), some (.int a2)], [.int ((1 : Int32)), .ref a0])) rfl ?_
    obtain ⟨x23, hh24, e22, H⟩ := am_bd2 H
    refine am_G.cl [.ref a0, .int ((1 : Int32))] [] (am_Cl.mono (by decide) (lX7_refuse e22)) rfl rfl rfl rfl (Nat.le_of_ble_eq_true rfl) ?_
    obtain ⟨b25, e26, H⟩ := am_bd H
    obtain ⟨rfl, rfl⟩ := am_inj2 H
    exact am_G.nd ⟨rfl, am_ret2 rfl e26⟩
def fX8_dayNamed_L2 : Nat → Nat → Int64 → Int32 → am_H → Option ((Unit) ⊕ (Int32))
  | 0, _, _, _, _ => none
  | n + 1, v0, v1, v3, h =>
    (am_gI h v0 7 12).bind fun days1 =>
    if days1 ≤ v3 then
      some (.inl ())
    else
      (am_gR h v0 7 3).bind fun dayNames4 =>
      (am_aL h dayNames4 v3).bind fun x6 =>
      if ¬ (lg_cmp x6 v1) = 0 then
        fX8_dayNamed_L2 n v0 v1 (v3 + (1 : Int32)) h
      else
        some (.inr v3)
def fX8_dayNamed (a0 : Nat) (a1 : Int64) (h : am_H) : Option (Int32) :=
  (am_isO h a0 7).bind fun _ =>
  (fX8_dayNamed_L2 4000 a0 a1 ((0 : Int32)) h).bind fun o10 => match o10 with
    | .inl _ =>
      some ((-1 : Int32))
    | .inr y11 => some y11
set_option maxHeartbeats 4000000 in
set_option maxRecDepth 100000 in
theorem lX8_dayNamed_L2 {sc : Nat × (Nat → Int32)} : ∀ (n : Nat) (v0 : Nat) (v1 : Int64) (v3 : Int32) (h : am_H) (o : (Unit) ⊕ (Int32)), fX8_dayNamed_L2 n v0 v1 v3 h = some o → am_G sc (am_Cl am_T am_N sc 0) (am_at kX8_dayNamed) (fun t => match o with
    | .inl _ => t = ((29, [none, none, none, none], []), h)
    | .inr y => t.2 = h ∧ am_ret 1 (am_at kX8_dayNamed) t.1 = some (some (.int y))) ((2, [some (.ref v0), some (.long v1), none, some (.int v3)], []), h) := by
  intro n
  induction n with
  | zero => intro _ _ _ _ _ H; cases H
  | succ n ih =>
    intro v0 v1 v3 h o H
    rw [fX8_dayNamed_L2] at H
    refine am_G.fr 2 (g := (4, [some (.ref v0), some (.long v1), none, some (.int v3)], [.ref v0, .int v3])) rfl ?_
    obtain ⟨days1, e2, H⟩ := am_bd H
    refine am_G.gI rfl e2 ?_
    by_cases c3 : days1 ≤ v3
    · rw [if_pos c3] at H
      refine am_G.br (tgt := 29) rfl rfl (if_pos c3) rfl ?_
      obtain rfl := Option.some.inj H
      refine am_G.fg [none, none, none, none] (by simp only [am_sub, and_self]) ?_
      exact am_G.nd rfl
    · rw [if_neg c3] at H
      refine am_G.br (tgt := 10) rfl rfl (if_neg c3) rfl ?_
      refine am_G.fr 1 (g := (11, [some (.ref v0), some (.long v1), none, some (.int v3)], [.ref v0])) rfl ?_
      obtain ⟨dayNames4, e5, H⟩ := am_bd H
      refine am_G.gR rfl e5 ?_
      refine am_G.fr 1 (g := (15, [some (.ref v0), some (.long v1), none, some (.int v3)], [.int v3, .ref dayNames4])) rfl ?_
      obtain ⟨x6, e7, H⟩ := am_bd H
      refine am_G.aL rfl e7 ?_
      refine am_G.fr 2 (g := (18, [some (.ref v0), some (.long v1), none, some (.int v3)], [.int (lg_cmp x6 v1)])) rfl ?_
      by_cases c8 : ¬ (lg_cmp x6 v1) = 0
      · rw [if_pos c8] at H
        refine am_G.br (tgt := 23) rfl rfl (if_pos c8) rfl ?_
        refine am_G.fr 2 (g := (2, [some (.ref v0), some (.long v1), none, some (.int (v3 + (1 : Int32)))], [])) rfl ?_
        exact ih _ _ _ _ _ H
      · rw [if_neg c8] at H
        refine am_G.br (tgt := 21) rfl rfl (if_neg c8) rfl ?_
        refine am_G.fr 1 (g := (22, [some (.ref v0), some (.long v1), none, some (.int v3)], [.int v3])) rfl ?_
        obtain rfl := Option.some.inj H
        exact am_G.nd ⟨rfl, rfl⟩
set_option maxHeartbeats 4000000 in
set_option maxRecDepth 100000 in
theorem lX8_dayNamed {sc : Nat × (Nat → Int32)} {a0 : Nat} {a1 : Int64} {h : am_H} {r : Int32} (H : fX8_dayNamed a0 a1 h = some r) : am_Cl am_T am_N sc 1 76 [.ref a0, .long a1] h (some (.int r)) h := by
  unfold fX8_dayNamed at H
  obtain ⟨_, hO, H⟩ := am_bd H
  obtain ⟨fs0, hO⟩ := am_isO_ok hO
  refine am_mk (q := qX8_dayNamed) rfl (fun _ => ⟨_, _, _, _, _, rfl, hO, rfl, rfl⟩) (fun z => absurd z (by decide)) (Nat.le_of_ble_eq_true rfl) rfl ?_
  show am_G sc (am_Cl am_T am_N sc 0) (am_at kX8_dayNamed) (fun t => t.2 = h ∧ am_ret 1 (am_at kX8_dayNamed) t.1 = some (some (.int r))) ((0, [some (.ref a0), some (.long a1), none, none], []), h)
  refine am_G.fr 2 (g := (2, [some (.ref a0), some (.long a1), none, some (.int ((0 : Int32)))], [])) rfl ?_
  obtain ⟨o10, E9, H⟩ := am_bd H
  have hL := lX8_dayNamed_L2 (sc := sc) _ _ _ _ _ _ E9
  clear E9
  rcases o10 with _ | y11
  · dsimp only at H
    refine am_G.sq hL ?_
    refine am_G.fr 1 (g := (30, [none, none, none, none], [.int ((-1 : Int32))])) rfl ?_
    obtain rfl := Option.some.inj H
    exact am_G.nd ⟨rfl, rfl⟩
  · dsimp only at H
    obtain rfl := Option.some.inj H
    exact hL
def fX4_passDay (a0 : Nat) (a1 : Nat) (a2 : Int32) (h : am_H) : Option (Int32 × am_H) :=
  (am_gL h a0 6 6).bind fun word1 =>
  (fX8_dayNamed a1 word1 h).bind fun x4 =>
  am_b2 (fX4_passTold a0 x4 a2 h) fun x6 hh7 =>
  (am_z01 x6).bind fun b8 =>
  some (b8, hh7)
set_option maxHeartbeats 4000000 in
set_option maxRecDepth 100000 in
theorem lX4_passDay {sc : Nat × (Nat → Int32)} {a0 : Nat} {a1 : Nat} {a2 : Int32} {h : am_H} {r : Int32} {h1 : am_H} (H : fX4_passDay a0 a1 a2 h = some (r, h1)) : am_Cl am_T am_N sc 13 30 [.ref a0, .ref a1, .int a2] h (some (.int r)) h1 := by
  unfold fX4_passDay at H
  refine am_mk (q := qX4_passDay) rfl (fun z => absurd z (by decide)) (fun z => absurd z (by decide)) (Nat.le_of_ble_eq_true rfl) rfl ?_
  show am_G sc (am_Cl am_T am_N sc 12) (am_at kX4_passDay) (fun t => t.2 = h1 ∧ am_ret 2 (am_at kX4_passDay) t.1 = some (some (.int r))) ((0, [some (.ref a0), some (.ref a1), some (.int a2)], []), h)
  refine am_G.fr 3 (g := (3, [some (.ref a0), some (.ref a1), some (.int a2)], [.ref a0, .ref a1, .ref a0])) rfl ?_
  obtain ⟨word1, e2, H⟩ := am_bd H
  refine am_G.gL rfl e2 ?_
  obtain ⟨x4, e3, H⟩ := am_bd H
  refine am_G.cl [.ref a1, .long word1] [.ref a0] (am_Cl.mono (by decide) (lX8_dayNamed e3)) rfl rfl rfl rfl (Nat.le_of_ble_eq_true rfl) ?_
  refine am_G.fr 1 (g := (10, [some (.ref a0), some (.ref a1), some (.int a2)], [.int a2, .int x4, .ref a0])) rfl ?_
  obtain ⟨x6, hh7, e5, H⟩ := am_bd2 H
  refine am_G.cl [.ref a0, .int x4, .int a2] [] (am_Cl.mono (by decide) (lX4_passTold e5)) rfl rfl rfl rfl (Nat.le_of_ble_eq_true rfl) ?_
  obtain ⟨b8, e9, H⟩ := am_bd H
  obtain ⟨rfl, rfl⟩ := am_inj2 H
  exact am_G.nd ⟨rfl, am_ret2 rfl e9⟩
def fX4_readClash (a0 : Nat) (a1 : Nat) (h : am_H) : Option (Int32 × am_H) :=
  (fX7_step a0 h).bind fun hh2 =>
  am_b2 (fX4_passDay a0 a1 ((0 : Int32)) hh2) fun x4 hh5 =>
  if ¬ x4 = 0 then
    (am_gI hh5 a0 6 8).bind fun taken7 =>
    (am_gR hh5 a1 7 8).bind fun foes9 =>
    (am_aI hh5 0 foes9 taken7).bind fun x11 =>
    am_b2 (fX4_passDay a0 a1 ((((1 : Int32)) <<< (taken7 &&& 31)) ||| x11) hh5) fun x14 hh15 =>
    if ¬ x14 = 0 then
      (am_gI hh15 a0 6 8).bind fun taken17 =>
      (am_gR hh15 a1 7 8).bind fun foes19 =>
      (am_aI hh15 0 foes19 taken7).bind fun x21 =>
      (am_sI hh15 0 foes19 taken7 (x21 ||| (((1 : Int32)) <<< (taken17 &&& 31)))).bind fun hh23 =>
      (am_gR hh23 a1 7 8).bind fun foes25 =>
      (am_aI hh23 0 foes25 taken17).bind fun x27 =>
      (am_sI hh23 0 foes25 taken17 (x27 ||| (((1 : Int32)) <<< (taken7 &&& 31)))).bind fun hh29 =>
      am_b2 (fX7_passSign a0 ((59 : Int32)) hh29) fun x32 hh33 =>
      (am_z01 x32).bind fun b34 =>
      some (b34, hh33)
    else
      some ((0 : Int32), hh15)
  else
    some ((0 : Int32), hh5)
set_option maxHeartbeats 4000000 in
set_option maxRecDepth 100000 in
theorem lX4_readClash {sc : Nat × (Nat → Int32)} {a0 : Nat} {a1 : Nat} {h : am_H} {r : Int32} {h1 : am_H} (H : fX4_readClash a0 a1 h = some (r, h1)) : am_Cl am_T am_N sc 14 21 [.ref a0, .ref a1] h (some (.int r)) h1 := by
  unfold fX4_readClash at H
  refine am_mk (q := qX4_readClash) rfl (fun z => absurd z (by decide)) (fun z => absurd z (by decide)) (Nat.le_of_ble_eq_true rfl) rfl ?_
  show am_G sc (am_Cl am_T am_N sc 13) (am_at kX4_readClash) (fun t => t.2 = h1 ∧ am_ret 2 (am_at kX4_readClash) t.1 = some (some (.int r))) ((0, [some (.ref a0), some (.ref a1), none, none], []), h)
  refine am_G.fr 1 (g := (1, [some (.ref a0), some (.ref a1), none, none], [.ref a0])) rfl ?_
  obtain ⟨hh2, e1, H⟩ := am_bd H
  refine am_G.cl [.ref a0] [] (am_Cl.mono (by decide) (lX7_step e1)) rfl rfl rfl rfl (Nat.le_of_ble_eq_true rfl) ?_
  refine am_G.fr 3 (g := (7, [some (.ref a0), some (.ref a1), none, none], [.int ((0 : Int32)), .ref a1, .ref a0])) rfl ?_
  obtain ⟨x4, hh5, e3, H⟩ := am_bd2 H
  refine am_G.cl [.ref a0, .ref a1, .int ((0 : Int32))] [] (am_Cl.mono (by decide) (lX4_passDay e3)) rfl rfl rfl rfl (Nat.le_of_ble_eq_true rfl) ?_
  by_cases c6 : ¬ x4 = 0
  · rw [if_pos c6] at H
    refine am_G.br (tgt := 15) rfl rfl (if_pos c6) rfl ?_
    refine am_G.fr 1 (g := (16, [some (.ref a0), some (.ref a1), none, none], [.ref a0])) rfl ?_
    obtain ⟨taken7, e8, H⟩ := am_bd H
    refine am_G.gI rfl e8 ?_
    refine am_G.fr 7 (g := (26, [some (.ref a0), some (.ref a1), some (.int taken7), none], [.ref a1, .int (((1 : Int32)) <<< (taken7 &&& 31)), .ref a1, .ref a0])) rfl ?_
    obtain ⟨foes9, e10, H⟩ := am_bd H
    refine am_G.gR rfl e10 ?_
    refine am_G.fr 1 (g := (30, [some (.ref a0), some (.ref a1), some (.int taken7), none], [.int taken7, .ref foes9, .int (((1 : Int32)) <<< (taken7 &&& 31)), .ref a1, .ref a0])) rfl ?_
    obtain ⟨x11, e12, H⟩ := am_bd H
    refine am_G.aI rfl e12 ?_
    refine am_G.fr 1 (g := (32, [some (.ref a0), some (.ref a1), some (.int taken7), none], [.int ((((1 : Int32)) <<< (taken7 &&& 31)) ||| x11), .ref a1, .ref a0])) rfl ?_
    obtain ⟨x14, hh15, e13, H⟩ := am_bd2 H
    refine am_G.cl [.ref a0, .ref a1, .int ((((1 : Int32)) <<< (taken7 &&& 31)) ||| x11)] [] (am_Cl.mono (by decide) (lX4_passDay e13)) rfl rfl rfl rfl (Nat.le_of_ble_eq_true rfl) ?_
    by_cases c16 : ¬ x14 = 0
    · rw [if_pos c16] at H
      refine am_G.br (tgt := 40) rfl rfl (if_pos c16) rfl ?_
      refine am_G.fr 1 (g := (41, [some (.ref a0), some (.ref a1), some (.int taken7), none], [.ref a0])) rfl ?_
      obtain ⟨taken17, e18, H⟩ := am_bd H
      refine am_G.gI rfl e18 ?_
      refine am_G.fr 2 (g := (46, [some (.ref a0), some (.ref a1), some (.int taken7), some (.int taken17)], [.ref a1])) rfl ?_
      obtain ⟨foes19, e20, H⟩ := am_bd H
      refine am_G.gR rfl e20 ?_
      refine am_G.fr 2 (g := (51, [some (.ref a0), some (.ref a1), some (.int taken7), some (.int taken17)], [.int taken7, .ref foes19, .int taken7, .ref foes19])) rfl ?_
      obtain ⟨x21, e22, H⟩ := am_bd H
      refine am_G.aI rfl e22 ?_
      refine am_G.fr 4 (g := (56, [some (.ref a0), some (.ref a1), some (.int taken7), some (.int taken17)], [.int (x21 ||| (((1 : Int32)) <<< (taken17 &&& 31))), .int taken7, .ref foes19])) rfl ?_
      obtain ⟨hh23, e24, H⟩ := am_bd H
      refine am_G.sI rfl e24 ?_
      refine am_G.fr 1 (g := (58, [some (.ref a0), some (.ref a1), some (.int taken7), some (.int taken17)], [.ref a1])) rfl ?_
      obtain ⟨foes25, e26, H⟩ := am_bd H
      refine am_G.gR rfl e26 ?_
      refine am_G.fr 2 (g := (63, [some (.ref a0), some (.ref a1), some (.int taken7), some (.int taken17)], [.int taken17, .ref foes25, .int taken17, .ref foes25])) rfl ?_
      obtain ⟨x27, e28, H⟩ := am_bd H
      refine am_G.aI rfl e28 ?_
      refine am_G.fr 4 (g := (68, [some (.ref a0), some (.ref a1), some (.int taken7), some (.int taken17)], [.int (x27 ||| (((1 : Int32)) <<< (taken7 &&& 31))), .int taken17, .ref foes25])) rfl ?_
      obtain ⟨hh29, e30, H⟩ := am_bd H
      refine am_G.sI rfl e30 ?_
      refine am_G.fr 2 (g := (72, [some (.ref a0), some (.ref a1), some (.int taken7), some (.int taken17)], [.int ((59 : Int32)), .ref a0])) rfl ?_
      obtain ⟨x32, hh33, e31, H⟩ := am_bd2 H
      refine am_G.cl [.ref a0, .int ((59 : Int32))] [] (am_Cl.mono (by decide) (lX7_passSign e31)) rfl rfl rfl rfl (Nat.le_of_ble_eq_true rfl) ?_
      obtain ⟨b34, e35, H⟩ := am_bd H
      obtain ⟨rfl, rfl⟩ := am_inj2 H
      exact am_G.nd ⟨rfl, am_ret2 rfl e35⟩
    · rw [if_neg c16] at H
      refine am_G.br (tgt := 38) rfl rfl (if_neg c16) rfl ?_
      refine am_G.fr 1 (g := (39, [some (.ref a0), some (.ref a1), some (.int taken7), none], [.int ((0 : Int32))])) rfl ?_
      obtain ⟨rfl, rfl⟩ := am_inj2 H
      exact am_G.nd ⟨rfl, am_ret2 rfl (if_pos (by decide))⟩
  · rw [if_neg c6] at H
    refine am_G.br (tgt := 13) rfl rfl (if_neg c6) rfl ?_
    refine am_G.fr 1 (g := (14, [some (.ref a0), some (.ref a1), none, none], [.int ((0 : Int32))])) rfl ?_
    obtain ⟨rfl, rfl⟩ := am_inj2 H
    exact am_G.nd ⟨rfl, am_ret2 rfl (if_pos (by decide))⟩
def fX8_houseNamed_L2 : Nat → Nat → Int64 → Int32 → am_H → Option ((Unit) ⊕ (Int32))
  | 0, _, _, _, _ => none
  | n + 1, v0, v1, v3, h =>
    (am_gI h v0 7 11).bind fun houses1 =>
    if houses1 ≤ v3 then
      some (.inl ())
    else
      (am_gR h v0 7 0).bind fun houseNames4 =>
      (am_aL h houseNames4 v3).bind fun x6 =>
      if ¬ (lg_cmp x6 v1) = 0 then
        fX8_houseNamed_L2 n v0 v1 (v3 + (1 : Int32)) h
      else
        some (.inr v3)
def fX8_houseNamed (a0 : Nat) (a1 : Int64) (h : am_H) : Option (Int32) :=
  (am_isO h a0 7).bind fun _ =>
  (fX8_houseNamed_L2 4000 a0 a1 ((0 : Int32)) h).bind fun o10 => match o10 with
    | .inl _ =>
      some ((-1 : Int32))
    | .inr y11 => some y11
set_option maxHeartbeats 4000000 in
set_option maxRecDepth 100000 in
theorem lX8_houseNamed_L2 {sc : Nat × (Nat → Int32)} : ∀ (n : Nat) (v0 : Nat) (v1 : Int64) (v3 : Int32) (h : am_H) (o : (Unit) ⊕ (Int32)), fX8_houseNamed_L2 n v0 v1 v3 h = some o → am_G sc (am_Cl am_T am_N sc 0) (am_at kX8_houseNamed) (fun t => match o with
    | .inl _ => t = ((29, [none, none, none, none], []), h)
    | .inr y => t.2 = h ∧ am_ret 1 (am_at kX8_houseNamed) t.1 = some (some (.int y))) ((2, [some (.ref v0), some (.long v1), none, some (.int v3)], []), h) := by
  intro n
  induction n with
  | zero => intro _ _ _ _ _ H; cases H
  | succ n ih =>
    intro v0 v1 v3 h o H
    rw [fX8_houseNamed_L2] at H
    refine am_G.fr 2 (g := (4, [some (.ref v0), some (.long v1), none, some (.int v3)], [.ref v0, .int v3])) rfl ?_
    obtain ⟨houses1, e2, H⟩ := am_bd H
    refine am_G.gI rfl e2 ?_
    by_cases c3 : houses1 ≤ v3
    · rw [if_pos c3] at H
      refine am_G.br (tgt := 29) rfl rfl (if_pos c3) rfl ?_
      obtain rfl := Option.some.inj H
      refine am_G.fg [none, none, none, none] (by simp only [am_sub, and_self]) ?_
      exact am_G.nd rfl
    · rw [if_neg c3] at H
      refine am_G.br (tgt := 10) rfl rfl (if_neg c3) rfl ?_
      refine am_G.fr 1 (g := (11, [some (.ref v0), some (.long v1), none, some (.int v3)], [.ref v0])) rfl ?_
      obtain ⟨houseNames4, e5, H⟩ := am_bd H
      refine am_G.gR rfl e5 ?_
      refine am_G.fr 1 (g := (15, [some (.ref v0), some (.long v1), none, some (.int v3)], [.int v3, .ref houseNames4])) rfl ?_
      obtain ⟨x6, e7, H⟩ := am_bd H
      refine am_G.aL rfl e7 ?_
      refine am_G.fr 2 (g := (18, [some (.ref v0), some (.long v1), none, some (.int v3)], [.int (lg_cmp x6 v1)])) rfl ?_
      by_cases c8 : ¬ (lg_cmp x6 v1) = 0
      · rw [if_pos c8] at H
        refine am_G.br (tgt := 23) rfl rfl (if_pos c8) rfl ?_
        refine am_G.fr 2 (g := (2, [some (.ref v0), some (.long v1), none, some (.int (v3 + (1 : Int32)))], [])) rfl ?_
        exact ih _ _ _ _ _ H
      · rw [if_neg c8] at H
        refine am_G.br (tgt := 21) rfl rfl (if_neg c8) rfl ?_
        refine am_G.fr 1 (g := (22, [some (.ref v0), some (.long v1), none, some (.int v3)], [.int v3])) rfl ?_
        obtain rfl := Option.some.inj H
        exact am_G.nd ⟨rfl, rfl⟩
set_option maxHeartbeats 4000000 in
set_option maxRecDepth 100000 in
theorem lX8_houseNamed {sc : Nat × (Nat → Int32)} {a0 : Nat} {a1 : Int64} {h : am_H} {r : Int32} (H : fX8_houseNamed a0 a1 h = some r) : am_Cl am_T am_N sc 1 75 [.ref a0, .long a1] h (some (.int r)) h := by
  unfold fX8_houseNamed at H
  obtain ⟨_, hO, H⟩ := am_bd H
  obtain ⟨fs0, hO⟩ := am_isO_ok hO
  refine am_mk (q := qX8_houseNamed) rfl (fun _ => ⟨_, _, _, _, _, rfl, hO, rfl, rfl⟩) (fun z => absurd z (by decide)) (Nat.le_of_ble_eq_true rfl) rfl ?_
  show am_G sc (am_Cl am_T am_N sc 0) (am_at kX8_houseNamed) (fun t => t.2 = h ∧ am_ret 1 (am_at kX8_houseNamed) t.1 = some (some (.int r))) ((0, [some (.ref a0), some (.long a1), none, none], []), h)
  refine am_G.fr 2 (g := (2, [some (.ref a0), some (.long a1), none, some (.int ((0 : Int32)))], [])) rfl ?_
  obtain ⟨o10, E9, H⟩ := am_bd H
  have hL := lX8_houseNamed_L2 (sc := sc) _ _ _ _ _ _ E9
  clear E9
  rcases o10 with _ | y11
  · dsimp only at H
    refine am_G.sq hL ?_
    refine am_G.fr 1 (g := (30, [none, none, none, none], [.int ((-1 : Int32))])) rfl ?_
    obtain rfl := Option.some.inj H
    exact am_G.nd ⟨rfl, rfl⟩
  · dsimp only at H
    obtain rfl := Option.some.inj H
    exact hL
def fX4_passHouse (a0 : Nat) (a1 : Nat) (a2 : Int32) (h : am_H) : Option (Int32 × am_H) :=
  (am_gL h a0 6 6).bind fun word1 =>
  (fX8_houseNamed a1 word1 h).bind fun x4 =>
  am_b2 (fX4_passTold a0 x4 a2 h) fun x6 hh7 =>
  (am_z01 x6).bind fun b8 =>
  some (b8, hh7)
set_option maxHeartbeats 4000000 in
set_option maxRecDepth 100000 in
theorem lX4_passHouse {sc : Nat × (Nat → Int32)} {a0 : Nat} {a1 : Nat} {a2 : Int32} {h : am_H} {r : Int32} {h1 : am_H} (H : fX4_passHouse a0 a1 a2 h = some (r, h1)) : am_Cl am_T am_N sc 13 29 [.ref a0, .ref a1, .int a2] h (some (.int r)) h1 := by
  unfold fX4_passHouse at H
  refine am_mk (q := qX4_passHouse) rfl (fun z => absurd z (by decide)) (fun z => absurd z (by decide)) (Nat.le_of_ble_eq_true rfl) rfl ?_
  show am_G sc (am_Cl am_T am_N sc 12) (am_at kX4_passHouse) (fun t => t.2 = h1 ∧ am_ret 2 (am_at kX4_passHouse) t.1 = some (some (.int r))) ((0, [some (.ref a0), some (.ref a1), some (.int a2)], []), h)
  refine am_G.fr 3 (g := (3, [some (.ref a0), some (.ref a1), some (.int a2)], [.ref a0, .ref a1, .ref a0])) rfl ?_
  obtain ⟨word1, e2, H⟩ := am_bd H
  refine am_G.gL rfl e2 ?_
  obtain ⟨x4, e3, H⟩ := am_bd H
  refine am_G.cl [.ref a1, .long word1] [.ref a0] (am_Cl.mono (by decide) (lX8_houseNamed e3)) rfl rfl rfl rfl (Nat.le_of_ble_eq_true rfl) ?_
  refine am_G.fr 1 (g := (10, [some (.ref a0), some (.ref a1), some (.int a2)], [.int a2, .int x4, .ref a0])) rfl ?_
  obtain ⟨x6, hh7, e5, H⟩ := am_bd2 H
  refine am_G.cl [.ref a0, .int x4, .int a2] [] (am_Cl.mono (by decide) (lX4_passTold e5)) rfl rfl rfl rfl (Nat.le_of_ble_eq_true rfl) ?_
  obtain ⟨b8, e9, H⟩ := am_bd H
  obtain ⟨rfl, rfl⟩ := am_inj2 H
  exact am_G.nd ⟨rfl, am_ret2 rfl e9⟩
def fX4_passKind (a0 : Nat) (h : am_H) : Option (Int32 × am_H) :=
  (fX7_isWord a0 1000014 h).bind fun x2 =>
  if x2 = 0 then
    (fX7_isWord a0 1000015 h).bind fun x5 =>
    if x5 = 0 then
      (fX7_isWord a0 1000016 h).bind fun x8 =>
      if x8 = 0 then
        (fX7_isWord a0 1000017 h).bind fun x11 =>
        if x11 = 0 then
          am_b2 (fX7_refuse a0 ((1 : Int32)) h) fun x14 hh15 =>
          (am_z01 x14).bind fun b16 =>
          some (b16, hh15)
        else
          (am_pF h a0 6 8 (.int ((3 : Int32)))).bind fun hh18 =>
          (fX7_step a0 hh18).bind fun hh21 =>
          some ((1 : Int32), hh21)
      else
        (am_pF h a0 6 8 (.int ((2 : Int32)))).bind fun hh22 =>
        (fX7_step a0 hh22).bind fun hh25 =>
        some ((1 : Int32), hh25)
    else
      (am_pF h a0 6 8 (.int ((1 : Int32)))).bind fun hh26 =>
      (fX7_step a0 hh26).bind fun hh29 =>
      some ((1 : Int32), hh29)
  else
    (am_pF h a0 6 8 (.int ((0 : Int32)))).bind fun hh30 =>
    (fX7_step a0 hh30).bind fun hh33 =>
    some ((1 : Int32), hh33)
set_option maxHeartbeats 4000000 in
set_option maxRecDepth 100000 in
theorem lX4_passKind {sc : Nat × (Nat → Int32)} {a0 : Nat} {h : am_H} {r : Int32} {h1 : am_H} (H : fX4_passKind a0 h = some (r, h1)) : am_Cl am_T am_N sc 11 28 [.ref a0] h (some (.int r)) h1 := by
  unfold fX4_passKind at H
  refine am_mk (q := qX4_passKind) rfl (fun z => absurd z (by decide)) (fun z => absurd z (by decide)) (Nat.le_of_ble_eq_true rfl) rfl ?_
  show am_G sc (am_Cl am_T am_N sc 10) (am_at kX4_passKind) (fun t => t.2 = h1 ∧ am_ret 2 (am_at kX4_passKind) t.1 = some (some (.int r))) ((0, [some (.ref a0)], []), h)
  refine am_G.fr 2 (g := (3, [some (.ref a0)], [.ref 1000014, .ref a0])) rfl ?_
  obtain ⟨x2, e1, H⟩ := am_bd H
  refine am_G.cl [.ref a0, .ref 1000014] [] (am_Cl.mono (by decide) (lX7_isWord e1)) rfl rfl rfl rfl (Nat.le_of_ble_eq_true rfl) ?_
  by_cases c3 : x2 = 0
  · rw [if_pos c3] at H
    refine am_G.br (tgt := 17) rfl rfl (if_pos c3) rfl ?_
    refine am_G.fr 2 (g := (20, [some (.ref a0)], [.ref 1000015, .ref a0])) rfl ?_
    obtain ⟨x5, e4, H⟩ := am_bd H
    refine am_G.cl [.ref a0, .ref 1000015] [] (am_Cl.mono (by decide) (lX7_isWord e4)) rfl rfl rfl rfl (Nat.le_of_ble_eq_true rfl) ?_
    by_cases c6 : x5 = 0
    · rw [if_pos c6] at H
      refine am_G.br (tgt := 34) rfl rfl (if_pos c6) rfl ?_
      refine am_G.fr 2 (g := (37, [some (.ref a0)], [.ref 1000016, .ref a0])) rfl ?_
      obtain ⟨x8, e7, H⟩ := am_bd H
      refine am_G.cl [.ref a0, .ref 1000016] [] (am_Cl.mono (by decide) (lX7_isWord e7)) rfl rfl rfl rfl (Nat.le_of_ble_eq_true rfl) ?_
      by_cases c9 : x8 = 0
      · rw [if_pos c9] at H
        refine am_G.br (tgt := 51) rfl rfl (if_pos c9) rfl ?_
        refine am_G.fr 2 (g := (54, [some (.ref a0)], [.ref 1000017, .ref a0])) rfl ?_
        obtain ⟨x11, e10, H⟩ := am_bd H
        refine am_G.cl [.ref a0, .ref 1000017] [] (am_Cl.mono (by decide) (lX7_isWord e10)) rfl rfl rfl rfl (Nat.le_of_ble_eq_true rfl) ?_
        by_cases c12 : x11 = 0
        · rw [if_pos c12] at H
          refine am_G.br (tgt := 68) rfl rfl (if_pos c12) rfl ?_
          refine am_G.fr 2 (g := (70, [some (.ref a0)], [.int ((1 : Int32)), .ref a0])) rfl ?_
          obtain ⟨x14, hh15, e13, H⟩ := am_bd2 H
          refine am_G.cl [.ref a0, .int ((1 : Int32))] [] (am_Cl.mono (by decide) (lX7_refuse e13)) rfl rfl rfl rfl (Nat.le_of_ble_eq_true rfl) ?_
          obtain ⟨b16, e17, H⟩ := am_bd H
          obtain ⟨rfl, rfl⟩ := am_inj2 H
          exact am_G.nd ⟨rfl, am_ret2 rfl e17⟩
        · rw [if_neg c12] at H
          refine am_G.br (tgt := 60) rfl rfl (if_neg c12) rfl ?_
          refine am_G.fr 2 (g := (62, [some (.ref a0)], [.int ((3 : Int32)), .ref a0])) rfl ?_
          obtain ⟨hh18, e19, H⟩ := am_bd H
          refine am_G.pF rfl e19 ?_
          refine am_G.fr 2 (g := (75, [some (.ref a0)], [.ref a0])) rfl ?_
          obtain ⟨hh21, e20, H⟩ := am_bd H
          refine am_G.cl [.ref a0] [] (am_Cl.mono (by decide) (lX7_step e20)) rfl rfl rfl rfl (Nat.le_of_ble_eq_true rfl) ?_
          refine am_G.fr 1 (g := (79, [some (.ref a0)], [.int ((1 : Int32))])) rfl ?_
          obtain ⟨rfl, rfl⟩ := am_inj2 H
          exact am_G.nd ⟨rfl, am_ret2 rfl (if_pos (by decide))⟩
      · rw [if_neg c9] at H
        refine am_G.br (tgt := 43) rfl rfl (if_neg c9) rfl ?_
        refine am_G.fr 2 (g := (45, [some (.ref a0)], [.int ((2 : Int32)), .ref a0])) rfl ?_
        obtain ⟨hh22, e23, H⟩ := am_bd H
        refine am_G.pF rfl e23 ?_
        refine am_G.fr 2 (g := (75, [some (.ref a0)], [.ref a0])) rfl ?_
        obtain ⟨hh25, e24, H⟩ := am_bd H
        refine am_G.cl [.ref a0] [] (am_Cl.mono (by decide) (lX7_step e24)) rfl rfl rfl rfl (Nat.le_of_ble_eq_true rfl) ?_
        refine am_G.fr 1 (g := (79, [some (.ref a0)], [.int ((1 : Int32))])) rfl ?_
        obtain ⟨rfl, rfl⟩ := am_inj2 H
        exact am_G.nd ⟨rfl, am_ret2 rfl (if_pos (by decide))⟩
    · rw [if_neg c6] at H
      refine am_G.br (tgt := 26) rfl rfl (if_neg c6) rfl ?_
      refine am_G.fr 2 (g := (28, [some (.ref a0)], [.int ((1 : Int32)), .ref a0])) rfl ?_
      obtain ⟨hh26, e27, H⟩ := am_bd H
      refine am_G.pF rfl e27 ?_
      refine am_G.fr 2 (g := (75, [some (.ref a0)], [.ref a0])) rfl ?_
      obtain ⟨hh29, e28, H⟩ := am_bd H
      refine am_G.cl [.ref a0] [] (am_Cl.mono (by decide) (lX7_step e28)) rfl rfl rfl rfl (Nat.le_of_ble_eq_true rfl) ?_
      refine am_G.fr 1 (g := (79, [some (.ref a0)], [.int ((1 : Int32))])) rfl ?_
      obtain ⟨rfl, rfl⟩ := am_inj2 H
      exact am_G.nd ⟨rfl, am_ret2 rfl (if_pos (by decide))⟩
  · rw [if_neg c3] at H
    refine am_G.br (tgt := 9) rfl rfl (if_neg c3) rfl ?_
    refine am_G.fr 2 (g := (11, [some (.ref a0)], [.int ((0 : Int32)), .ref a0])) rfl ?_
    obtain ⟨hh30, e31, H⟩ := am_bd H
    refine am_G.pF rfl e31 ?_
    refine am_G.fr 2 (g := (75, [some (.ref a0)], [.ref a0])) rfl ?_
    obtain ⟨hh33, e32, H⟩ := am_bd H
    refine am_G.cl [.ref a0] [] (am_Cl.mono (by decide) (lX7_step e32)) rfl rfl rfl rfl (Nat.le_of_ble_eq_true rfl) ?_
    refine am_G.fr 1 (g := (79, [some (.ref a0)], [.int ((1 : Int32))])) rfl ?_
    obtain ⟨rfl, rfl⟩ := am_inj2 H
    exact am_G.nd ⟨rfl, am_ret2 rfl (if_pos (by decide))⟩
def fX4_passNewName (a0 : Nat) (a1 : Nat) (h : am_H) : Option (Int32 × am_H) :=
  (fX7_isName a0 h).bind fun x2 =>
  if ¬ x2 = 0 then
    (am_gL h a0 6 6).bind fun word4 =>
    (fX8_houseNamed a1 word4 h).bind fun x7 =>
    if ¬ x7 = ((-1 : Int32)) then
      am_b2 (fX7_refuse a0 ((3 : Int32)) h) fun x10 hh11 =>
      (am_z01 x10).bind fun b12 =>
      some (b12, hh11)
    else
      (am_gL h a0 6 6).bind fun word14 =>
      (fX8_dayNamed a1 word14 h).bind fun x17 =>
      if x17 = ((-1 : Int32)) then
        (fX7_step a0 h).bind fun hh20 =>
        some ((1 : Int32), hh20)
      else
        am_b2 (fX7_refuse a0 ((3 : Int32)) h) fun x22 hh23 =>
        (am_z01 x22).bind fun b24 =>
        some (b24, hh23)
  else
    am_b2 (fX7_refuse a0 ((1 : Int32)) h) fun x27 hh28 =>
    (am_z01 x27).bind fun b29 =>
    some (b29, hh28)
set_option maxHeartbeats 4000000 in
set_option maxRecDepth 100000 in
theorem lX4_passNewName {sc : Nat × (Nat → Int32)} {a0 : Nat} {a1 : Nat} {h : am_H} {r : Int32} {h1 : am_H} (H : fX4_passNewName a0 a1 h = some (r, h1)) : am_Cl am_T am_N sc 12 27 [.ref a0, .ref a1] h (some (.int r)) h1 := by
  unfold fX4_passNewName at H
  refine am_mk (q := qX4_passNewName) rfl (fun z => absurd z (by decide)) (fun z => absurd z (by decide)) (Nat.le_of_ble_eq_true rfl) rfl ?_
  show am_G sc (am_Cl am_T am_N sc 11) (am_at kX4_passNewName) (fun t => t.2 = h1 ∧ am_ret 2 (am_at kX4_passNewName) t.1 = some (some (.int r))) ((0, [some (.ref a0), some (.ref a1)], []), h)
  refine am_G.fr 1 (g := (1, [some (.ref a0), some (.ref a1)], [.ref a0])) rfl ?_
  obtain ⟨x2, e1, H⟩ := am_bd H
  refine am_G.cl [.ref a0] [] (am_Cl.mono (by decide) (lX7_isName e1)) rfl rfl rfl rfl (Nat.le_of_ble_eq_true rfl) ?_
  by_cases c3 : ¬ x2 = 0
  · rw [if_pos c3] at H
    refine am_G.br (tgt := 13) rfl rfl (if_pos c3) rfl ?_
    refine am_G.fr 2 (g := (15, [some (.ref a0), some (.ref a1)], [.ref a0, .ref a1])) rfl ?_
    obtain ⟨word4, e5, H⟩ := am_bd H
    refine am_G.gL rfl e5 ?_
    obtain ⟨x7, e6, H⟩ := am_bd H
    refine am_G.cl [.ref a1, .long word4] [] (am_Cl.mono (by decide) (lX8_houseNamed e6)) rfl rfl rfl rfl (Nat.le_of_ble_eq_true rfl) ?_
    refine am_G.fr 1 (g := (22, [some (.ref a0), some (.ref a1)], [.int ((-1 : Int32)), .int x7])) rfl ?_
    by_cases c8 : ¬ x7 = ((-1 : Int32))
    · rw [if_pos c8] at H
      refine am_G.br (tgt := 37) rfl rfl (if_pos c8) rfl ?_
      refine am_G.fr 2 (g := (39, [some (.ref a0), some (.ref a1)], [.int ((3 : Int32)), .ref a0])) rfl ?_
      obtain ⟨x10, hh11, e9, H⟩ := am_bd2 H
      refine am_G.cl [.ref a0, .int ((3 : Int32))] [] (am_Cl.mono (by decide) (lX7_refuse e9)) rfl rfl rfl rfl (Nat.le_of_ble_eq_true rfl) ?_
      obtain ⟨b12, e13, H⟩ := am_bd H
      obtain ⟨rfl, rfl⟩ := am_inj2 H
      exact am_G.nd ⟨rfl, am_ret2 rfl e13⟩
    · rw [if_neg c8] at H
      refine am_G.br (tgt := 25) rfl rfl (if_neg c8) rfl ?_
      refine am_G.fr 2 (g := (27, [some (.ref a0), some (.ref a1)], [.ref a0, .ref a1])) rfl ?_
      obtain ⟨word14, e15, H⟩ := am_bd H
      refine am_G.gL rfl e15 ?_
      obtain ⟨x17, e16, H⟩ := am_bd H
      refine am_G.cl [.ref a1, .long word14] [] (am_Cl.mono (by decide) (lX8_dayNamed e16)) rfl rfl rfl rfl (Nat.le_of_ble_eq_true rfl) ?_
      refine am_G.fr 1 (g := (34, [some (.ref a0), some (.ref a1)], [.int ((-1 : Int32)), .int x17])) rfl ?_
      by_cases c18 : x17 = ((-1 : Int32))
      · rw [if_pos c18] at H
        refine am_G.br (tgt := 43) rfl rfl (if_pos c18) rfl ?_
        refine am_G.fr 1 (g := (44, [some (.ref a0), some (.ref a1)], [.ref a0])) rfl ?_
        obtain ⟨hh20, e19, H⟩ := am_bd H
        refine am_G.cl [.ref a0] [] (am_Cl.mono (by decide) (lX7_step e19)) rfl rfl rfl rfl (Nat.le_of_ble_eq_true rfl) ?_
        refine am_G.fr 1 (g := (48, [some (.ref a0), some (.ref a1)], [.int ((1 : Int32))])) rfl ?_
        obtain ⟨rfl, rfl⟩ := am_inj2 H
        exact am_G.nd ⟨rfl, am_ret2 rfl (if_pos (by decide))⟩
      · rw [if_neg c18] at H
        refine am_G.br (tgt := 37) rfl rfl (if_neg c18) rfl ?_
        refine am_G.fr 2 (g := (39, [some (.ref a0), some (.ref a1)], [.int ((3 : Int32)), .ref a0])) rfl ?_
        obtain ⟨x22, hh23, e21, H⟩ := am_bd2 H
        refine am_G.cl [.ref a0, .int ((3 : Int32))] [] (am_Cl.mono (by decide) (lX7_refuse e21)) rfl rfl rfl rfl (Nat.le_of_ble_eq_true rfl) ?_
        obtain ⟨b24, e25, H⟩ := am_bd H
        obtain ⟨rfl, rfl⟩ := am_inj2 H
        exact am_G.nd ⟨rfl, am_ret2 rfl e25⟩
  · rw [if_neg c3] at H
    refine am_G.br (tgt := 7) rfl rfl (if_neg c3) rfl ?_
    refine am_G.fr 2 (g := (9, [some (.ref a0), some (.ref a1)], [.int ((1 : Int32)), .ref a0])) rfl ?_
    obtain ⟨x27, hh28, e26, H⟩ := am_bd2 H
    refine am_G.cl [.ref a0, .int ((1 : Int32))] [] (am_Cl.mono (by decide) (lX7_refuse e26)) rfl rfl rfl rfl (Nat.le_of_ble_eq_true rfl) ?_
    obtain ⟨b29, e30, H⟩ := am_bd H
    obtain ⟨rfl, rfl⟩ := am_inj2 H
    exact am_G.nd ⟨rfl, am_ret2 rfl e30⟩
def fX7_passNumber (a0 : Nat) (a1 : Int32) (a2 : Int32) (h : am_H) : Option (Int32 × am_H) :=
  (am_isO h a0 6).bind fun _ =>
  (fX7_isNumber a0 h).bind fun x2 =>
  if ¬ x2 = 0 then
    (am_gI h a0 6 5).bind fun number4 =>
    (fX9_within number4 a1 a2 h).bind fun x7 =>
    if ¬ x7 = 0 then
      (am_gI h a0 6 5).bind fun number9 =>
      (am_pF h a0 6 8 (.int number9)).bind fun hh11 =>
      (fX7_step a0 hh11).bind fun hh14 =>
      some ((1 : Int32), hh14)
    else
      am_b2 (fX7_refuse a0 ((4 : Int32)) h) fun x16 hh17 =>
      (am_z01 x16).bind fun b18 =>
      some (b18, hh17)
  else
    am_b2 (fX7_refuse a0 ((1 : Int32)) h) fun x21 hh22 =>
    (am_z01 x21).bind fun b23 =>
    some (b23, hh22)
set_option maxHeartbeats 4000000 in
set_option maxRecDepth 100000 in
theorem lX7_passNumber {sc : Nat × (Nat → Int32)} {a0 : Nat} {a1 : Int32} {a2 : Int32} {h : am_H} {r : Int32} {h1 : am_H} (H : fX7_passNumber a0 a1 a2 h = some (r, h1)) : am_Cl am_T am_N sc 3 70 [.ref a0, .int a1, .int a2] h (some (.int r)) h1 := by
  unfold fX7_passNumber at H
  obtain ⟨_, hO, H⟩ := am_bd H
  obtain ⟨fs0, hO⟩ := am_isO_ok hO
  refine am_mk (q := qX7_passNumber) rfl (fun _ => ⟨_, _, _, _, _, rfl, hO, rfl, rfl⟩) (fun z => absurd z (by decide)) (Nat.le_of_ble_eq_true rfl) rfl ?_
  show am_G sc (am_Cl am_T am_N sc 2) (am_at kX7_passNumber) (fun t => t.2 = h1 ∧ am_ret 2 (am_at kX7_passNumber) t.1 = some (some (.int r))) ((0, [some (.ref a0), some (.int a1), some (.int a2)], []), h)
  refine am_G.fr 1 (g := (1, [some (.ref a0), some (.int a1), some (.int a2)], [.ref a0])) rfl ?_
  obtain ⟨x2, e1, H⟩ := am_bd H
  refine am_G.cl [.ref a0] [] (am_Cl.mono (by decide) (lX7_isNumber e1)) rfl rfl rfl rfl (Nat.le_of_ble_eq_true rfl) ?_
  by_cases c3 : ¬ x2 = 0
  · rw [if_pos c3] at H
    refine am_G.br (tgt := 13) rfl rfl (if_pos c3) rfl ?_
    refine am_G.fr 1 (g := (14, [some (.ref a0), some (.int a1), some (.int a2)], [.ref a0])) rfl ?_
    obtain ⟨number4, e5, H⟩ := am_bd H
    refine am_G.gI rfl e5 ?_
    refine am_G.fr 2 (g := (19, [some (.ref a0), some (.int a1), some (.int a2)], [.int a2, .int a1, .int number4])) rfl ?_
    obtain ⟨x7, e6, H⟩ := am_bd H
    refine am_G.cl [.int number4, .int a1, .int a2] [] (am_Cl.mono (by decide) (lX9_within e6)) rfl rfl rfl rfl (Nat.le_of_ble_eq_true rfl) ?_
    by_cases c8 : ¬ x7 = 0
    · rw [if_pos c8] at H
      refine am_G.br (tgt := 31) rfl rfl (if_pos c8) rfl ?_
      refine am_G.fr 2 (g := (33, [some (.ref a0), some (.int a1), some (.int a2)], [.ref a0, .ref a0])) rfl ?_
      obtain ⟨number9, e10, H⟩ := am_bd H
      refine am_G.gI rfl e10 ?_
      obtain ⟨hh11, e12, H⟩ := am_bd H
      refine am_G.pF rfl e12 ?_
      refine am_G.fr 1 (g := (40, [some (.ref a0), some (.int a1), some (.int a2)], [.ref a0])) rfl ?_
      obtain ⟨hh14, e13, H⟩ := am_bd H
      refine am_G.cl [.ref a0] [] (am_Cl.mono (by decide) (lX7_step e13)) rfl rfl rfl rfl (Nat.le_of_ble_eq_true rfl) ?_
      refine am_G.fr 1 (g := (44, [some (.ref a0), some (.int a1), some (.int a2)], [.int ((1 : Int32))])) rfl ?_
      obtain ⟨rfl, rfl⟩ := am_inj2 H
      exact am_G.nd ⟨rfl, am_ret2 rfl (if_pos (by decide))⟩
    · rw [if_neg c8] at H
      refine am_G.br (tgt := 25) rfl rfl (if_neg c8) rfl ?_
      refine am_G.fr 2 (g := (27, [some (.ref a0), some (.int a1), some (.int a2)], [.int ((4 : Int32)), .ref a0])) rfl ?_
      obtain ⟨x16, hh17, e15, H⟩ := am_bd2 H
      refine am_G.cl [.ref a0, .int ((4 : Int32))] [] (am_Cl.mono (by decide) (lX7_refuse e15)) rfl rfl rfl rfl (Nat.le_of_ble_eq_true rfl) ?_
      obtain ⟨b18, e19, H⟩ := am_bd H
      obtain ⟨rfl, rfl⟩ := am_inj2 H
      exact am_G.nd ⟨rfl, am_ret2 rfl e19⟩
  · rw [if_neg c3] at H
    refine am_G.br (tgt := 7) rfl rfl (if_neg c3) rfl ?_
    refine am_G.fr 2 (g := (9, [some (.ref a0), some (.int a1), some (.int a2)], [.int ((1 : Int32)), .ref a0])) rfl ?_
    obtain ⟨x21, hh22, e20, H⟩ := am_bd2 H
    refine am_G.cl [.ref a0, .int ((1 : Int32))] [] (am_Cl.mono (by decide) (lX7_refuse e20)) rfl rfl rfl rfl (Nat.le_of_ble_eq_true rfl) ?_
    obtain ⟨b23, e24, H⟩ := am_bd H
    obtain ⟨rfl, rfl⟩ := am_inj2 H
    exact am_G.nd ⟨rfl, am_ret2 rfl e24⟩
def fX7_passWord (a0 : Nat) (a1 : Nat) (h : am_H) : Option (Int32 × am_H) :=
  (am_isO h a0 6).bind fun _ =>
  (fX7_isWord a0 a1 h).bind fun x2 =>
  if ¬ x2 = 0 then
    (fX7_step a0 h).bind fun hh5 =>
    some ((1 : Int32), hh5)
  else
    am_b2 (fX7_refuse a0 ((1 : Int32)) h) fun x7 hh8 =>
    (am_z01 x7).bind fun b9 =>
    some (b9, hh8)
set_option maxHeartbeats 4000000 in
set_option maxRecDepth 100000 in
theorem lX7_passWord {sc : Nat × (Nat → Int32)} {a0 : Nat} {a1 : Nat} {h : am_H} {r : Int32} {h1 : am_H} (H : fX7_passWord a0 a1 h = some (r, h1)) : am_Cl am_T am_N sc 11 68 [.ref a0, .ref a1] h (some (.int r)) h1 := by
  unfold fX7_passWord at H
  obtain ⟨_, hO, H⟩ := am_bd H
  obtain ⟨fs0, hO⟩ := am_isO_ok hO
  refine am_mk (q := qX7_passWord) rfl (fun _ => ⟨_, _, _, _, _, rfl, hO, rfl, rfl⟩) (fun z => absurd z (by decide)) (Nat.le_of_ble_eq_true rfl) rfl ?_
  show am_G sc (am_Cl am_T am_N sc 10) (am_at kX7_passWord) (fun t => t.2 = h1 ∧ am_ret 2 (am_at kX7_passWord) t.1 = some (some (.int r))) ((0, [some (.ref a0), some (.ref a1)], []), h)
  refine am_G.fr 2 (g := (2, [some (.ref a0), some (.ref a1)], [.ref a1, .ref a0])) rfl ?_
  obtain ⟨x2, e1, H⟩ := am_bd H
  refine am_G.cl [.ref a0, .ref a1] [] (am_Cl.mono (by decide) (lX7_isWord e1)) rfl rfl rfl rfl (Nat.le_of_ble_eq_true rfl) ?_
  by_cases c3 : ¬ x2 = 0
  · rw [if_pos c3] at H
    refine am_G.br (tgt := 14) rfl rfl (if_pos c3) rfl ?_
    refine am_G.fr 1 (g := (15, [some (.ref a0), some (.ref a1)], [.ref a0])) rfl ?_
    obtain ⟨hh5, e4, H⟩ := am_bd H
    refine am_G.cl [.ref a0] [] (am_Cl.mono (by decide) (lX7_step e4)) rfl rfl rfl rfl (Nat.le_of_ble_eq_true rfl) ?_
    refine am_G.fr 1 (g := (19, [some (.ref a0), some (.ref a1)], [.int ((1 : Int32))])) rfl ?_
    obtain ⟨rfl, rfl⟩ := am_inj2 H
    exact am_G.nd ⟨rfl, am_ret2 rfl (if_pos (by decide))⟩
  · rw [if_neg c3] at H
    refine am_G.br (tgt := 8) rfl rfl (if_neg c3) rfl ?_
    refine am_G.fr 2 (g := (10, [some (.ref a0), some (.ref a1)], [.int ((1 : Int32)), .ref a0])) rfl ?_
    obtain ⟨x7, hh8, e6, H⟩ := am_bd2 H
    refine am_G.cl [.ref a0, .int ((1 : Int32))] [] (am_Cl.mono (by decide) (lX7_refuse e6)) rfl rfl rfl rfl (Nat.le_of_ble_eq_true rfl) ?_
    obtain ⟨b9, e10, H⟩ := am_bd H
    obtain ⟨rfl, rfl⟩ := am_inj2 H
    exact am_G.nd ⟨rfl, am_ret2 rfl e10⟩
def fX8_addDay (a0 : Nat) (a1 : Int64) (a2 : Int32) (a3 : Int32) (a4 : Int32) (a5 : Int32) (h : am_H) : Option (am_H) :=
  (am_isO h a0 7).bind fun _ =>
  (am_gI h a0 7 12).bind fun days1 =>
  Option.bind (
    if ((6 : Int32)) ≤ days1 then
      some h
    else
      (am_gR h a0 7 3).bind fun dayNames5 =>
      (am_gI h a0 7 12).bind fun days7 =>
      (am_sL h dayNames5 days7 a1).bind fun hh9 =>
      (am_gR hh9 a0 7 4).bind fun kind11 =>
      (am_gI hh9 a0 7 12).bind fun days13 =>
      (am_sI hh9 0 kind11 days13 a2).bind fun hh15 =>
      (am_gR hh15 a0 7 5).bind fun home17 =>
      (am_gI hh15 a0 7 12).bind fun days19 =>
      (am_sI hh15 0 home17 days19 a3).bind fun hh21 =>
      (am_gR hh21 a0 7 6).bind fun on23 =>
      (am_gI hh21 a0 7 12).bind fun days25 =>
      (am_sI hh21 0 on23 days25 a4).bind fun hh27 =>
      (am_gR hh27 a0 7 7).bind fun says29 =>
      (am_gI hh27 a0 7 12).bind fun days31 =>
      (am_sI hh27 0 says29 days31 a5).bind fun hh33 =>
      (am_gR hh33 a0 7 9).bind fun wants35 =>
      (am_gI hh33 a0 7 12).bind fun days37 =>
      Option.bind (
        if ¬ a2 = ((1 : Int32)) then
          some ((1 : Int32))
        else
          some ((2 : Int32))) fun js39 =>
      (am_sI hh33 0 wants35 days37 js39).bind fun hh41 =>
      (am_gI hh41 a0 7 12).bind fun days43 =>
      (am_pF hh41 a0 7 12 (.int (days43 + ((1 : Int32))))).bind fun hh45 =>
      some hh45) fun hh3 =>
  some hh3
set_option maxHeartbeats 4000000 in
set_option maxRecDepth 100000 in
theorem lX8_addDay {sc : Nat × (Nat → Int32)} {a0 : Nat} {a1 : Int64} {a2 : Int32} {a3 : Int32} {a4 : Int32} {a5 : Int32} {h : am_H} {h1 : am_H} (H : fX8_addDay a0 a1 a2 a3 a4 a5 h = some h1) : am_Cl am_T am_N sc 1 74 [.ref a0, .long a1, .int a2, .int a3, .int a4, .int a5] h none h1 := by
  unfold fX8_addDay at H
  obtain ⟨_, hO, H⟩ := am_bd H
  obtain ⟨fs0, hO⟩ := am_isO_ok hO
  refine am_mk (q := qX8_addDay) rfl (fun _ => ⟨_, _, _, _, _, rfl, hO, rfl, rfl⟩) (fun z => absurd z (by decide)) (Nat.le_of_ble_eq_true rfl) rfl ?_
  show am_G sc (am_Cl am_T am_N sc 0) (am_at kX8_addDay) (fun t => t.2 = h1 ∧ am_ret 0 (am_at kX8_addDay) t.1 = some none) ((0, [some (.ref a0), some (.long a1), none, some (.int a2), some (.int a3), some (.int a4), some (.int a5)], []), h)
  refine am_G.fr 1 (g := (1, [some (.ref a0), some (.long a1), none, some (.int a2), some (.int a3), some (.int a4), some (.int a5)], [.ref a0])) rfl ?_
  obtain ⟨days1, e2, H⟩ := am_bd H
  refine am_G.gI rfl e2 ?_
  refine am_G.fr 1 (g := (6, [some (.ref a0), some (.long a1), none, some (.int a2), some (.int a3), some (.int a4), some (.int a5)], [.int ((6 : Int32)), .int days1])) rfl ?_
  obtain ⟨hh3, E48, H⟩ := am_bd H
  refine am_G.sq (t := ((91, [none, none, none, none, none, none, none], []), hh3)) ?_ ?_
  · clear H
    have H := E48
    clear E48
    by_cases c4 : ((6 : Int32)) ≤ days1
    · rw [if_pos c4] at H
      refine am_G.br (tgt := 91) rfl rfl (if_pos c4) rfl ?_
      obtain rfl := Option.some.inj H
      refine am_G.fg [none, none, none, none, none, none, none] (by simp only [am_sub, and_self]) ?_
      exact am_G.nd rfl
    · rw [if_neg c4] at H
      refine am_G.br (tgt := 9) rfl rfl (if_neg c4) rfl ?_
      refine am_G.fr 1 (g := (10, [some (.ref a0), some (.long a1), none, some (.int a2), some (.int a3), some (.int a4), some (.int a5)], [.ref a0])) rfl ?_
      obtain ⟨dayNames5, e6, H⟩ := am_bd H
      refine am_G.gR rfl e6 ?_
      refine am_G.fr 1 (g := (14, [some (.ref a0), some (.long a1), none, some (.int a2), some (.int a3), some (.int a4), some (.int a5)], [.ref a0, .ref dayNames5])) rfl ?_
      obtain ⟨days7, e8, H⟩ := am_bd H
      refine am_G.gI rfl e8 ?_
      refine am_G.fr 1 (g := (18, [some (.ref a0), some (.long a1), none, some (.int a2), some (.int a3), some (.int a4), some (.int a5)], [.long a1, .int days7, .ref dayNames5])) rfl ?_
      obtain ⟨hh9, e10, H⟩ := am_bd H
      refine am_G.sL rfl e10 ?_
      refine am_G.fr 1 (g := (20, [some (.ref a0), some (.long a1), none, some (.int a2), some (.int a3), some (.int a4), some (.int a5)], [.ref a0])) rfl ?_
      obtain ⟨kind11, e12, H⟩ := am_bd H
      refine am_G.gR rfl e12 ?_
      refine am_G.fr 1 (g := (24, [some (.ref a0), some (.long a1), none, some (.int a2), some (.int a3), some (.int a4), some (.int a5)], [.ref a0, .ref kind11])) rfl ?_
      obtain ⟨days13, e14, H⟩ := am_bd H
      refine am_G.gI rfl e14 ?_
      refine am_G.fr 1 (g := (28, [some (.ref a0), some (.long a1), none, some (.int a2), some (.int a3), some (.int a4), some (.int a5)], [.int a2, .int days13, .ref kind11])) rfl ?_
      obtain ⟨hh15, e16, H⟩ := am_bd H
      refine am_G.sI rfl e16 ?_
      refine am_G.fr 1 (g := (30, [some (.ref a0), some (.long a1), none, some (.int a2), some (.int a3), some (.int a4), some (.int a5)], [.ref a0])) rfl ?_
      obtain ⟨home17, e18, H⟩ := am_bd H
      refine am_G.gR rfl e18 ?_
      refine am_G.fr 1 (g := (34, [some (.ref a0), some (.long a1), none, some (.int a2), some (.int a3), some (.int a4), some (.int a5)], [.ref a0, .ref home17])) rfl ?_
      obtain ⟨days19, e20, H⟩ := am_bd H
      refine am_G.gI rfl e20 ?_
      refine am_G.fr 1 (g := (39, [some (.ref a0), some (.long a1), none, some (.int a2), some (.int a3), some (.int a4), some (.int a5)], [.int a3, .int days19, .ref home17])) rfl ?_
      obtain ⟨hh21, e22, H⟩ := am_bd H
      refine am_G.sI rfl e22 ?_
      refine am_G.fr 1 (g := (41, [some (.ref a0), some (.long a1), none, some (.int a2), some (.int a3), some (.int a4), some (.int a5)], [.ref a0])) rfl ?_
      obtain ⟨on23, e24, H⟩ := am_bd H
      refine am_G.gR rfl e24 ?_
      refine am_G.fr 1 (g := (45, [some (.ref a0), some (.long a1), none, some (.int a2), some (.int a3), some (.int a4), some (.int a5)], [.ref a0, .ref on23])) rfl ?_
      obtain ⟨days25, e26, H⟩ := am_bd H
      refine am_G.gI rfl e26 ?_
      refine am_G.fr 1 (g := (50, [some (.ref a0), some (.long a1), none, some (.int a2), some (.int a3), some (.int a4), some (.int a5)], [.int a4, .int days25, .ref on23])) rfl ?_
      obtain ⟨hh27, e28, H⟩ := am_bd H
      refine am_G.sI rfl e28 ?_
      refine am_G.fr 1 (g := (52, [some (.ref a0), some (.long a1), none, some (.int a2), some (.int a3), some (.int a4), some (.int a5)], [.ref a0])) rfl ?_
      obtain ⟨says29, e30, H⟩ := am_bd H
      refine am_G.gR rfl e30 ?_
      refine am_G.fr 1 (g := (56, [some (.ref a0), some (.long a1), none, some (.int a2), some (.int a3), some (.int a4), some (.int a5)], [.ref a0, .ref says29])) rfl ?_
      obtain ⟨days31, e32, H⟩ := am_bd H
      refine am_G.gI rfl e32 ?_
      refine am_G.fr 1 (g := (61, [some (.ref a0), some (.long a1), none, some (.int a2), some (.int a3), some (.int a4), some (.int a5)], [.int a5, .int days31, .ref says29])) rfl ?_
      obtain ⟨hh33, e34, H⟩ := am_bd H
      refine am_G.sI rfl e34 ?_
      refine am_G.fr 1 (g := (63, [some (.ref a0), some (.long a1), none, some (.int a2), some (.int a3), some (.int a4), some (.int a5)], [.ref a0])) rfl ?_
      obtain ⟨wants35, e36, H⟩ := am_bd H
      refine am_G.gR rfl e36 ?_
      refine am_G.fr 1 (g := (67, [some (.ref a0), some (.long a1), none, some (.int a2), some (.int a3), some (.int a4), some (.int a5)], [.ref a0, .ref wants35])) rfl ?_
      obtain ⟨days37, e38, H⟩ := am_bd H
      refine am_G.gI rfl e38 ?_
      refine am_G.fr 2 (g := (72, [some (.ref a0), some (.long a1), none, some (.int a2), some (.int a3), some (.int a4), some (.int a5)], [.int ((1 : Int32)), .int a2, .int days37, .ref wants35])) rfl ?_
      obtain ⟨js39, E47, H⟩ := am_bd H
      refine am_G.sq (t := ((80, [some (.ref a0), none, none, none, none, none, none], [.int js39, .int days37, .ref wants35]), hh33)) ?_ ?_
      · clear H
        have H := E47
        clear E47
        by_cases c40 : ¬ a2 = ((1 : Int32))
        · rw [if_pos c40] at H
          refine am_G.br (tgt := 79) rfl rfl (if_pos c40) rfl ?_
          refine am_G.fr 1 (g := (80, [some (.ref a0), some (.long a1), none, some (.int a2), some (.int a3), some (.int a4), some (.int a5)], [.int ((1 : Int32)), .int days37, .ref wants35])) rfl ?_
          obtain rfl := Option.some.inj H
          refine am_G.fg [some (.ref a0), none, none, none, none, none, none] (by simp only [am_sub, and_self]) ?_
          exact am_G.nd rfl
        · rw [if_neg c40] at H
          refine am_G.br (tgt := 75) rfl rfl (if_neg c40) rfl ?_
          refine am_G.fr 2 (g := (80, [some (.ref a0), some (.long a1), none, some (.int a2), some (.int a3), some (.int a4), some (.int a5)], [.int ((2 : Int32)), .int days37, .ref wants35])) rfl ?_
          obtain rfl := Option.some.inj H
          refine am_G.fg [some (.ref a0), none, none, none, none, none, none] (by simp only [am_sub, and_self]) ?_
          exact am_G.nd rfl
      · clear E47
        obtain ⟨hh41, e42, H⟩ := am_bd H
        refine am_G.sI rfl e42 ?_
        refine am_G.fr 2 (g := (83, [some (.ref a0), none, none, none, none, none, none], [.ref a0, .ref a0])) rfl ?_
        obtain ⟨days43, e44, H⟩ := am_bd H
        refine am_G.gI rfl e44 ?_
        refine am_G.fr 2 (g := (88, [some (.ref a0), none, none, none, none, none, none], [.int (days43 + ((1 : Int32))), .ref a0])) rfl ?_
        obtain ⟨hh45, e46, H⟩ := am_bd H
        refine am_G.pF rfl e46 ?_
        obtain rfl := Option.some.inj H
        refine am_G.fg [none, none, none, none, none, none, none] (by simp only [am_sub, and_self]) ?_
        exact am_G.nd rfl
  · clear E48
    obtain rfl := Option.some.inj H
    exact am_G.nd ⟨rfl, rfl⟩
def fX4_readDay (a0 : Nat) (a1 : Nat) (h : am_H) : Option (Int32 × am_H) :=
  (am_gI h a1 7 12).bind fun days1 =>
  if days1 < ((6 : Int32)) then
    (fX7_step a0 h).bind fun hh5 =>
    (am_gL hh5 a0 6 6).bind fun word6 =>
    am_b2 (fX4_passNewName a0 a1 hh5) fun x9 hh10 =>
    if x9 = 0 then
      some ((0 : Int32), hh10)
    else
      am_b2 (fX4_passKind a0 hh10) fun x13 hh14 =>
      if ¬ x13 = 0 then
        (am_gI hh14 a0 6 8).bind fun taken16 =>
        am_b2 (fX7_passWord a0 1000004 hh14) fun x19 hh20 =>
        if x19 = 0 then
          some ((0 : Int32), hh20)
        else
          am_b2 (fX4_passHouse a0 a1 ((0 : Int32)) hh20) fun x23 hh24 =>
          if ¬ x23 = 0 then
            (am_gI hh24 a0 6 8).bind fun taken26 =>
            am_b2 (fX7_passWord a0 1000005 hh24) fun x29 hh30 =>
            if x29 = 0 then
              some ((0 : Int32), hh30)
            else
              am_b2 (fX7_passNumber a0 ((0 : Int32)) ((11 : Int32)) hh30) fun x33 hh34 =>
              if ¬ x33 = 0 then
                (am_gI hh34 a0 6 8).bind fun taken36 =>
                am_b2 (fX7_passWord a0 1000006 hh34) fun x39 hh40 =>
                if x39 = 0 then
                  some ((0 : Int32), hh40)
                else
                  am_b2 (fX7_passNumber a0 ((0 : Int32)) ((40 : Int32)) hh40) fun x43 hh44 =>
                  if ¬ x43 = 0 then
                    (am_gI hh44 a0 6 8).bind fun taken46 =>
                    (fX8_addDay a1 word6 taken16 taken26 taken36 taken46 hh44).bind fun hh49 =>
                    am_b2 (fX7_passSign a0 ((59 : Int32)) hh49) fun x51 hh52 =>
                    (am_z01 x51).bind fun b53 =>
                    some (b53, hh52)
                  else
                    some ((0 : Int32), hh44)
              else
                some ((0 : Int32), hh34)
          else
            some ((0 : Int32), hh24)
      else
        some ((0 : Int32), hh14)
  else
    am_b2 (fX7_refuse a0 ((5 : Int32)) h) fun x56 hh57 =>
    (am_z01 x56).bind fun b58 =>
    some (b58, hh57)
set_option maxHeartbeats 4000000 in
set_option maxRecDepth 100000 in
theorem lX4_readDay {sc : Nat × (Nat → Int32)} {a0 : Nat} {a1 : Nat} {h : am_H} {r : Int32} {h1 : am_H} (H : fX4_readDay a0 a1 h = some (r, h1)) : am_Cl am_T am_N sc 14 20 [.ref a0, .ref a1] h (some (.int r)) h1 := by
  unfold fX4_readDay at H
  refine am_mk (q := qX4_readDay) rfl (fun z => absurd z (by decide)) (fun z => absurd z (by decide)) (Nat.le_of_ble_eq_true rfl) rfl ?_
  show am_G sc (am_Cl am_T am_N sc 13) (am_at kX4_readDay) (fun t => t.2 = h1 ∧ am_ret 2 (am_at kX4_readDay) t.1 = some (some (.int r))) ((0, [some (.ref a0), some (.ref a1), none, none, none, none, none], []), h)
  refine am_G.fr 1 (g := (1, [some (.ref a0), some (.ref a1), none, none, none, none, none], [.ref a1])) rfl ?_
  obtain ⟨days1, e2, H⟩ := am_bd H
  refine am_G.gI rfl e2 ?_
  refine am_G.fr 1 (g := (6, [some (.ref a0), some (.ref a1), none, none, none, none, none], [.int ((6 : Int32)), .int days1])) rfl ?_
  by_cases c3 : days1 < ((6 : Int32))
  · rw [if_pos c3] at H
    refine am_G.br (tgt := 15) rfl rfl (if_pos c3) rfl ?_
    refine am_G.fr 1 (g := (16, [some (.ref a0), some (.ref a1), none, none, none, none, none], [.ref a0])) rfl ?_
    obtain ⟨hh5, e4, H⟩ := am_bd H
    refine am_G.cl [.ref a0] [] (am_Cl.mono (by decide) (lX7_step e4)) rfl rfl rfl rfl (Nat.le_of_ble_eq_true rfl) ?_
    refine am_G.fr 1 (g := (20, [some (.ref a0), some (.ref a1), none, none, none, none, none], [.ref a0])) rfl ?_
    obtain ⟨word6, e7, H⟩ := am_bd H
    refine am_G.gL rfl e7 ?_
    refine am_G.fr 3 (g := (26, [some (.ref a0), some (.ref a1), some (.long word6), none, none, none, none], [.ref a1, .ref a0])) rfl ?_
    obtain ⟨x9, hh10, e8, H⟩ := am_bd2 H
    refine am_G.cl [.ref a0, .ref a1] [] (am_Cl.mono (by decide) (lX4_passNewName e8)) rfl rfl rfl rfl (Nat.le_of_ble_eq_true rfl) ?_
    by_cases c11 : x9 = 0
    · rw [if_pos c11] at H
      refine am_G.br (tgt := 39) rfl rfl (if_pos c11) rfl ?_
      refine am_G.fr 1 (g := (40, [some (.ref a0), some (.ref a1), some (.long word6), none, none, none, none], [.int ((0 : Int32))])) rfl ?_
      obtain ⟨rfl, rfl⟩ := am_inj2 H
      exact am_G.nd ⟨rfl, am_ret2 rfl (if_pos (by decide))⟩
    · rw [if_neg c11] at H
      refine am_G.br (tgt := 32) rfl rfl (if_neg c11) rfl ?_
      refine am_G.fr 1 (g := (33, [some (.ref a0), some (.ref a1), some (.long word6), none, none, none, none], [.ref a0])) rfl ?_
      obtain ⟨x13, hh14, e12, H⟩ := am_bd2 H
      refine am_G.cl [.ref a0] [] (am_Cl.mono (by decide) (lX4_passKind e12)) rfl rfl rfl rfl (Nat.le_of_ble_eq_true rfl) ?_
      by_cases c15 : ¬ x13 = 0
      · rw [if_pos c15] at H
        refine am_G.br (tgt := 41) rfl rfl (if_pos c15) rfl ?_
        refine am_G.fr 1 (g := (42, [some (.ref a0), some (.ref a1), some (.long word6), none, none, none, none], [.ref a0])) rfl ?_
        obtain ⟨taken16, e17, H⟩ := am_bd H
        refine am_G.gI rfl e17 ?_
        refine am_G.fr 3 (g := (50, [some (.ref a0), some (.ref a1), some (.long word6), none, some (.int taken16), none, none], [.ref 1000004, .ref a0])) rfl ?_
        obtain ⟨x19, hh20, e18, H⟩ := am_bd2 H
        refine am_G.cl [.ref a0, .ref 1000004] [] (am_Cl.mono (by decide) (lX7_passWord e18)) rfl rfl rfl rfl (Nat.le_of_ble_eq_true rfl) ?_
        by_cases c21 : x19 = 0
        · rw [if_pos c21] at H
          refine am_G.br (tgt := 65) rfl rfl (if_pos c21) rfl ?_
          refine am_G.fr 1 (g := (66, [some (.ref a0), some (.ref a1), some (.long word6), none, some (.int taken16), none, none], [.int ((0 : Int32))])) rfl ?_
          obtain ⟨rfl, rfl⟩ := am_inj2 H
          exact am_G.nd ⟨rfl, am_ret2 rfl (if_pos (by decide))⟩
        · rw [if_neg c21] at H
          refine am_G.br (tgt := 56) rfl rfl (if_neg c21) rfl ?_
          refine am_G.fr 3 (g := (59, [some (.ref a0), some (.ref a1), some (.long word6), none, some (.int taken16), none, none], [.int ((0 : Int32)), .ref a1, .ref a0])) rfl ?_
          obtain ⟨x23, hh24, e22, H⟩ := am_bd2 H
          refine am_G.cl [.ref a0, .ref a1, .int ((0 : Int32))] [] (am_Cl.mono (by decide) (lX4_passHouse e22)) rfl rfl rfl rfl (Nat.le_of_ble_eq_true rfl) ?_
          by_cases c25 : ¬ x23 = 0
          · rw [if_pos c25] at H
            refine am_G.br (tgt := 67) rfl rfl (if_pos c25) rfl ?_
            refine am_G.fr 1 (g := (68, [some (.ref a0), some (.ref a1), some (.long word6), none, some (.int taken16), none, none], [.ref a0])) rfl ?_
            obtain ⟨taken26, e27, H⟩ := am_bd H
            refine am_G.gI rfl e27 ?_
            refine am_G.fr 3 (g := (76, [some (.ref a0), some (.ref a1), some (.long word6), none, some (.int taken16), some (.int taken26), none], [.ref 1000005, .ref a0])) rfl ?_
            obtain ⟨x29, hh30, e28, H⟩ := am_bd2 H
            refine am_G.cl [.ref a0, .ref 1000005] [] (am_Cl.mono (by decide) (lX7_passWord e28)) rfl rfl rfl rfl (Nat.le_of_ble_eq_true rfl) ?_
            by_cases c31 : x29 = 0
            · rw [if_pos c31] at H
              refine am_G.br (tgt := 92) rfl rfl (if_pos c31) rfl ?_
              refine am_G.fr 1 (g := (93, [some (.ref a0), some (.ref a1), some (.long word6), none, some (.int taken16), some (.int taken26), none], [.int ((0 : Int32))])) rfl ?_
              obtain ⟨rfl, rfl⟩ := am_inj2 H
              exact am_G.nd ⟨rfl, am_ret2 rfl (if_pos (by decide))⟩
            · rw [if_neg c31] at H
              refine am_G.br (tgt := 82) rfl rfl (if_neg c31) rfl ?_
              refine am_G.fr 3 (g := (86, [some (.ref a0), some (.ref a1), some (.long word6), none, some (.int taken16), some (.int taken26), none], [.int ((11 : Int32)), .int ((0 : Int32)), .ref a0])) rfl ?_
              obtain ⟨x33, hh34, e32, H⟩ := am_bd2 H
              refine am_G.cl [.ref a0, .int ((0 : Int32)), .int ((11 : Int32))] [] (am_Cl.mono (by decide) (lX7_passNumber e32)) rfl rfl rfl rfl (Nat.le_of_ble_eq_true rfl) ?_
              by_cases c35 : ¬ x33 = 0
              · rw [if_pos c35] at H
                refine am_G.br (tgt := 94) rfl rfl (if_pos c35) rfl ?_
                refine am_G.fr 1 (g := (95, [some (.ref a0), some (.ref a1), some (.long word6), none, some (.int taken16), some (.int taken26), none], [.ref a0])) rfl ?_
                obtain ⟨taken36, e37, H⟩ := am_bd H
                refine am_G.gI rfl e37 ?_
                refine am_G.fr 3 (g := (103, [some (.ref a0), some (.ref a1), some (.long word6), none, some (.int taken16), some (.int taken26), some (.int taken36)], [.ref 1000006, .ref a0])) rfl ?_
                obtain ⟨x39, hh40, e38, H⟩ := am_bd2 H
                refine am_G.cl [.ref a0, .ref 1000006] [] (am_Cl.mono (by decide) (lX7_passWord e38)) rfl rfl rfl rfl (Nat.le_of_ble_eq_true rfl) ?_
                by_cases c41 : x39 = 0
                · rw [if_pos c41] at H
                  refine am_G.br (tgt := 119) rfl rfl (if_pos c41) rfl ?_
                  refine am_G.fr 1 (g := (120, [some (.ref a0), some (.ref a1), some (.long word6), none, some (.int taken16), some (.int taken26), some (.int taken36)], [.int ((0 : Int32))])) rfl ?_
                  obtain ⟨rfl, rfl⟩ := am_inj2 H
                  exact am_G.nd ⟨rfl, am_ret2 rfl (if_pos (by decide))⟩
                · rw [if_neg c41] at H
                  refine am_G.br (tgt := 109) rfl rfl (if_neg c41) rfl ?_
                  refine am_G.fr 3 (g := (113, [some (.ref a0), some (.ref a1), some (.long word6), none, some (.int taken16), some (.int taken26), some (.int taken36)], [.int ((40 : Int32)), .int ((0 : Int32)), .ref a0])) rfl ?_
                  obtain ⟨x43, hh44, e42, H⟩ := am_bd2 H
                  refine am_G.cl [.ref a0, .int ((0 : Int32)), .int ((40 : Int32))] [] (am_Cl.mono (by decide) (lX7_passNumber e42)) rfl rfl rfl rfl (Nat.le_of_ble_eq_true rfl) ?_
                  by_cases c45 : ¬ x43 = 0
                  · rw [if_pos c45] at H
                    refine am_G.br (tgt := 121) rfl rfl (if_pos c45) rfl ?_
                    refine am_G.fr 6 (g := (130, [some (.ref a0), some (.ref a1), some (.long word6), none, some (.int taken16), some (.int taken26), some (.int taken36)], [.ref a0, .int taken36, .int taken26, .int taken16, .long word6, .ref a1])) rfl ?_
                    obtain ⟨taken46, e47, H⟩ := am_bd H
                    refine am_G.gI rfl e47 ?_
                    obtain ⟨hh49, e48, H⟩ := am_bd H
                    refine am_G.cl [.ref a1, .long word6, .int taken16, .int taken26, .int taken36, .int taken46] [] (am_Cl.mono (by decide) (lX8_addDay e48)) rfl rfl rfl rfl (Nat.le_of_ble_eq_true rfl) ?_
                    refine am_G.fr 2 (g := (139, [some (.ref a0), some (.ref a1), some (.long word6), none, some (.int taken16), some (.int taken26), some (.int taken36)], [.int ((59 : Int32)), .ref a0])) rfl ?_
                    obtain ⟨x51, hh52, e50, H⟩ := am_bd2 H
                    refine am_G.cl [.ref a0, .int ((59 : Int32))] [] (am_Cl.mono (by decide) (lX7_passSign e50)) rfl rfl rfl rfl (Nat.le_of_ble_eq_true rfl) ?_
                    obtain ⟨b53, e54, H⟩ := am_bd H
                    obtain ⟨rfl, rfl⟩ := am_inj2 H
                    exact am_G.nd ⟨rfl, am_ret2 rfl e54⟩
                  · rw [if_neg c45] at H
                    refine am_G.br (tgt := 119) rfl rfl (if_neg c45) rfl ?_
                    refine am_G.fr 1 (g := (120, [some (.ref a0), some (.ref a1), some (.long word6), none, some (.int taken16), some (.int taken26), some (.int taken36)], [.int ((0 : Int32))])) rfl ?_
                    obtain ⟨rfl, rfl⟩ := am_inj2 H
                    exact am_G.nd ⟨rfl, am_ret2 rfl (if_pos (by decide))⟩
              · rw [if_neg c35] at H
                refine am_G.br (tgt := 92) rfl rfl (if_neg c35) rfl ?_
                refine am_G.fr 1 (g := (93, [some (.ref a0), some (.ref a1), some (.long word6), none, some (.int taken16), some (.int taken26), none], [.int ((0 : Int32))])) rfl ?_
                obtain ⟨rfl, rfl⟩ := am_inj2 H
                exact am_G.nd ⟨rfl, am_ret2 rfl (if_pos (by decide))⟩
          · rw [if_neg c25] at H
            refine am_G.br (tgt := 65) rfl rfl (if_neg c25) rfl ?_
            refine am_G.fr 1 (g := (66, [some (.ref a0), some (.ref a1), some (.long word6), none, some (.int taken16), none, none], [.int ((0 : Int32))])) rfl ?_
            obtain ⟨rfl, rfl⟩ := am_inj2 H
            exact am_G.nd ⟨rfl, am_ret2 rfl (if_pos (by decide))⟩
      · rw [if_neg c15] at H
        refine am_G.br (tgt := 39) rfl rfl (if_neg c15) rfl ?_
        refine am_G.fr 1 (g := (40, [some (.ref a0), some (.ref a1), some (.long word6), none, none, none, none], [.int ((0 : Int32))])) rfl ?_
        obtain ⟨rfl, rfl⟩ := am_inj2 H
        exact am_G.nd ⟨rfl, am_ret2 rfl (if_pos (by decide))⟩
  · rw [if_neg c3] at H
    refine am_G.br (tgt := 9) rfl rfl (if_neg c3) rfl ?_
    refine am_G.fr 2 (g := (11, [some (.ref a0), some (.ref a1), none, none, none, none, none], [.int ((5 : Int32)), .ref a0])) rfl ?_
    obtain ⟨x56, hh57, e55, H⟩ := am_bd2 H
    refine am_G.cl [.ref a0, .int ((5 : Int32))] [] (am_Cl.mono (by decide) (lX7_refuse e55)) rfl rfl rfl rfl (Nat.le_of_ble_eq_true rfl) ?_
    obtain ⟨b58, e59, H⟩ := am_bd H
    obtain ⟨rfl, rfl⟩ := am_inj2 H
    exact am_G.nd ⟨rfl, am_ret2 rfl e59⟩
def fX8_addHouse (a0 : Nat) (a1 : Int64) (a2 : Int32) (h : am_H) : Option (am_H) :=
  (am_isO h a0 7).bind fun _ =>
  (am_gI h a0 7 11).bind fun houses1 =>
  Option.bind (
    if ((4 : Int32)) ≤ houses1 then
      some h
    else
      (am_gR h a0 7 0).bind fun houseNames5 =>
      (am_gI h a0 7 11).bind fun houses7 =>
      (am_sL h houseNames5 houses7 a1).bind fun hh9 =>
      (am_gR hh9 a0 7 1).bind fun beds11 =>
      (am_gI hh9 a0 7 11).bind fun houses13 =>
      (am_sI hh9 0 beds11 houses13 a2).bind fun hh15 =>
      (am_gI hh15 a0 7 11).bind fun houses17 =>
      (am_pF hh15 a0 7 11 (.int (houses17 + ((1 : Int32))))).bind fun hh19 =>
      some hh19) fun hh3 =>
  some hh3
set_option maxHeartbeats 4000000 in
set_option maxRecDepth 100000 in
theorem lX8_addHouse {sc : Nat × (Nat → Int32)} {a0 : Nat} {a1 : Int64} {a2 : Int32} {h : am_H} {h1 : am_H} (H : fX8_addHouse a0 a1 a2 h = some h1) : am_Cl am_T am_N sc 1 73 [.ref a0, .long a1, .int a2] h none h1 := by
  unfold fX8_addHouse at H
  obtain ⟨_, hO, H⟩ := am_bd H
  obtain ⟨fs0, hO⟩ := am_isO_ok hO
  refine am_mk (q := qX8_addHouse) rfl (fun _ => ⟨_, _, _, _, _, rfl, hO, rfl, rfl⟩) (fun z => absurd z (by decide)) (Nat.le_of_ble_eq_true rfl) rfl ?_
  show am_G sc (am_Cl am_T am_N sc 0) (am_at kX8_addHouse) (fun t => t.2 = h1 ∧ am_ret 0 (am_at kX8_addHouse) t.1 = some none) ((0, [some (.ref a0), some (.long a1), none, some (.int a2)], []), h)
  refine am_G.fr 1 (g := (1, [some (.ref a0), some (.long a1), none, some (.int a2)], [.ref a0])) rfl ?_
  obtain ⟨houses1, e2, H⟩ := am_bd H
  refine am_G.gI rfl e2 ?_
  refine am_G.fr 1 (g := (5, [some (.ref a0), some (.long a1), none, some (.int a2)], [.int ((4 : Int32)), .int houses1])) rfl ?_
  obtain ⟨hh3, E21, H⟩ := am_bd H
  refine am_G.sq (t := ((38, [none, none, none, none], []), hh3)) ?_ ?_
  · clear H
    have H := E21
    clear E21
    by_cases c4 : ((4 : Int32)) ≤ houses1
    · rw [if_pos c4] at H
      refine am_G.br (tgt := 38) rfl rfl (if_pos c4) rfl ?_
      obtain rfl := Option.some.inj H
      refine am_G.fg [none, none, none, none] (by simp only [am_sub, and_self]) ?_
      exact am_G.nd rfl
    · rw [if_neg c4] at H
      refine am_G.br (tgt := 8) rfl rfl (if_neg c4) rfl ?_
      refine am_G.fr 1 (g := (9, [some (.ref a0), some (.long a1), none, some (.int a2)], [.ref a0])) rfl ?_
      obtain ⟨houseNames5, e6, H⟩ := am_bd H
      refine am_G.gR rfl e6 ?_
      refine am_G.fr 1 (g := (13, [some (.ref a0), some (.long a1), none, some (.int a2)], [.ref a0, .ref houseNames5])) rfl ?_
      obtain ⟨houses7, e8, H⟩ := am_bd H
      refine am_G.gI rfl e8 ?_
      refine am_G.fr 1 (g := (17, [some (.ref a0), some (.long a1), none, some (.int a2)], [.long a1, .int houses7, .ref houseNames5])) rfl ?_
      obtain ⟨hh9, e10, H⟩ := am_bd H
      refine am_G.sL rfl e10 ?_
      refine am_G.fr 1 (g := (19, [some (.ref a0), some (.long a1), none, some (.int a2)], [.ref a0])) rfl ?_
      obtain ⟨beds11, e12, H⟩ := am_bd H
      refine am_G.gR rfl e12 ?_
      refine am_G.fr 1 (g := (23, [some (.ref a0), some (.long a1), none, some (.int a2)], [.ref a0, .ref beds11])) rfl ?_
      obtain ⟨houses13, e14, H⟩ := am_bd H
      refine am_G.gI rfl e14 ?_
      refine am_G.fr 1 (g := (27, [some (.ref a0), some (.long a1), none, some (.int a2)], [.int a2, .int houses13, .ref beds11])) rfl ?_
      obtain ⟨hh15, e16, H⟩ := am_bd H
      refine am_G.sI rfl e16 ?_
      refine am_G.fr 2 (g := (30, [some (.ref a0), some (.long a1), none, some (.int a2)], [.ref a0, .ref a0])) rfl ?_
      obtain ⟨houses17, e18, H⟩ := am_bd H
      refine am_G.gI rfl e18 ?_
      refine am_G.fr 2 (g := (35, [some (.ref a0), some (.long a1), none, some (.int a2)], [.int (houses17 + ((1 : Int32))), .ref a0])) rfl ?_
      obtain ⟨hh19, e20, H⟩ := am_bd H
      refine am_G.pF rfl e20 ?_
      obtain rfl := Option.some.inj H
      refine am_G.fg [none, none, none, none] (by simp only [am_sub, and_self]) ?_
      exact am_G.nd rfl
  · clear E21
    obtain rfl := Option.some.inj H
    exact am_G.nd ⟨rfl, rfl⟩
def fX4_readHouse (a0 : Nat) (a1 : Nat) (h : am_H) : Option (Int32 × am_H) :=
  (am_gI h a1 7 11).bind fun houses1 =>
  if houses1 < ((4 : Int32)) then
    (fX7_step a0 h).bind fun hh5 =>
    (am_gL hh5 a0 6 6).bind fun word6 =>
    am_b2 (fX4_passNewName a0 a1 hh5) fun x9 hh10 =>
    if x9 = 0 then
      some ((0 : Int32), hh10)
    else
      am_b2 (fX7_passWord a0 1000001 hh10) fun x13 hh14 =>
      if x13 = 0 then
        some ((0 : Int32), hh14)
      else
        am_b2 (fX7_passNumber a0 ((1 : Int32)) ((6 : Int32)) hh14) fun x17 hh18 =>
        if ¬ x17 = 0 then
          (am_gI hh18 a0 6 8).bind fun taken20 =>
          (fX8_addHouse a1 word6 taken20 hh18).bind fun hh23 =>
          am_b2 (fX7_passSign a0 ((59 : Int32)) hh23) fun x25 hh26 =>
          (am_z01 x25).bind fun b27 =>
          some (b27, hh26)
        else
          some ((0 : Int32), hh18)
  else
    am_b2 (fX7_refuse a0 ((5 : Int32)) h) fun x30 hh31 =>
    (am_z01 x30).bind fun b32 =>
    some (b32, hh31)
set_option maxHeartbeats 4000000 in
set_option maxRecDepth 100000 in
theorem lX4_readHouse {sc : Nat × (Nat → Int32)} {a0 : Nat} {a1 : Nat} {h : am_H} {r : Int32} {h1 : am_H} (H : fX4_readHouse a0 a1 h = some (r, h1)) : am_Cl am_T am_N sc 13 18 [.ref a0, .ref a1] h (some (.int r)) h1 := by
  unfold fX4_readHouse at H
  refine am_mk (q := qX4_readHouse) rfl (fun z => absurd z (by decide)) (fun z => absurd z (by decide)) (Nat.le_of_ble_eq_true rfl) rfl ?_
  show am_G sc (am_Cl am_T am_N sc 12) (am_at kX4_readHouse) (fun t => t.2 = h1 ∧ am_ret 2 (am_at kX4_readHouse) t.1 = some (some (.int r))) ((0, [some (.ref a0), some (.ref a1), none, none], []), h)
  refine am_G.fr 1 (g := (1, [some (.ref a0), some (.ref a1), none, none], [.ref a1])) rfl ?_
  obtain ⟨houses1, e2, H⟩ := am_bd H
  refine am_G.gI rfl e2 ?_
  refine am_G.fr 1 (g := (5, [some (.ref a0), some (.ref a1), none, none], [.int ((4 : Int32)), .int houses1])) rfl ?_
  by_cases c3 : houses1 < ((4 : Int32))
  · rw [if_pos c3] at H
    refine am_G.br (tgt := 14) rfl rfl (if_pos c3) rfl ?_
    refine am_G.fr 1 (g := (15, [some (.ref a0), some (.ref a1), none, none], [.ref a0])) rfl ?_
    obtain ⟨hh5, e4, H⟩ := am_bd H
    refine am_G.cl [.ref a0] [] (am_Cl.mono (by decide) (lX7_step e4)) rfl rfl rfl rfl (Nat.le_of_ble_eq_true rfl) ?_
    refine am_G.fr 1 (g := (19, [some (.ref a0), some (.ref a1), none, none], [.ref a0])) rfl ?_
    obtain ⟨word6, e7, H⟩ := am_bd H
    refine am_G.gL rfl e7 ?_
    refine am_G.fr 3 (g := (25, [some (.ref a0), some (.ref a1), some (.long word6), none], [.ref a1, .ref a0])) rfl ?_
    obtain ⟨x9, hh10, e8, H⟩ := am_bd2 H
    refine am_G.cl [.ref a0, .ref a1] [] (am_Cl.mono (by decide) (lX4_passNewName e8)) rfl rfl rfl rfl (Nat.le_of_ble_eq_true rfl) ?_
    by_cases c11 : x9 = 0
    · rw [if_pos c11] at H
      refine am_G.br (tgt := 50) rfl rfl (if_pos c11) rfl ?_
      refine am_G.fr 1 (g := (51, [some (.ref a0), some (.ref a1), some (.long word6), none], [.int ((0 : Int32))])) rfl ?_
      obtain ⟨rfl, rfl⟩ := am_inj2 H
      exact am_G.nd ⟨rfl, am_ret2 rfl (if_pos (by decide))⟩
    · rw [if_neg c11] at H
      refine am_G.br (tgt := 31) rfl rfl (if_neg c11) rfl ?_
      refine am_G.fr 2 (g := (34, [some (.ref a0), some (.ref a1), some (.long word6), none], [.ref 1000001, .ref a0])) rfl ?_
      obtain ⟨x13, hh14, e12, H⟩ := am_bd2 H
      refine am_G.cl [.ref a0, .ref 1000001] [] (am_Cl.mono (by decide) (lX7_passWord e12)) rfl rfl rfl rfl (Nat.le_of_ble_eq_true rfl) ?_
      by_cases c15 : x13 = 0
      · rw [if_pos c15] at H
        refine am_G.br (tgt := 50) rfl rfl (if_pos c15) rfl ?_
        refine am_G.fr 1 (g := (51, [some (.ref a0), some (.ref a1), some (.long word6), none], [.int ((0 : Int32))])) rfl ?_
        obtain ⟨rfl, rfl⟩ := am_inj2 H
        exact am_G.nd ⟨rfl, am_ret2 rfl (if_pos (by decide))⟩
      · rw [if_neg c15] at H
        refine am_G.br (tgt := 40) rfl rfl (if_neg c15) rfl ?_
        refine am_G.fr 3 (g := (44, [some (.ref a0), some (.ref a1), some (.long word6), none], [.int ((6 : Int32)), .int ((1 : Int32)), .ref a0])) rfl ?_
        obtain ⟨x17, hh18, e16, H⟩ := am_bd2 H
        refine am_G.cl [.ref a0, .int ((1 : Int32)), .int ((6 : Int32))] [] (am_Cl.mono (by decide) (lX7_passNumber e16)) rfl rfl rfl rfl (Nat.le_of_ble_eq_true rfl) ?_
        by_cases c19 : ¬ x17 = 0
        · rw [if_pos c19] at H
          refine am_G.br (tgt := 52) rfl rfl (if_pos c19) rfl ?_
          refine am_G.fr 3 (g := (55, [some (.ref a0), some (.ref a1), some (.long word6), none], [.ref a0, .long word6, .ref a1])) rfl ?_
          obtain ⟨taken20, e21, H⟩ := am_bd H
          refine am_G.gI rfl e21 ?_
          obtain ⟨hh23, e22, H⟩ := am_bd H
          refine am_G.cl [.ref a1, .long word6, .int taken20] [] (am_Cl.mono (by decide) (lX8_addHouse e22)) rfl rfl rfl rfl (Nat.le_of_ble_eq_true rfl) ?_
          refine am_G.fr 2 (g := (64, [some (.ref a0), some (.ref a1), some (.long word6), none], [.int ((59 : Int32)), .ref a0])) rfl ?_
          obtain ⟨x25, hh26, e24, H⟩ := am_bd2 H
          refine am_G.cl [.ref a0, .int ((59 : Int32))] [] (am_Cl.mono (by decide) (lX7_passSign e24)) rfl rfl rfl rfl (Nat.le_of_ble_eq_true rfl) ?_
          obtain ⟨b27, e28, H⟩ := am_bd H
          obtain ⟨rfl, rfl⟩ := am_inj2 H
          exact am_G.nd ⟨rfl, am_ret2 rfl e28⟩
        · rw [if_neg c19] at H
          refine am_G.br (tgt := 50) rfl rfl (if_neg c19) rfl ?_
          refine am_G.fr 1 (g := (51, [some (.ref a0), some (.ref a1), some (.long word6), none], [.int ((0 : Int32))])) rfl ?_
          obtain ⟨rfl, rfl⟩ := am_inj2 H
          exact am_G.nd ⟨rfl, am_ret2 rfl (if_pos (by decide))⟩
  · rw [if_neg c3] at H
    refine am_G.br (tgt := 8) rfl rfl (if_neg c3) rfl ?_
    refine am_G.fr 2 (g := (10, [some (.ref a0), some (.ref a1), none, none], [.int ((5 : Int32)), .ref a0])) rfl ?_
    obtain ⟨x30, hh31, e29, H⟩ := am_bd2 H
    refine am_G.cl [.ref a0, .int ((5 : Int32))] [] (am_Cl.mono (by decide) (lX7_refuse e29)) rfl rfl rfl rfl (Nat.le_of_ble_eq_true rfl) ?_
    obtain ⟨b32, e33, H⟩ := am_bd H
    obtain ⟨rfl, rfl⟩ := am_inj2 H
    exact am_G.nd ⟨rfl, am_ret2 rfl e33⟩
def fX4_readLends (a0 : Nat) (a1 : Nat) (h : am_H) : Option (Int32 × am_H) :=
  (fX7_step a0 h).bind fun hh2 =>
  am_b2 (fX4_passHouse a0 a1 ((0 : Int32)) hh2) fun x4 hh5 =>
  if ¬ x4 = 0 then
    (am_gI hh5 a0 6 8).bind fun taken7 =>
    (am_gR hh5 a1 7 2).bind fun lenders9 =>
    (am_aI hh5 0 lenders9 taken7).bind fun x11 =>
    am_b2 (fX4_passHouse a0 a1 ((((1 : Int32)) <<< (taken7 &&& 31)) ||| x11) hh5) fun x14 hh15 =>
    if ¬ x14 = 0 then
      (am_gI hh15 a0 6 8).bind fun taken17 =>
      (am_gR hh15 a1 7 2).bind fun lenders19 =>
      (am_aI hh15 0 lenders19 taken7).bind fun x21 =>
      (am_sI hh15 0 lenders19 taken7 (x21 ||| (((1 : Int32)) <<< (taken17 &&& 31)))).bind fun hh23 =>
      (am_gR hh23 a1 7 2).bind fun lenders25 =>
      (am_aI hh23 0 lenders25 taken17).bind fun x27 =>
      (am_sI hh23 0 lenders25 taken17 (x27 ||| (((1 : Int32)) <<< (taken7 &&& 31)))).bind fun hh29 =>
      am_b2 (fX7_passSign a0 ((59 : Int32)) hh29) fun x32 hh33 =>
      (am_z01 x32).bind fun b34 =>
      some (b34, hh33)
    else
      some ((0 : Int32), hh15)
  else
    some ((0 : Int32), hh5)
set_option maxHeartbeats 4000000 in
set_option maxRecDepth 100000 in
theorem lX4_readLends {sc : Nat × (Nat → Int32)} {a0 : Nat} {a1 : Nat} {h : am_H} {r : Int32} {h1 : am_H} (H : fX4_readLends a0 a1 h = some (r, h1)) : am_Cl am_T am_N sc 14 19 [.ref a0, .ref a1] h (some (.int r)) h1 := by
  unfold fX4_readLends at H
  refine am_mk (q := qX4_readLends) rfl (fun z => absurd z (by decide)) (fun z => absurd z (by decide)) (Nat.le_of_ble_eq_true rfl) rfl ?_
  show am_G sc (am_Cl am_T am_N sc 13) (am_at kX4_readLends) (fun t => t.2 = h1 ∧ am_ret 2 (am_at kX4_readLends) t.1 = some (some (.int r))) ((0, [some (.ref a0), some (.ref a1), none, none], []), h)
  refine am_G.fr 1 (g := (1, [some (.ref a0), some (.ref a1), none, none], [.ref a0])) rfl ?_
  obtain ⟨hh2, e1, H⟩ := am_bd H
  refine am_G.cl [.ref a0] [] (am_Cl.mono (by decide) (lX7_step e1)) rfl rfl rfl rfl (Nat.le_of_ble_eq_true rfl) ?_
  refine am_G.fr 3 (g := (7, [some (.ref a0), some (.ref a1), none, none], [.int ((0 : Int32)), .ref a1, .ref a0])) rfl ?_
  obtain ⟨x4, hh5, e3, H⟩ := am_bd2 H
  refine am_G.cl [.ref a0, .ref a1, .int ((0 : Int32))] [] (am_Cl.mono (by decide) (lX4_passHouse e3)) rfl rfl rfl rfl (Nat.le_of_ble_eq_true rfl) ?_
  by_cases c6 : ¬ x4 = 0
  · rw [if_pos c6] at H
    refine am_G.br (tgt := 15) rfl rfl (if_pos c6) rfl ?_
    refine am_G.fr 1 (g := (16, [some (.ref a0), some (.ref a1), none, none], [.ref a0])) rfl ?_
    obtain ⟨taken7, e8, H⟩ := am_bd H
    refine am_G.gI rfl e8 ?_
    refine am_G.fr 7 (g := (26, [some (.ref a0), some (.ref a1), some (.int taken7), none], [.ref a1, .int (((1 : Int32)) <<< (taken7 &&& 31)), .ref a1, .ref a0])) rfl ?_
    obtain ⟨lenders9, e10, H⟩ := am_bd H
    refine am_G.gR rfl e10 ?_
    refine am_G.fr 1 (g := (30, [some (.ref a0), some (.ref a1), some (.int taken7), none], [.int taken7, .ref lenders9, .int (((1 : Int32)) <<< (taken7 &&& 31)), .ref a1, .ref a0])) rfl ?_
    obtain ⟨x11, e12, H⟩ := am_bd H
    refine am_G.aI rfl e12 ?_
    refine am_G.fr 1 (g := (32, [some (.ref a0), some (.ref a1), some (.int taken7), none], [.int ((((1 : Int32)) <<< (taken7 &&& 31)) ||| x11), .ref a1, .ref a0])) rfl ?_
    obtain ⟨x14, hh15, e13, H⟩ := am_bd2 H
    refine am_G.cl [.ref a0, .ref a1, .int ((((1 : Int32)) <<< (taken7 &&& 31)) ||| x11)] [] (am_Cl.mono (by decide) (lX4_passHouse e13)) rfl rfl rfl rfl (Nat.le_of_ble_eq_true rfl) ?_
    by_cases c16 : ¬ x14 = 0
    · rw [if_pos c16] at H
      refine am_G.br (tgt := 40) rfl rfl (if_pos c16) rfl ?_
      refine am_G.fr 1 (g := (41, [some (.ref a0), some (.ref a1), some (.int taken7), none], [.ref a0])) rfl ?_
      obtain ⟨taken17, e18, H⟩ := am_bd H
      refine am_G.gI rfl e18 ?_
      refine am_G.fr 2 (g := (46, [some (.ref a0), some (.ref a1), some (.int taken7), some (.int taken17)], [.ref a1])) rfl ?_
      obtain ⟨lenders19, e20, H⟩ := am_bd H
      refine am_G.gR rfl e20 ?_
      refine am_G.fr 2 (g := (51, [some (.ref a0), some (.ref a1), some (.int taken7), some (.int taken17)], [.int taken7, .ref lenders19, .int taken7, .ref lenders19])) rfl ?_
      obtain ⟨x21, e22, H⟩ := am_bd H
      refine am_G.aI rfl e22 ?_
      refine am_G.fr 4 (g := (56, [some (.ref a0), some (.ref a1), some (.int taken7), some (.int taken17)], [.int (x21 ||| (((1 : Int32)) <<< (taken17 &&& 31))), .int taken7, .ref lenders19])) rfl ?_
      obtain ⟨hh23, e24, H⟩ := am_bd H
      refine am_G.sI rfl e24 ?_
      refine am_G.fr 1 (g := (58, [some (.ref a0), some (.ref a1), some (.int taken7), some (.int taken17)], [.ref a1])) rfl ?_
      obtain ⟨lenders25, e26, H⟩ := am_bd H
      refine am_G.gR rfl e26 ?_
      refine am_G.fr 2 (g := (63, [some (.ref a0), some (.ref a1), some (.int taken7), some (.int taken17)], [.int taken17, .ref lenders25, .int taken17, .ref lenders25])) rfl ?_
      obtain ⟨x27, e28, H⟩ := am_bd H
      refine am_G.aI rfl e28 ?_
      refine am_G.fr 4 (g := (68, [some (.ref a0), some (.ref a1), some (.int taken7), some (.int taken17)], [.int (x27 ||| (((1 : Int32)) <<< (taken7 &&& 31))), .int taken17, .ref lenders25])) rfl ?_
      obtain ⟨hh29, e30, H⟩ := am_bd H
      refine am_G.sI rfl e30 ?_
      refine am_G.fr 2 (g := (72, [some (.ref a0), some (.ref a1), some (.int taken7), some (.int taken17)], [.int ((59 : Int32)), .ref a0])) rfl ?_
      obtain ⟨x32, hh33, e31, H⟩ := am_bd2 H
      refine am_G.cl [.ref a0, .int ((59 : Int32))] [] (am_Cl.mono (by decide) (lX7_passSign e31)) rfl rfl rfl rfl (Nat.le_of_ble_eq_true rfl) ?_
      obtain ⟨b34, e35, H⟩ := am_bd H
      obtain ⟨rfl, rfl⟩ := am_inj2 H
      exact am_G.nd ⟨rfl, am_ret2 rfl e35⟩
    · rw [if_neg c16] at H
      refine am_G.br (tgt := 38) rfl rfl (if_neg c16) rfl ?_
      refine am_G.fr 1 (g := (39, [some (.ref a0), some (.ref a1), some (.int taken7), none], [.int ((0 : Int32))])) rfl ?_
      obtain ⟨rfl, rfl⟩ := am_inj2 H
      exact am_G.nd ⟨rfl, am_ret2 rfl (if_pos (by decide))⟩
  · rw [if_neg c6] at H
    refine am_G.br (tgt := 13) rfl rfl (if_neg c6) rfl ?_
    refine am_G.fr 1 (g := (14, [some (.ref a0), some (.ref a1), none, none], [.int ((0 : Int32))])) rfl ?_
    obtain ⟨rfl, rfl⟩ := am_inj2 H
    exact am_G.nd ⟨rfl, am_ret2 rfl (if_pos (by decide))⟩
def fX4_readStays (a0 : Nat) (a1 : Nat) (h : am_H) : Option (Int32 × am_H) :=
  (am_gI h a1 7 14).bind fun staysTold1 =>
  if staysTold1 = 0 then
    (am_pF h a1 7 14 (.int ((1 : Int32)))).bind fun hh4 =>
    (fX7_step a0 hh4).bind fun hh7 =>
    am_b2 (fX7_passNumber a0 ((1 : Int32)) ((4 : Int32)) hh7) fun x9 hh10 =>
    if ¬ x9 = 0 then
      (am_gI hh10 a0 6 8).bind fun taken12 =>
      (am_pF hh10 a1 7 13 (.int taken12)).bind fun hh14 =>
      am_b2 (fX7_passSign a0 ((59 : Int32)) hh14) fun x17 hh18 =>
      (am_z01 x17).bind fun b19 =>
      some (b19, hh18)
    else
      some ((0 : Int32), hh10)
  else
    am_b2 (fX7_refuse a0 ((3 : Int32)) h) fun x22 hh23 =>
    (am_z01 x22).bind fun b24 =>
    some (b24, hh23)
set_option maxHeartbeats 4000000 in
set_option maxRecDepth 100000 in
theorem lX4_readStays {sc : Nat × (Nat → Int32)} {a0 : Nat} {a1 : Nat} {h : am_H} {r : Int32} {h1 : am_H} (H : fX4_readStays a0 a1 h = some (r, h1)) : am_Cl am_T am_N sc 4 22 [.ref a0, .ref a1] h (some (.int r)) h1 := by
  unfold fX4_readStays at H
  refine am_mk (q := qX4_readStays) rfl (fun z => absurd z (by decide)) (fun z => absurd z (by decide)) (Nat.le_of_ble_eq_true rfl) rfl ?_
  show am_G sc (am_Cl am_T am_N sc 3) (am_at kX4_readStays) (fun t => t.2 = h1 ∧ am_ret 2 (am_at kX4_readStays) t.1 = some (some (.int r))) ((0, [some (.ref a0), some (.ref a1)], []), h)
  refine am_G.fr 1 (g := (1, [some (.ref a0), some (.ref a1)], [.ref a1])) rfl ?_
  obtain ⟨staysTold1, e2, H⟩ := am_bd H
  refine am_G.gI rfl e2 ?_
  by_cases c3 : staysTold1 = 0
  · rw [if_pos c3] at H
    refine am_G.br (tgt := 13) rfl rfl (if_pos c3) rfl ?_
    refine am_G.fr 2 (g := (15, [some (.ref a0), some (.ref a1)], [.int ((1 : Int32)), .ref a1])) rfl ?_
    obtain ⟨hh4, e5, H⟩ := am_bd H
    refine am_G.pF rfl e5 ?_
    refine am_G.fr 1 (g := (19, [some (.ref a0), some (.ref a1)], [.ref a0])) rfl ?_
    obtain ⟨hh7, e6, H⟩ := am_bd H
    refine am_G.cl [.ref a0] [] (am_Cl.mono (by decide) (lX7_step e6)) rfl rfl rfl rfl (Nat.le_of_ble_eq_true rfl) ?_
    refine am_G.fr 3 (g := (25, [some (.ref a0), some (.ref a1)], [.int ((4 : Int32)), .int ((1 : Int32)), .ref a0])) rfl ?_
    obtain ⟨x9, hh10, e8, H⟩ := am_bd2 H
    refine am_G.cl [.ref a0, .int ((1 : Int32)), .int ((4 : Int32))] [] (am_Cl.mono (by decide) (lX7_passNumber e8)) rfl rfl rfl rfl (Nat.le_of_ble_eq_true rfl) ?_
    by_cases c11 : ¬ x9 = 0
    · rw [if_pos c11] at H
      refine am_G.br (tgt := 33) rfl rfl (if_pos c11) rfl ?_
      refine am_G.fr 2 (g := (35, [some (.ref a0), some (.ref a1)], [.ref a0, .ref a1])) rfl ?_
      obtain ⟨taken12, e13, H⟩ := am_bd H
      refine am_G.gI rfl e13 ?_
      obtain ⟨hh14, e15, H⟩ := am_bd H
      refine am_G.pF rfl e15 ?_
      refine am_G.fr 2 (g := (44, [some (.ref a0), some (.ref a1)], [.int ((59 : Int32)), .ref a0])) rfl ?_
      obtain ⟨x17, hh18, e16, H⟩ := am_bd2 H
      refine am_G.cl [.ref a0, .int ((59 : Int32))] [] (am_Cl.mono (by decide) (lX7_passSign e16)) rfl rfl rfl rfl (Nat.le_of_ble_eq_true rfl) ?_
      obtain ⟨b19, e20, H⟩ := am_bd H
      obtain ⟨rfl, rfl⟩ := am_inj2 H
      exact am_G.nd ⟨rfl, am_ret2 rfl e20⟩
    · rw [if_neg c11] at H
      refine am_G.br (tgt := 31) rfl rfl (if_neg c11) rfl ?_
      refine am_G.fr 1 (g := (32, [some (.ref a0), some (.ref a1)], [.int ((0 : Int32))])) rfl ?_
      obtain ⟨rfl, rfl⟩ := am_inj2 H
      exact am_G.nd ⟨rfl, am_ret2 rfl (if_pos (by decide))⟩
  · rw [if_neg c3] at H
    refine am_G.br (tgt := 7) rfl rfl (if_neg c3) rfl ?_
    refine am_G.fr 2 (g := (9, [some (.ref a0), some (.ref a1)], [.int ((3 : Int32)), .ref a0])) rfl ?_
    obtain ⟨x22, hh23, e21, H⟩ := am_bd2 H
    refine am_G.cl [.ref a0, .int ((3 : Int32))] [] (am_Cl.mono (by decide) (lX7_refuse e21)) rfl rfl rfl rfl (Nat.le_of_ble_eq_true rfl) ?_
    obtain ⟨b24, e25, H⟩ := am_bd H
    obtain ⟨rfl, rfl⟩ := am_inj2 H
    exact am_G.nd ⟨rfl, am_ret2 rfl e25⟩
def fX7_atEnd (a0 : Nat) (h : am_H) : Option (Int32) :=
  (am_isO h a0 6).bind fun _ =>
  (am_gI h a0 6 4).bind fun sort1 =>
  Option.bind (
    if ¬ sort1 = 0 then
      some ((0 : Int32))
    else
      some ((1 : Int32))) fun js3 =>
  (am_z01 js3).bind fun b5 =>
  some b5
set_option maxHeartbeats 4000000 in
set_option maxRecDepth 100000 in
theorem lX7_atEnd {sc : Nat × (Nat → Int32)} {a0 : Nat} {h : am_H} {r : Int32} (H : fX7_atEnd a0 h = some r) : am_Cl am_T am_N sc 1 58 [.ref a0] h (some (.int r)) h := by
  unfold fX7_atEnd at H
  obtain ⟨_, hO, H⟩ := am_bd H
  obtain ⟨fs0, hO⟩ := am_isO_ok hO
  refine am_mk (q := qX7_atEnd) rfl (fun _ => ⟨_, _, _, _, _, rfl, hO, rfl, rfl⟩) (fun z => absurd z (by decide)) (Nat.le_of_ble_eq_true rfl) rfl ?_
  show am_G sc (am_Cl am_T am_N sc 0) (am_at kX7_atEnd) (fun t => t.2 = h ∧ am_ret 2 (am_at kX7_atEnd) t.1 = some (some (.int r))) ((0, [some (.ref a0)], []), h)
  refine am_G.fr 1 (g := (1, [some (.ref a0)], [.ref a0])) rfl ?_
  obtain ⟨sort1, e2, H⟩ := am_bd H
  refine am_G.gI rfl e2 ?_
  obtain ⟨js3, E7, H⟩ := am_bd H
  refine am_G.sq (t := ((12, [none], [.int js3]), h)) ?_ ?_
  · clear H
    have H := E7
    clear E7
    by_cases c4 : ¬ sort1 = 0
    · rw [if_pos c4] at H
      refine am_G.br (tgt := 11) rfl rfl (if_pos c4) rfl ?_
      refine am_G.fr 1 (g := (12, [some (.ref a0)], [.int ((0 : Int32))])) rfl ?_
      obtain rfl := Option.some.inj H
      refine am_G.fg [none] (by simp only [am_sub, and_self]) ?_
      exact am_G.nd rfl
    · rw [if_neg c4] at H
      refine am_G.br (tgt := 7) rfl rfl (if_neg c4) rfl ?_
      refine am_G.fr 2 (g := (12, [some (.ref a0)], [.int ((1 : Int32))])) rfl ?_
      obtain rfl := Option.some.inj H
      refine am_G.fg [none] (by simp only [am_sub, and_self]) ?_
      exact am_G.nd rfl
  · clear E7
    obtain ⟨b5, e6, H⟩ := am_bd H
    obtain rfl := Option.some.inj H
    exact am_G.nd ⟨rfl, am_ret2 rfl e6⟩
def fX7_begin (a0 : Nat) (h : am_H) : Option (am_H) :=
  (am_isO h a0 6).bind fun _ =>
  (am_pF h a0 6 7 (.int ((0 : Int32)))).bind fun hh1 =>
  (am_pF hh1 a0 6 3 (.int ((0 : Int32)))).bind fun hh3 =>
  (fX7_step a0 hh3).bind fun hh6 =>
  some hh6
set_option maxHeartbeats 4000000 in
set_option maxRecDepth 100000 in
theorem lX7_begin {sc : Nat × (Nat → Int32)} {a0 : Nat} {h : am_H} {h1 : am_H} (H : fX7_begin a0 h = some h1) : am_Cl am_T am_N sc 3 57 [.ref a0] h none h1 := by
  unfold fX7_begin at H
  obtain ⟨_, hO, H⟩ := am_bd H
  obtain ⟨fs0, hO⟩ := am_isO_ok hO
  refine am_mk (q := qX7_begin) rfl (fun _ => ⟨_, _, _, _, _, rfl, hO, rfl, rfl⟩) (fun z => absurd z (by decide)) (Nat.le_of_ble_eq_true rfl) rfl ?_
  show am_G sc (am_Cl am_T am_N sc 2) (am_at kX7_begin) (fun t => t.2 = h1 ∧ am_ret 0 (am_at kX7_begin) t.1 = some none) ((0, [some (.ref a0)], []), h)
  refine am_G.fr 2 (g := (2, [some (.ref a0)], [.int ((0 : Int32)), .ref a0])) rfl ?_
  obtain ⟨hh1, e2, H⟩ := am_bd H
  refine am_G.pF rfl e2 ?_
  refine am_G.fr 2 (g := (7, [some (.ref a0)], [.int ((0 : Int32)), .ref a0])) rfl ?_
  obtain ⟨hh3, e4, H⟩ := am_bd H
  refine am_G.pF rfl e4 ?_
  refine am_G.fr 1 (g := (11, [some (.ref a0)], [.ref a0])) rfl ?_
  obtain ⟨hh6, e5, H⟩ := am_bd H
  refine am_G.cl [.ref a0] [] (am_Cl.mono (by decide) (lX7_step e5)) rfl rfl rfl rfl (Nat.le_of_ble_eq_true rfl) ?_
  obtain rfl := Option.some.inj H
  exact am_G.nd ⟨rfl, rfl⟩
def fX8_clear (a0 : Nat) (h : am_H) : Option (am_H) :=
  (am_isO h a0 7).bind fun _ =>
  (am_pF h a0 7 11 (.int ((0 : Int32)))).bind fun hh1 =>
  (am_pF hh1 a0 7 12 (.int ((0 : Int32)))).bind fun hh3 =>
  (am_pF hh3 a0 7 13 (.int ((1 : Int32)))).bind fun hh5 =>
  (am_pF hh5 a0 7 14 (.int ((0 : Int32)))).bind fun hh7 =>
  (am_pF hh7 a0 7 15 (.int ((0 : Int32)))).bind fun hh9 =>
  (am_gR hh9 a0 7 2).bind fun lenders11 =>
  (fJ7_fill_53178 lenders11 ((0 : Int32)) hh9).bind fun hh14 =>
  (am_gR hh14 a0 7 8).bind fun foes15 =>
  (fJ7_fill_53178 foes15 ((0 : Int32)) hh14).bind fun hh18 =>
  some hh18
set_option maxHeartbeats 4000000 in
set_option maxRecDepth 100000 in
theorem lX8_clear {sc : Nat × (Nat → Int32)} {a0 : Nat} {h : am_H} {h1 : am_H} (H : fX8_clear a0 h = some h1) : am_Cl am_T am_N sc 2 72 [.ref a0] h none h1 := by
  unfold fX8_clear at H
  obtain ⟨_, hO, H⟩ := am_bd H
  obtain ⟨fs0, hO⟩ := am_isO_ok hO
  refine am_mk (q := qX8_clear) rfl (fun _ => ⟨_, _, _, _, _, rfl, hO, rfl, rfl⟩) (fun z => absurd z (by decide)) (Nat.le_of_ble_eq_true rfl) rfl ?_
  show am_G sc (am_Cl am_T am_N sc 1) (am_at kX8_clear) (fun t => t.2 = h1 ∧ am_ret 0 (am_at kX8_clear) t.1 = some none) ((0, [some (.ref a0)], []), h)
  refine am_G.fr 2 (g := (2, [some (.ref a0)], [.int ((0 : Int32)), .ref a0])) rfl ?_
  obtain ⟨hh1, e2, H⟩ := am_bd H
  refine am_G.pF rfl e2 ?_
  refine am_G.fr 2 (g := (7, [some (.ref a0)], [.int ((0 : Int32)), .ref a0])) rfl ?_
  obtain ⟨hh3, e4, H⟩ := am_bd H
  refine am_G.pF rfl e4 ?_
  refine am_G.fr 2 (g := (12, [some (.ref a0)], [.int ((1 : Int32)), .ref a0])) rfl ?_
  obtain ⟨hh5, e6, H⟩ := am_bd H
  refine am_G.pF rfl e6 ?_
  refine am_G.fr 2 (g := (17, [some (.ref a0)], [.int ((0 : Int32)), .ref a0])) rfl ?_
  obtain ⟨hh7, e8, H⟩ := am_bd H
  refine am_G.pF rfl e8 ?_
  refine am_G.fr 2 (g := (22, [some (.ref a0)], [.int ((0 : Int32)), .ref a0])) rfl ?_
  obtain ⟨hh9, e10, H⟩ := am_bd H
  refine am_G.pF rfl e10 ?_
  refine am_G.fr 1 (g := (26, [some (.ref a0)], [.ref a0])) rfl ?_
  obtain ⟨lenders11, e12, H⟩ := am_bd H
  refine am_G.gR rfl e12 ?_
  refine am_G.fr 1 (g := (30, [some (.ref a0)], [.int ((0 : Int32)), .ref lenders11])) rfl ?_
  obtain ⟨hh14, e13, H⟩ := am_bd H
  refine am_G.cl [.ref lenders11, .int ((0 : Int32))] [] (am_Cl.mono (by decide) (lJ7_fill_53178 e13)) rfl rfl rfl rfl (Nat.le_of_ble_eq_true rfl) ?_
  refine am_G.fr 1 (g := (34, [some (.ref a0)], [.ref a0])) rfl ?_
  obtain ⟨foes15, e16, H⟩ := am_bd H
  refine am_G.gR rfl e16 ?_
  refine am_G.fr 1 (g := (38, [some (.ref a0)], [.int ((0 : Int32)), .ref foes15])) rfl ?_
  obtain ⟨hh18, e17, H⟩ := am_bd H
  refine am_G.cl [.ref foes15, .int ((0 : Int32))] [] (am_Cl.mono (by decide) (lJ7_fill_53178 e17)) rfl rfl rfl rfl (Nat.le_of_ble_eq_true rfl) ?_
  obtain rfl := Option.some.inj H
  exact am_G.nd ⟨rfl, rfl⟩
def fX4_lineAct (a0 : Nat) (h : am_H) : Option (Int32) :=
  (fX7_isWord a0 1000010 h).bind fun x2 =>
  if x2 = 0 then
    (fX7_isWord a0 1000011 h).bind fun x5 =>
    if x5 = 0 then
      (fX7_isWord a0 1000012 h).bind fun x8 =>
      if x8 = 0 then
        (fX7_isWord a0 1000013 h).bind fun x11 =>
        Option.bind (
          if x11 = 0 then
            some ((-1 : Int32))
          else
            some ((3 : Int32))) fun js12 =>
        some js12
      else
        some ((2 : Int32))
    else
      some ((1 : Int32))
  else
    some ((0 : Int32))
set_option maxHeartbeats 4000000 in
set_option maxRecDepth 100000 in
theorem lX4_lineAct {sc : Nat × (Nat → Int32)} {a0 : Nat} {h : am_H} {r : Int32} (H : fX4_lineAct a0 h = some r) : am_Cl am_T am_N sc 11 26 [.ref a0] h (some (.int r)) h := by
  unfold fX4_lineAct at H
  refine am_mk (q := qX4_lineAct) rfl (fun z => absurd z (by decide)) (fun z => absurd z (by decide)) (Nat.le_of_ble_eq_true rfl) rfl ?_
  show am_G sc (am_Cl am_T am_N sc 10) (am_at kX4_lineAct) (fun t => t.2 = h ∧ am_ret 1 (am_at kX4_lineAct) t.1 = some (some (.int r))) ((0, [some (.ref a0)], []), h)
  refine am_G.fr 2 (g := (3, [some (.ref a0)], [.ref 1000010, .ref a0])) rfl ?_
  obtain ⟨x2, e1, H⟩ := am_bd H
  refine am_G.cl [.ref a0, .ref 1000010] [] (am_Cl.mono (by decide) (lX7_isWord e1)) rfl rfl rfl rfl (Nat.le_of_ble_eq_true rfl) ?_
  by_cases c3 : x2 = 0
  · rw [if_pos c3] at H
    refine am_G.br (tgt := 11) rfl rfl (if_pos c3) rfl ?_
    refine am_G.fr 2 (g := (14, [some (.ref a0)], [.ref 1000011, .ref a0])) rfl ?_
    obtain ⟨x5, e4, H⟩ := am_bd H
    refine am_G.cl [.ref a0, .ref 1000011] [] (am_Cl.mono (by decide) (lX7_isWord e4)) rfl rfl rfl rfl (Nat.le_of_ble_eq_true rfl) ?_
    by_cases c6 : x5 = 0
    · rw [if_pos c6] at H
      refine am_G.br (tgt := 22) rfl rfl (if_pos c6) rfl ?_
      refine am_G.fr 2 (g := (25, [some (.ref a0)], [.ref 1000012, .ref a0])) rfl ?_
      obtain ⟨x8, e7, H⟩ := am_bd H
      refine am_G.cl [.ref a0, .ref 1000012] [] (am_Cl.mono (by decide) (lX7_isWord e7)) rfl rfl rfl rfl (Nat.le_of_ble_eq_true rfl) ?_
      by_cases c9 : x8 = 0
      · rw [if_pos c9] at H
        refine am_G.br (tgt := 33) rfl rfl (if_pos c9) rfl ?_
        refine am_G.fr 2 (g := (36, [some (.ref a0)], [.ref 1000013, .ref a0])) rfl ?_
        obtain ⟨x11, e10, H⟩ := am_bd H
        refine am_G.cl [.ref a0, .ref 1000013] [] (am_Cl.mono (by decide) (lX7_isWord e10)) rfl rfl rfl rfl (Nat.le_of_ble_eq_true rfl) ?_
        obtain ⟨js12, E14, H⟩ := am_bd H
        refine am_G.sq (t := ((47, [none], [.int js12]), h)) ?_ ?_
        · clear H
          have H := E14
          clear E14
          by_cases c13 : x11 = 0
          · rw [if_pos c13] at H
            refine am_G.br (tgt := 46) rfl rfl (if_pos c13) rfl ?_
            refine am_G.fr 1 (g := (47, [some (.ref a0)], [.int ((-1 : Int32))])) rfl ?_
            obtain rfl := Option.some.inj H
            refine am_G.fg [none] (by simp only [am_sub, and_self]) ?_
            exact am_G.nd rfl
          · rw [if_neg c13] at H
            refine am_G.br (tgt := 42) rfl rfl (if_neg c13) rfl ?_
            refine am_G.fr 2 (g := (47, [some (.ref a0)], [.int ((3 : Int32))])) rfl ?_
            obtain rfl := Option.some.inj H
            refine am_G.fg [none] (by simp only [am_sub, and_self]) ?_
            exact am_G.nd rfl
        · clear E14
          obtain rfl := Option.some.inj H
          exact am_G.nd ⟨rfl, rfl⟩
      · rw [if_neg c9] at H
        refine am_G.br (tgt := 31) rfl rfl (if_neg c9) rfl ?_
        refine am_G.fr 1 (g := (32, [some (.ref a0)], [.int ((2 : Int32))])) rfl ?_
        obtain rfl := Option.some.inj H
        exact am_G.nd ⟨rfl, rfl⟩
    · rw [if_neg c6] at H
      refine am_G.br (tgt := 20) rfl rfl (if_neg c6) rfl ?_
      refine am_G.fr 1 (g := (21, [some (.ref a0)], [.int ((1 : Int32))])) rfl ?_
      obtain rfl := Option.some.inj H
      exact am_G.nd ⟨rfl, rfl⟩
  · rw [if_neg c3] at H
    refine am_G.br (tgt := 9) rfl rfl (if_neg c3) rfl ?_
    refine am_G.fr 1 (g := (10, [some (.ref a0)], [.int ((0 : Int32))])) rfl ?_
    obtain rfl := Option.some.inj H
    exact am_G.nd ⟨rfl, rfl⟩
def fX4_readPlanLine (a0 : Nat) (a1 : Nat) (a2 : Nat) (h : am_H) : Option (Int32 × am_H) :=
  (fX4_lineAct a0 h).bind fun x2 =>
  if ¬ x2 = ((-1 : Int32)) then
    (am_gI h a2 3 3).bind fun lines4 =>
    if lines4 < ((40 : Int32)) then
      (fX7_step a0 h).bind fun hh8 =>
      if x2 = ((1 : Int32)) then
        am_b2 (fX4_passDay a0 a1 ((0 : Int32)) hh8) fun x11 hh12 =>
        if ¬ x11 = 0 then
          (am_gI hh12 a0 6 8).bind fun taken14 =>
          if x2 = ((1 : Int32)) then
            am_b2 (fX4_passHouse a0 a1 ((0 : Int32)) hh12) fun x18 hh19 =>
            if ¬ x18 = 0 then
              (am_gI hh19 a0 6 8).bind fun taken21 =>
              (fX3_add a2 x2 taken14 taken21 hh19).bind fun hh24 =>
              am_b2 (fX7_passSign a0 ((59 : Int32)) hh24) fun x26 hh27 =>
              (am_z01 x26).bind fun b28 =>
              some (b28, hh27)
            else
              some ((0 : Int32), hh19)
          else
            if ¬ x2 = ((3 : Int32)) then
              (fX3_add a2 x2 taken14 ((-1 : Int32)) hh12).bind fun hh32 =>
              am_b2 (fX7_passSign a0 ((59 : Int32)) hh32) fun x34 hh35 =>
              (am_z01 x34).bind fun b36 =>
              some (b36, hh35)
            else
              am_b2 (fX4_passHouse a0 a1 ((0 : Int32)) hh12) fun x39 hh40 =>
              if ¬ x39 = 0 then
                (am_gI hh40 a0 6 8).bind fun taken42 =>
                (fX3_add a2 x2 taken14 taken42 hh40).bind fun hh45 =>
                am_b2 (fX7_passSign a0 ((59 : Int32)) hh45) fun x47 hh48 =>
                (am_z01 x47).bind fun b49 =>
                some (b49, hh48)
              else
                some ((0 : Int32), hh40)
        else
          some ((0 : Int32), hh12)
      else
        if ¬ x2 = ((2 : Int32)) then
          if x2 = ((1 : Int32)) then
            am_b2 (fX4_passHouse a0 a1 ((0 : Int32)) hh8) fun x54 hh55 =>
            if ¬ x54 = 0 then
              (am_gI hh55 a0 6 8).bind fun taken57 =>
              (fX3_add a2 x2 ((-1 : Int32)) taken57 hh55).bind fun hh60 =>
              am_b2 (fX7_passSign a0 ((59 : Int32)) hh60) fun x62 hh63 =>
              (am_z01 x62).bind fun b64 =>
              some (b64, hh63)
            else
              some ((0 : Int32), hh55)
          else
            if ¬ x2 = ((3 : Int32)) then
              (fX3_add a2 x2 ((-1 : Int32)) ((-1 : Int32)) hh8).bind fun hh68 =>
              am_b2 (fX7_passSign a0 ((59 : Int32)) hh68) fun x70 hh71 =>
              (am_z01 x70).bind fun b72 =>
              some (b72, hh71)
            else
              am_b2 (fX4_passHouse a0 a1 ((0 : Int32)) hh8) fun x75 hh76 =>
              if ¬ x75 = 0 then
                (am_gI hh76 a0 6 8).bind fun taken78 =>
                (fX3_add a2 x2 ((-1 : Int32)) taken78 hh76).bind fun hh81 =>
                am_b2 (fX7_passSign a0 ((59 : Int32)) hh81) fun x83 hh84 =>
                (am_z01 x83).bind fun b85 =>
                some (b85, hh84)
              else
                some ((0 : Int32), hh76)
        else
          am_b2 (fX4_passDay a0 a1 ((0 : Int32)) hh8) fun x88 hh89 =>
          if ¬ x88 = 0 then
            (am_gI hh89 a0 6 8).bind fun taken91 =>
            if x2 = ((1 : Int32)) then
              am_b2 (fX4_passHouse a0 a1 ((0 : Int32)) hh89) fun x95 hh96 =>
              if ¬ x95 = 0 then
                (am_gI hh96 a0 6 8).bind fun taken98 =>
                (fX3_add a2 x2 taken91 taken98 hh96).bind fun hh101 =>
                am_b2 (fX7_passSign a0 ((59 : Int32)) hh101) fun x103 hh104 =>
                (am_z01 x103).bind fun b105 =>
                some (b105, hh104)
              else
                some ((0 : Int32), hh96)
            else
              if ¬ x2 = ((3 : Int32)) then
                (fX3_add a2 x2 taken91 ((-1 : Int32)) hh89).bind fun hh109 =>
                am_b2 (fX7_passSign a0 ((59 : Int32)) hh109) fun x111 hh112 =>
                (am_z01 x111).bind fun b113 =>
                some (b113, hh112)
              else
                am_b2 (fX4_passHouse a0 a1 ((0 : Int32)) hh89) fun x116 hh117 =>
                if ¬ x116 = 0 then
                  (am_gI hh117 a0 6 8).bind fun taken119 =>
                  (fX3_add a2 x2 taken91 taken119 hh117).bind fun hh122 =>
                  am_b2 (fX7_passSign a0 ((59 : Int32)) hh122) fun x124 hh125 =>
                  (am_z01 x124).bind fun b126 =>
                  some (b126, hh125)
                else
                  some ((0 : Int32), hh117)
          else
            some ((0 : Int32), hh89)
    else
      am_b2 (fX7_refuse a0 ((5 : Int32)) h) fun x129 hh130 =>
      (am_z01 x129).bind fun b131 =>
      some (b131, hh130)
  else
    am_b2 (fX7_refuse a0 ((1 : Int32)) h) fun x134 hh135 =>
    (am_z01 x134).bind fun b136 =>
    some (b136, hh135)
set_option maxHeartbeats 4000000 in
set_option maxRecDepth 100000 in
theorem lX4_readPlanLine {sc : Nat × (Nat → Int32)} {a0 : Nat} {a1 : Nat} {a2 : Nat} {h : am_H} {r : Int32} {h1 : am_H} (H : fX4_readPlanLine a0 a1 a2 h = some (r, h1)) : am_Cl am_T am_N sc 14 25 [.ref a0, .ref a1, .ref a2] h (some (.int r)) h1 := by
  unfold fX4_readPlanLine at H
  refine am_mk (q := qX4_readPlanLine) rfl (fun z => absurd z (by decide)) (fun z => absurd z (by decide)) (Nat.le_of_ble_eq_true rfl) rfl ?_
  show am_G sc (am_Cl am_T am_N sc 13) (am_at kX4_readPlanLine) (fun t => t.2 = h1 ∧ am_ret 2 (am_at kX4_readPlanLine) t.1 = some (some (.int r))) ((0, [some (.ref a0), some (.ref a1), some (.ref a2), none, none, none], []), h)
  refine am_G.fr 1 (g := (1, [some (.ref a0), some (.ref a1), some (.ref a2), none, none, none], [.ref a0])) rfl ?_
  obtain ⟨x2, e1, H⟩ := am_bd H
  refine am_G.cl [.ref a0] [] (am_Cl.mono (by decide) (lX4_lineAct e1)) rfl rfl rfl rfl (Nat.le_of_ble_eq_true rfl) ?_
  refine am_G.fr 3 (g := (7, [some (.ref a0), some (.ref a1), some (.ref a2), some (.int x2), none, none], [.int ((-1 : Int32)), .int x2])) rfl ?_
  by_cases c3 : ¬ x2 = ((-1 : Int32))
  · rw [if_pos c3] at H
    refine am_G.br (tgt := 16) rfl rfl (if_pos c3) rfl ?_
    refine am_G.fr 1 (g := (17, [some (.ref a0), some (.ref a1), some (.ref a2), some (.int x2), none, none], [.ref a2])) rfl ?_
    obtain ⟨lines4, e5, H⟩ := am_bd H
    refine am_G.gI rfl e5 ?_
    refine am_G.fr 1 (g := (22, [some (.ref a0), some (.ref a1), some (.ref a2), some (.int x2), none, none], [.int ((40 : Int32)), .int lines4])) rfl ?_
    by_cases c6 : lines4 < ((40 : Int32))
    · rw [if_pos c6] at H
      refine am_G.br (tgt := 31) rfl rfl (if_pos c6) rfl ?_
      refine am_G.fr 1 (g := (32, [some (.ref a0), some (.ref a1), some (.ref a2), some (.int x2), none, none], [.ref a0])) rfl ?_
      obtain ⟨hh8, e7, H⟩ := am_bd H
      refine am_G.cl [.ref a0] [] (am_Cl.mono (by decide) (lX7_step e7)) rfl rfl rfl rfl (Nat.le_of_ble_eq_true rfl) ?_
      refine am_G.fr 6 (g := (43, [some (.ref a0), some (.ref a1), some (.ref a2), some (.int x2), some (.int ((-1 : Int32))), some (.int ((-1 : Int32)))], [.int ((1 : Int32)), .int x2])) rfl ?_
      by_cases c9 : x2 = ((1 : Int32))
      · rw [if_pos c9] at H
        refine am_G.br (tgt := 51) rfl rfl (if_pos c9) rfl ?_
        refine am_G.fr 3 (g := (54, [some (.ref a0), some (.ref a1), some (.ref a2), some (.int x2), some (.int ((-1 : Int32))), some (.int ((-1 : Int32)))], [.int ((0 : Int32)), .ref a1, .ref a0])) rfl ?_
        obtain ⟨x11, hh12, e10, H⟩ := am_bd2 H
        refine am_G.cl [.ref a0, .ref a1, .int ((0 : Int32))] [] (am_Cl.mono (by decide) (lX4_passDay e10)) rfl rfl rfl rfl (Nat.le_of_ble_eq_true rfl) ?_
        by_cases c13 : ¬ x11 = 0
        · rw [if_pos c13] at H
          refine am_G.br (tgt := 62) rfl rfl (if_pos c13) rfl ?_
          refine am_G.fr 1 (g := (63, [some (.ref a0), some (.ref a1), some (.ref a2), some (.int x2), some (.int ((-1 : Int32))), some (.int ((-1 : Int32)))], [.ref a0])) rfl ?_
          obtain ⟨taken14, e15, H⟩ := am_bd H
          refine am_G.gI rfl e15 ?_
          refine am_G.fr 3 (g := (70, [some (.ref a0), some (.ref a1), some (.ref a2), some (.int x2), some (.int taken14), some (.int ((-1 : Int32)))], [.int ((1 : Int32)), .int x2])) rfl ?_
          by_cases c16 : x2 = ((1 : Int32))
          · rw [if_pos c16] at H
            refine am_G.br (tgt := 78) rfl rfl (if_pos c16) rfl ?_
            refine am_G.fr 3 (g := (81, [some (.ref a0), some (.ref a1), some (.ref a2), some (.int x2), some (.int taken14), some (.int ((-1 : Int32)))], [.int ((0 : Int32)), .ref a1, .ref a0])) rfl ?_
            obtain ⟨x18, hh19, e17, H⟩ := am_bd2 H
            refine am_G.cl [.ref a0, .ref a1, .int ((0 : Int32))] [] (am_Cl.mono (by decide) (lX4_passHouse e17)) rfl rfl rfl rfl (Nat.le_of_ble_eq_true rfl) ?_
            by_cases c20 : ¬ x18 = 0
            · rw [if_pos c20] at H
              refine am_G.br (tgt := 89) rfl rfl (if_pos c20) rfl ?_
              refine am_G.fr 1 (g := (90, [some (.ref a0), some (.ref a1), some (.ref a2), some (.int x2), some (.int taken14), some (.int ((-1 : Int32)))], [.ref a0])) rfl ?_
              obtain ⟨taken21, e22, H⟩ := am_bd H
              refine am_G.gI rfl e22 ?_
              refine am_G.fr 5 (g := (101, [some (.ref a0), some (.ref a1), some (.ref a2), some (.int x2), some (.int taken14), some (.int taken21)], [.int taken21, .int taken14, .int x2, .ref a2])) rfl ?_
              obtain ⟨hh24, e23, H⟩ := am_bd H
              refine am_G.cl [.ref a2, .int x2, .int taken14, .int taken21] [] (am_Cl.mono (by decide) (lX3_add e23)) rfl rfl rfl rfl (Nat.le_of_ble_eq_true rfl) ?_
              refine am_G.fr 2 (g := (107, [some (.ref a0), some (.ref a1), some (.ref a2), some (.int x2), some (.int taken14), some (.int taken21)], [.int ((59 : Int32)), .ref a0])) rfl ?_
              obtain ⟨x26, hh27, e25, H⟩ := am_bd2 H
              refine am_G.cl [.ref a0, .int ((59 : Int32))] [] (am_Cl.mono (by decide) (lX7_passSign e25)) rfl rfl rfl rfl (Nat.le_of_ble_eq_true rfl) ?_
              obtain ⟨b28, e29, H⟩ := am_bd H
              obtain ⟨rfl, rfl⟩ := am_inj2 H
              exact am_G.nd ⟨rfl, am_ret2 rfl e29⟩
            · rw [if_neg c20] at H
              refine am_G.br (tgt := 87) rfl rfl (if_neg c20) rfl ?_
              refine am_G.fr 1 (g := (88, [some (.ref a0), some (.ref a1), some (.ref a2), some (.int x2), some (.int taken14), some (.int ((-1 : Int32)))], [.int ((0 : Int32))])) rfl ?_
              obtain ⟨rfl, rfl⟩ := am_inj2 H
              exact am_G.nd ⟨rfl, am_ret2 rfl (if_pos (by decide))⟩
          · rw [if_neg c16] at H
            refine am_G.br (tgt := 73) rfl rfl (if_neg c16) rfl ?_
            refine am_G.fr 2 (g := (75, [some (.ref a0), some (.ref a1), some (.ref a2), some (.int x2), some (.int taken14), some (.int ((-1 : Int32)))], [.int ((3 : Int32)), .int x2])) rfl ?_
            by_cases c30 : ¬ x2 = ((3 : Int32))
            · rw [if_pos c30] at H
              refine am_G.br (tgt := 95) rfl rfl (if_pos c30) rfl ?_
              refine am_G.fr 4 (g := (101, [some (.ref a0), some (.ref a1), some (.ref a2), some (.int x2), some (.int taken14), some (.int ((-1 : Int32)))], [.int ((-1 : Int32)), .int taken14, .int x2, .ref a2])) rfl ?_
              obtain ⟨hh32, e31, H⟩ := am_bd H
              refine am_G.cl [.ref a2, .int x2, .int taken14, .int ((-1 : Int32))] [] (am_Cl.mono (by decide) (lX3_add e31)) rfl rfl rfl rfl (Nat.le_of_ble_eq_true rfl) ?_
              refine am_G.fr 2 (g := (107, [some (.ref a0), some (.ref a1), some (.ref a2), some (.int x2), some (.int taken14), some (.int ((-1 : Int32)))], [.int ((59 : Int32)), .ref a0])) rfl ?_
              obtain ⟨x34, hh35, e33, H⟩ := am_bd2 H
              refine am_G.cl [.ref a0, .int ((59 : Int32))] [] (am_Cl.mono (by decide) (lX7_passSign e33)) rfl rfl rfl rfl (Nat.le_of_ble_eq_true rfl) ?_
              obtain ⟨b36, e37, H⟩ := am_bd H
              obtain ⟨rfl, rfl⟩ := am_inj2 H
              exact am_G.nd ⟨rfl, am_ret2 rfl e37⟩
            · rw [if_neg c30] at H
              refine am_G.br (tgt := 78) rfl rfl (if_neg c30) rfl ?_
              refine am_G.fr 3 (g := (81, [some (.ref a0), some (.ref a1), some (.ref a2), some (.int x2), some (.int taken14), some (.int ((-1 : Int32)))], [.int ((0 : Int32)), .ref a1, .ref a0])) rfl ?_
              obtain ⟨x39, hh40, e38, H⟩ := am_bd2 H
              refine am_G.cl [.ref a0, .ref a1, .int ((0 : Int32))] [] (am_Cl.mono (by decide) (lX4_passHouse e38)) rfl rfl rfl rfl (Nat.le_of_ble_eq_true rfl) ?_
              by_cases c41 : ¬ x39 = 0
              · rw [if_pos c41] at H
                refine am_G.br (tgt := 89) rfl rfl (if_pos c41) rfl ?_
                refine am_G.fr 1 (g := (90, [some (.ref a0), some (.ref a1), some (.ref a2), some (.int x2), some (.int taken14), some (.int ((-1 : Int32)))], [.ref a0])) rfl ?_
                obtain ⟨taken42, e43, H⟩ := am_bd H
                refine am_G.gI rfl e43 ?_
                refine am_G.fr 5 (g := (101, [some (.ref a0), some (.ref a1), some (.ref a2), some (.int x2), some (.int taken14), some (.int taken42)], [.int taken42, .int taken14, .int x2, .ref a2])) rfl ?_
                obtain ⟨hh45, e44, H⟩ := am_bd H
                refine am_G.cl [.ref a2, .int x2, .int taken14, .int taken42] [] (am_Cl.mono (by decide) (lX3_add e44)) rfl rfl rfl rfl (Nat.le_of_ble_eq_true rfl) ?_
                refine am_G.fr 2 (g := (107, [some (.ref a0), some (.ref a1), some (.ref a2), some (.int x2), some (.int taken14), some (.int taken42)], [.int ((59 : Int32)), .ref a0])) rfl ?_
                obtain ⟨x47, hh48, e46, H⟩ := am_bd2 H
                refine am_G.cl [.ref a0, .int ((59 : Int32))] [] (am_Cl.mono (by decide) (lX7_passSign e46)) rfl rfl rfl rfl (Nat.le_of_ble_eq_true rfl) ?_
                obtain ⟨b49, e50, H⟩ := am_bd H
                obtain ⟨rfl, rfl⟩ := am_inj2 H
                exact am_G.nd ⟨rfl, am_ret2 rfl e50⟩
              · rw [if_neg c41] at H
                refine am_G.br (tgt := 87) rfl rfl (if_neg c41) rfl ?_
                refine am_G.fr 1 (g := (88, [some (.ref a0), some (.ref a1), some (.ref a2), some (.int x2), some (.int taken14), some (.int ((-1 : Int32)))], [.int ((0 : Int32))])) rfl ?_
                obtain ⟨rfl, rfl⟩ := am_inj2 H
                exact am_G.nd ⟨rfl, am_ret2 rfl (if_pos (by decide))⟩
        · rw [if_neg c13] at H
          refine am_G.br (tgt := 60) rfl rfl (if_neg c13) rfl ?_
          refine am_G.fr 1 (g := (61, [some (.ref a0), some (.ref a1), some (.ref a2), some (.int x2), some (.int ((-1 : Int32))), some (.int ((-1 : Int32)))], [.int ((0 : Int32))])) rfl ?_
          obtain ⟨rfl, rfl⟩ := am_inj2 H
          exact am_G.nd ⟨rfl, am_ret2 rfl (if_pos (by decide))⟩
      · rw [if_neg c9] at H
        refine am_G.br (tgt := 46) rfl rfl (if_neg c9) rfl ?_
        refine am_G.fr 2 (g := (48, [some (.ref a0), some (.ref a1), some (.ref a2), some (.int x2), some (.int ((-1 : Int32))), some (.int ((-1 : Int32)))], [.int ((2 : Int32)), .int x2])) rfl ?_
        by_cases c51 : ¬ x2 = ((2 : Int32))
        · rw [if_pos c51] at H
          refine am_G.br (tgt := 68) rfl rfl (if_pos c51) rfl ?_
          refine am_G.fr 2 (g := (70, [some (.ref a0), some (.ref a1), some (.ref a2), some (.int x2), some (.int ((-1 : Int32))), some (.int ((-1 : Int32)))], [.int ((1 : Int32)), .int x2])) rfl ?_
          by_cases c52 : x2 = ((1 : Int32))
          · rw [if_pos c52] at H
            refine am_G.br (tgt := 78) rfl rfl (if_pos c52) rfl ?_
            refine am_G.fr 3 (g := (81, [some (.ref a0), some (.ref a1), some (.ref a2), some (.int x2), some (.int ((-1 : Int32))), some (.int ((-1 : Int32)))], [.int ((0 : Int32)), .ref a1, .ref a0])) rfl ?_
            obtain ⟨x54, hh55, e53, H⟩ := am_bd2 H
            refine am_G.cl [.ref a0, .ref a1, .int ((0 : Int32))] [] (am_Cl.mono (by decide) (lX4_passHouse e53)) rfl rfl rfl rfl (Nat.le_of_ble_eq_true rfl) ?_
            by_cases c56 : ¬ x54 = 0
            · rw [if_pos c56] at H
              refine am_G.br (tgt := 89) rfl rfl (if_pos c56) rfl ?_
              refine am_G.fr 1 (g := (90, [some (.ref a0), some (.ref a1), some (.ref a2), some (.int x2), some (.int ((-1 : Int32))), some (.int ((-1 : Int32)))], [.ref a0])) rfl ?_
              obtain ⟨taken57, e58, H⟩ := am_bd H
              refine am_G.gI rfl e58 ?_
              refine am_G.fr 5 (g := (101, [some (.ref a0), some (.ref a1), some (.ref a2), some (.int x2), some (.int ((-1 : Int32))), some (.int taken57)], [.int taken57, .int ((-1 : Int32)), .int x2, .ref a2])) rfl ?_
              obtain ⟨hh60, e59, H⟩ := am_bd H
              refine am_G.cl [.ref a2, .int x2, .int ((-1 : Int32)), .int taken57] [] (am_Cl.mono (by decide) (lX3_add e59)) rfl rfl rfl rfl (Nat.le_of_ble_eq_true rfl) ?_
              refine am_G.fr 2 (g := (107, [some (.ref a0), some (.ref a1), some (.ref a2), some (.int x2), some (.int ((-1 : Int32))), some (.int taken57)], [.int ((59 : Int32)), .ref a0])) rfl ?_
              obtain ⟨x62, hh63, e61, H⟩ := am_bd2 H
              refine am_G.cl [.ref a0, .int ((59 : Int32))] [] (am_Cl.mono (by decide) (lX7_passSign e61)) rfl rfl rfl rfl (Nat.le_of_ble_eq_true rfl) ?_
              obtain ⟨b64, e65, H⟩ := am_bd H
              obtain ⟨rfl, rfl⟩ := am_inj2 H
              exact am_G.nd ⟨rfl, am_ret2 rfl e65⟩
            · rw [if_neg c56] at H
              refine am_G.br (tgt := 87) rfl rfl (if_neg c56) rfl ?_
              refine am_G.fr 1 (g := (88, [some (.ref a0), some (.ref a1), some (.ref a2), some (.int x2), some (.int ((-1 : Int32))), some (.int ((-1 : Int32)))], [.int ((0 : Int32))])) rfl ?_
              obtain ⟨rfl, rfl⟩ := am_inj2 H
              exact am_G.nd ⟨rfl, am_ret2 rfl (if_pos (by decide))⟩
          · rw [if_neg c52] at H
            refine am_G.br (tgt := 73) rfl rfl (if_neg c52) rfl ?_
            refine am_G.fr 2 (g := (75, [some (.ref a0), some (.ref a1), some (.ref a2), some (.int x2), some (.int ((-1 : Int32))), some (.int ((-1 : Int32)))], [.int ((3 : Int32)), .int x2])) rfl ?_
            by_cases c66 : ¬ x2 = ((3 : Int32))
            · rw [if_pos c66] at H
              refine am_G.br (tgt := 95) rfl rfl (if_pos c66) rfl ?_
              refine am_G.fr 4 (g := (101, [some (.ref a0), some (.ref a1), some (.ref a2), some (.int x2), some (.int ((-1 : Int32))), some (.int ((-1 : Int32)))], [.int ((-1 : Int32)), .int ((-1 : Int32)), .int x2, .ref a2])) rfl ?_
              obtain ⟨hh68, e67, H⟩ := am_bd H
              refine am_G.cl [.ref a2, .int x2, .int ((-1 : Int32)), .int ((-1 : Int32))] [] (am_Cl.mono (by decide) (lX3_add e67)) rfl rfl rfl rfl (Nat.le_of_ble_eq_true rfl) ?_
              refine am_G.fr 2 (g := (107, [some (.ref a0), some (.ref a1), some (.ref a2), some (.int x2), some (.int ((-1 : Int32))), some (.int ((-1 : Int32)))], [.int ((59 : Int32)), .ref a0])) rfl ?_
              obtain ⟨x70, hh71, e69, H⟩ := am_bd2 H
              refine am_G.cl [.ref a0, .int ((59 : Int32))] [] (am_Cl.mono (by decide) (lX7_passSign e69)) rfl rfl rfl rfl (Nat.le_of_ble_eq_true rfl) ?_
              obtain ⟨b72, e73, H⟩ := am_bd H
              obtain ⟨rfl, rfl⟩ := am_inj2 H
              exact am_G.nd ⟨rfl, am_ret2 rfl e73⟩
            · rw [if_neg c66] at H
              refine am_G.br (tgt := 78) rfl rfl (if_neg c66) rfl ?_
              refine am_G.fr 3 (g := (81, [some (.ref a0), some (.ref a1), some (.ref a2), some (.int x2), some (.int ((-1 : Int32))), some (.int ((-1 : Int32)))], [.int ((0 : Int32)), .ref a1, .ref a0])) rfl ?_
              obtain ⟨x75, hh76, e74, H⟩ := am_bd2 H
              refine am_G.cl [.ref a0, .ref a1, .int ((0 : Int32))] [] (am_Cl.mono (by decide) (lX4_passHouse e74)) rfl rfl rfl rfl (Nat.le_of_ble_eq_true rfl) ?_
              by_cases c77 : ¬ x75 = 0
              · rw [if_pos c77] at H
                refine am_G.br (tgt := 89) rfl rfl (if_pos c77) rfl ?_
                refine am_G.fr 1 (g := (90, [some (.ref a0), some (.ref a1), some (.ref a2), some (.int x2), some (.int ((-1 : Int32))), some (.int ((-1 : Int32)))], [.ref a0])) rfl ?_
                obtain ⟨taken78, e79, H⟩ := am_bd H
                refine am_G.gI rfl e79 ?_
                refine am_G.fr 5 (g := (101, [some (.ref a0), some (.ref a1), some (.ref a2), some (.int x2), some (.int ((-1 : Int32))), some (.int taken78)], [.int taken78, .int ((-1 : Int32)), .int x2, .ref a2])) rfl ?_
                obtain ⟨hh81, e80, H⟩ := am_bd H
                refine am_G.cl [.ref a2, .int x2, .int ((-1 : Int32)), .int taken78] [] (am_Cl.mono (by decide) (lX3_add e80)) rfl rfl rfl rfl (Nat.le_of_ble_eq_true rfl) ?_
                refine am_G.fr 2 (g := (107, [some (.ref a0), some (.ref a1), some (.ref a2), some (.int x2), some (.int ((-1 : Int32))), some (.int taken78)], [.int ((59 : Int32)), .ref a0])) rfl ?_
                obtain ⟨x83, hh84, e82, H⟩ := am_bd2 H
                refine am_G.cl [.ref a0, .int ((59 : Int32))] [] (am_Cl.mono (by decide) (lX7_passSign e82)) rfl rfl rfl rfl (Nat.le_of_ble_eq_true rfl) ?_
                obtain ⟨b85, e86, H⟩ := am_bd H
                obtain ⟨rfl, rfl⟩ := am_inj2 H
                exact am_G.nd ⟨rfl, am_ret2 rfl e86⟩
              · rw [if_neg c77] at H
                refine am_G.br (tgt := 87) rfl rfl (if_neg c77) rfl ?_
                refine am_G.fr 1 (g := (88, [some (.ref a0), some (.ref a1), some (.ref a2), some (.int x2), some (.int ((-1 : Int32))), some (.int ((-1 : Int32)))], [.int ((0 : Int32))])) rfl ?_
                obtain ⟨rfl, rfl⟩ := am_inj2 H
                exact am_G.nd ⟨rfl, am_ret2 rfl (if_pos (by decide))⟩
        · rw [if_neg c51] at H
          refine am_G.br (tgt := 51) rfl rfl (if_neg c51) rfl ?_
          refine am_G.fr 3 (g := (54, [some (.ref a0), some (.ref a1), some (.ref a2), some (.int x2), some (.int ((-1 : Int32))), some (.int ((-1 : Int32)))], [.int ((0 : Int32)), .ref a1, .ref a0])) rfl ?_
          obtain ⟨x88, hh89, e87, H⟩ := am_bd2 H
          refine am_G.cl [.ref a0, .ref a1, .int ((0 : Int32))] [] (am_Cl.mono (by decide) (lX4_passDay e87)) rfl rfl rfl rfl (Nat.le_of_ble_eq_true rfl) ?_
          by_cases c90 : ¬ x88 = 0
          · rw [if_pos c90] at H
            refine am_G.br (tgt := 62) rfl rfl (if_pos c90) rfl ?_
            refine am_G.fr 1 (g := (63, [some (.ref a0), some (.ref a1), some (.ref a2), some (.int x2), some (.int ((-1 : Int32))), some (.int ((-1 : Int32)))], [.ref a0])) rfl ?_
            obtain ⟨taken91, e92, H⟩ := am_bd H
            refine am_G.gI rfl e92 ?_
            refine am_G.fr 3 (g := (70, [some (.ref a0), some (.ref a1), some (.ref a2), some (.int x2), some (.int taken91), some (.int ((-1 : Int32)))], [.int ((1 : Int32)), .int x2])) rfl ?_
            by_cases c93 : x2 = ((1 : Int32))
            · rw [if_pos c93] at H
              refine am_G.br (tgt := 78) rfl rfl (if_pos c93) rfl ?_
              refine am_G.fr 3 (g := (81, [some (.ref a0), some (.ref a1), some (.ref a2), some (.int x2), some (.int taken91), some (.int ((-1 : Int32)))], [.int ((0 : Int32)), .ref a1, .ref a0])) rfl ?_
              obtain ⟨x95, hh96, e94, H⟩ := am_bd2 H
              refine am_G.cl [.ref a0, .ref a1, .int ((0 : Int32))] [] (am_Cl.mono (by decide) (lX4_passHouse e94)) rfl rfl rfl rfl (Nat.le_of_ble_eq_true rfl) ?_
              by_cases c97 : ¬ x95 = 0
              · rw [if_pos c97] at H
                refine am_G.br (tgt := 89) rfl rfl (if_pos c97) rfl ?_
                refine am_G.fr 1 (g := (90, [some (.ref a0), some (.ref a1), some (.ref a2), some (.int x2), some (.int taken91), some (.int ((-1 : Int32)))], [.ref a0])) rfl ?_
                obtain ⟨taken98, e99, H⟩ := am_bd H
                refine am_G.gI rfl e99 ?_
                refine am_G.fr 5 (g := (101, [some (.ref a0), some (.ref a1), some (.ref a2), some (.int x2), some (.int taken91), some (.int taken98)], [.int taken98, .int taken91, .int x2, .ref a2])) rfl ?_
                obtain ⟨hh101, e100, H⟩ := am_bd H
                refine am_G.cl [.ref a2, .int x2, .int taken91, .int taken98] [] (am_Cl.mono (by decide) (lX3_add e100)) rfl rfl rfl rfl (Nat.le_of_ble_eq_true rfl) ?_
                refine am_G.fr 2 (g := (107, [some (.ref a0), some (.ref a1), some (.ref a2), some (.int x2), some (.int taken91), some (.int taken98)], [.int ((59 : Int32)), .ref a0])) rfl ?_
                obtain ⟨x103, hh104, e102, H⟩ := am_bd2 H
                refine am_G.cl [.ref a0, .int ((59 : Int32))] [] (am_Cl.mono (by decide) (lX7_passSign e102)) rfl rfl rfl rfl (Nat.le_of_ble_eq_true rfl) ?_
                obtain ⟨b105, e106, H⟩ := am_bd H
                obtain ⟨rfl, rfl⟩ := am_inj2 H
                exact am_G.nd ⟨rfl, am_ret2 rfl e106⟩
              · rw [if_neg c97] at H
                refine am_G.br (tgt := 87) rfl rfl (if_neg c97) rfl ?_
                refine am_G.fr 1 (g := (88, [some (.ref a0), some (.ref a1), some (.ref a2), some (.int x2), some (.int taken91), some (.int ((-1 : Int32)))], [.int ((0 : Int32))])) rfl ?_
                obtain ⟨rfl, rfl⟩ := am_inj2 H
                exact am_G.nd ⟨rfl, am_ret2 rfl (if_pos (by decide))⟩
            · rw [if_neg c93] at H
              refine am_G.br (tgt := 73) rfl rfl (if_neg c93) rfl ?_
              refine am_G.fr 2 (g := (75, [some (.ref a0), some (.ref a1), some (.ref a2), some (.int x2), some (.int taken91), some (.int ((-1 : Int32)))], [.int ((3 : Int32)), .int x2])) rfl ?_
              by_cases c107 : ¬ x2 = ((3 : Int32))
              · rw [if_pos c107] at H
                refine am_G.br (tgt := 95) rfl rfl (if_pos c107) rfl ?_
                refine am_G.fr 4 (g := (101, [some (.ref a0), some (.ref a1), some (.ref a2), some (.int x2), some (.int taken91), some (.int ((-1 : Int32)))], [.int ((-1 : Int32)), .int taken91, .int x2, .ref a2])) rfl ?_
                obtain ⟨hh109, e108, H⟩ := am_bd H
                refine am_G.cl [.ref a2, .int x2, .int taken91, .int ((-1 : Int32))] [] (am_Cl.mono (by decide) (lX3_add e108)) rfl rfl rfl rfl (Nat.le_of_ble_eq_true rfl) ?_
                refine am_G.fr 2 (g := (107, [some (.ref a0), some (.ref a1), some (.ref a2), some (.int x2), some (.int taken91), some (.int ((-1 : Int32)))], [.int ((59 : Int32)), .ref a0])) rfl ?_
                obtain ⟨x111, hh112, e110, H⟩ := am_bd2 H
                refine am_G.cl [.ref a0, .int ((59 : Int32))] [] (am_Cl.mono (by decide) (lX7_passSign e110)) rfl rfl rfl rfl (Nat.le_of_ble_eq_true rfl) ?_
                obtain ⟨b113, e114, H⟩ := am_bd H
                obtain ⟨rfl, rfl⟩ := am_inj2 H
                exact am_G.nd ⟨rfl, am_ret2 rfl e114⟩
              · rw [if_neg c107] at H
                refine am_G.br (tgt := 78) rfl rfl (if_neg c107) rfl ?_
                refine am_G.fr 3 (g := (81, [some (.ref a0), some (.ref a1), some (.ref a2), some (.int x2), some (.int taken91), some (.int ((-1 : Int32)))], [.int ((0 : Int32)), .ref a1, .ref a0])) rfl ?_
                obtain ⟨x116, hh117, e115, H⟩ := am_bd2 H
                refine am_G.cl [.ref a0, .ref a1, .int ((0 : Int32))] [] (am_Cl.mono (by decide) (lX4_passHouse e115)) rfl rfl rfl rfl (Nat.le_of_ble_eq_true rfl) ?_
                by_cases c118 : ¬ x116 = 0
                · rw [if_pos c118] at H
                  refine am_G.br (tgt := 89) rfl rfl (if_pos c118) rfl ?_
                  refine am_G.fr 1 (g := (90, [some (.ref a0), some (.ref a1), some (.ref a2), some (.int x2), some (.int taken91), some (.int ((-1 : Int32)))], [.ref a0])) rfl ?_
                  obtain ⟨taken119, e120, H⟩ := am_bd H
                  refine am_G.gI rfl e120 ?_
                  refine am_G.fr 5 (g := (101, [some (.ref a0), some (.ref a1), some (.ref a2), some (.int x2), some (.int taken91), some (.int taken119)], [.int taken119, .int taken91, .int x2, .ref a2])) rfl ?_
                  obtain ⟨hh122, e121, H⟩ := am_bd H
                  refine am_G.cl [.ref a2, .int x2, .int taken91, .int taken119] [] (am_Cl.mono (by decide) (lX3_add e121)) rfl rfl rfl rfl (Nat.le_of_ble_eq_true rfl) ?_
                  refine am_G.fr 2 (g := (107, [some (.ref a0), some (.ref a1), some (.ref a2), some (.int x2), some (.int taken91), some (.int taken119)], [.int ((59 : Int32)), .ref a0])) rfl ?_
                  obtain ⟨x124, hh125, e123, H⟩ := am_bd2 H
                  refine am_G.cl [.ref a0, .int ((59 : Int32))] [] (am_Cl.mono (by decide) (lX7_passSign e123)) rfl rfl rfl rfl (Nat.le_of_ble_eq_true rfl) ?_
                  obtain ⟨b126, e127, H⟩ := am_bd H
                  obtain ⟨rfl, rfl⟩ := am_inj2 H
                  exact am_G.nd ⟨rfl, am_ret2 rfl e127⟩
                · rw [if_neg c118] at H
                  refine am_G.br (tgt := 87) rfl rfl (if_neg c118) rfl ?_
                  refine am_G.fr 1 (g := (88, [some (.ref a0), some (.ref a1), some (.ref a2), some (.int x2), some (.int taken91), some (.int ((-1 : Int32)))], [.int ((0 : Int32))])) rfl ?_
                  obtain ⟨rfl, rfl⟩ := am_inj2 H
                  exact am_G.nd ⟨rfl, am_ret2 rfl (if_pos (by decide))⟩
          · rw [if_neg c90] at H
            refine am_G.br (tgt := 60) rfl rfl (if_neg c90) rfl ?_
            refine am_G.fr 1 (g := (61, [some (.ref a0), some (.ref a1), some (.ref a2), some (.int x2), some (.int ((-1 : Int32))), some (.int ((-1 : Int32)))], [.int ((0 : Int32))])) rfl ?_
            obtain ⟨rfl, rfl⟩ := am_inj2 H
            exact am_G.nd ⟨rfl, am_ret2 rfl (if_pos (by decide))⟩
    · rw [if_neg c6] at H
      refine am_G.br (tgt := 25) rfl rfl (if_neg c6) rfl ?_
      refine am_G.fr 2 (g := (27, [some (.ref a0), some (.ref a1), some (.ref a2), some (.int x2), none, none], [.int ((5 : Int32)), .ref a0])) rfl ?_
      obtain ⟨x129, hh130, e128, H⟩ := am_bd2 H
      refine am_G.cl [.ref a0, .int ((5 : Int32))] [] (am_Cl.mono (by decide) (lX7_refuse e128)) rfl rfl rfl rfl (Nat.le_of_ble_eq_true rfl) ?_
      obtain ⟨b131, e132, H⟩ := am_bd H
      obtain ⟨rfl, rfl⟩ := am_inj2 H
      exact am_G.nd ⟨rfl, am_ret2 rfl e132⟩
  · rw [if_neg c3] at H
    refine am_G.br (tgt := 10) rfl rfl (if_neg c3) rfl ?_
    refine am_G.fr 2 (g := (12, [some (.ref a0), some (.ref a1), some (.ref a2), some (.int x2), none, none], [.int ((1 : Int32)), .ref a0])) rfl ?_
    obtain ⟨x134, hh135, e133, H⟩ := am_bd2 H
    refine am_G.cl [.ref a0, .int ((1 : Int32))] [] (am_Cl.mono (by decide) (lX7_refuse e133)) rfl rfl rfl rfl (Nat.le_of_ble_eq_true rfl) ?_
    obtain ⟨b136, e137, H⟩ := am_bd H
    obtain ⟨rfl, rfl⟩ := am_inj2 H
    exact am_G.nd ⟨rfl, am_ret2 rfl e137⟩
def fX4_readPlan_L11 : Nat → Nat → Nat → Nat → Int32 → am_H → Option ((am_H) ⊕ (Int32 × am_H))
  | 0, _, _, _, _, _ => none
  | n + 1, v0, v1, v2, v3, h =>
    if ((40 : Int32)) < v3 then
      some (.inl h)
    else
      (fX7_atEnd v0 h).bind fun x7 =>
      if ¬ x7 = 0 then
        some (.inl h)
      else
        am_b2 (fX4_readPlanLine v0 v1 v2 h) fun x10 hh11 =>
        if ¬ x10 = 0 then
          fX4_readPlan_L11 n v0 v1 v2 (v3 + (1 : Int32)) hh11
        else
          (am_gI hh11 v0 6 7).bind fun fault13 =>
          some (.inr (fault13, hh11))
def fX4_readPlan (a0 : Nat) (a1 : Nat) (a2 : Nat) (h : am_H) : Option (Int32 × am_H) :=
  (am_pF h a2 3 3 (.int ((0 : Int32)))).bind fun hh1 =>
  (fX7_begin a0 hh1).bind fun hh4 =>
  (fX4_readPlan_L11 4000 a0 a1 a2 ((0 : Int32)) hh4).bind fun o17 => match o17 with
    | .inl hh15 =>
      some ((0 : Int32), hh15)
    | .inr y18 => some y18
set_option maxHeartbeats 4000000 in
set_option maxRecDepth 100000 in
theorem lX4_readPlan_L11 {sc : Nat × (Nat → Int32)} : ∀ (n : Nat) (v0 : Nat) (v1 : Nat) (v2 : Nat) (v3 : Int32) (h : am_H) (o : (am_H) ⊕ (Int32 × am_H)), fX4_readPlan_L11 n v0 v1 v2 v3 h = some o → am_G sc (am_Cl am_T am_N sc 14) (am_at kX4_readPlan) (fun t => match o with
    | .inl h1 => t = ((44, [none, none, none, none], []), h1)
    | .inr y => t.2 = y.2 ∧ am_ret 1 (am_at kX4_readPlan) t.1 = some (some (.int y.1))) ((11, [some (.ref v0), some (.ref v1), some (.ref v2), some (.int v3)], []), h) := by
  intro n
  induction n with
  | zero => intro _ _ _ _ _ _ H; cases H
  | succ n ih =>
    intro v0 v1 v2 v3 h o H
    rw [fX4_readPlan_L11] at H
    refine am_G.fr 2 (g := (14, [some (.ref v0), some (.ref v1), some (.ref v2), some (.int v3)], [.int ((40 : Int32)), .int v3])) rfl ?_
    by_cases c5 : ((40 : Int32)) < v3
    · rw [if_pos c5] at H
      refine am_G.br (tgt := 44) rfl rfl (if_pos c5) rfl ?_
      obtain rfl := Option.some.inj H
      refine am_G.fg [none, none, none, none] (by simp only [am_sub, and_self]) ?_
      exact am_G.nd rfl
    · rw [if_neg c5] at H
      refine am_G.br (tgt := 17) rfl rfl (if_neg c5) rfl ?_
      refine am_G.fr 1 (g := (18, [some (.ref v0), some (.ref v1), some (.ref v2), some (.int v3)], [.ref v0])) rfl ?_
      obtain ⟨x7, e6, H⟩ := am_bd H
      refine am_G.cl [.ref v0] [] (am_Cl.mono (by decide) (lX7_atEnd e6)) rfl rfl rfl rfl (Nat.le_of_ble_eq_true rfl) ?_
      by_cases c8 : ¬ x7 = 0
      · rw [if_pos c8] at H
        refine am_G.br (tgt := 44) rfl rfl (if_pos c8) rfl ?_
        obtain rfl := Option.some.inj H
        refine am_G.fg [none, none, none, none] (by simp only [am_sub, and_self]) ?_
        exact am_G.nd rfl
      · rw [if_neg c8] at H
        refine am_G.br (tgt := 24) rfl rfl (if_neg c8) rfl ?_
        refine am_G.fr 3 (g := (27, [some (.ref v0), some (.ref v1), some (.ref v2), some (.int v3)], [.ref v2, .ref v1, .ref v0])) rfl ?_
        obtain ⟨x10, hh11, e9, H⟩ := am_bd2 H
        refine am_G.cl [.ref v0, .ref v1, .ref v2] [] (am_Cl.mono (by decide) (lX4_readPlanLine e9)) rfl rfl rfl rfl (Nat.le_of_ble_eq_true rfl) ?_
        by_cases c12 : ¬ x10 = 0
        · rw [if_pos c12] at H
          refine am_G.br (tgt := 38) rfl rfl (if_pos c12) rfl ?_
          refine am_G.fr 2 (g := (11, [some (.ref v0), some (.ref v1), some (.ref v2), some (.int (v3 + (1 : Int32)))], [])) rfl ?_
          exact ih _ _ _ _ _ _ H
        · rw [if_neg c12] at H
          refine am_G.br (tgt := 33) rfl rfl (if_neg c12) rfl ?_
          refine am_G.fr 1 (g := (34, [some (.ref v0), some (.ref v1), some (.ref v2), some (.int v3)], [.ref v0])) rfl ?_
          obtain ⟨fault13, e14, H⟩ := am_bd H
          refine am_G.gI rfl e14 ?_
          obtain rfl := Option.some.inj H
          exact am_G.nd ⟨rfl, rfl⟩
set_option maxHeartbeats 4000000 in
set_option maxRecDepth 100000 in
theorem lX4_readPlan {sc : Nat × (Nat → Int32)} {a0 : Nat} {a1 : Nat} {a2 : Nat} {h : am_H} {r : Int32} {h1 : am_H} (H : fX4_readPlan a0 a1 a2 h = some (r, h1)) : am_Cl am_T am_N sc 15 24 [.ref a0, .ref a1, .ref a2] h (some (.int r)) h1 := by
  unfold fX4_readPlan at H
  refine am_mk (q := qX4_readPlan) rfl (fun z => absurd z (by decide)) (fun z => absurd z (by decide)) (Nat.le_of_ble_eq_true rfl) rfl ?_
  show am_G sc (am_Cl am_T am_N sc 14) (am_at kX4_readPlan) (fun t => t.2 = h1 ∧ am_ret 1 (am_at kX4_readPlan) t.1 = some (some (.int r))) ((0, [some (.ref a0), some (.ref a1), some (.ref a2), none], []), h)
  refine am_G.fr 2 (g := (2, [some (.ref a0), some (.ref a1), some (.ref a2), none], [.int ((0 : Int32)), .ref a2])) rfl ?_
  obtain ⟨hh1, e2, H⟩ := am_bd H
  refine am_G.pF rfl e2 ?_
  refine am_G.fr 1 (g := (6, [some (.ref a0), some (.ref a1), some (.ref a2), none], [.ref a0])) rfl ?_
  obtain ⟨hh4, e3, H⟩ := am_bd H
  refine am_G.cl [.ref a0] [] (am_Cl.mono (by decide) (lX7_begin e3)) rfl rfl rfl rfl (Nat.le_of_ble_eq_true rfl) ?_
  refine am_G.fr 2 (g := (11, [some (.ref a0), some (.ref a1), some (.ref a2), some (.int ((0 : Int32)))], [])) rfl ?_
  obtain ⟨o17, E16, H⟩ := am_bd H
  have hL := lX4_readPlan_L11 (sc := sc) _ _ _ _ _ _ _ E16
  clear E16
  rcases o17 with hh15 | y18
  · dsimp only at H
    refine am_G.sq hL ?_
    refine am_G.fr 1 (g := (45, [none, none, none, none], [.int ((0 : Int32))])) rfl ?_
    obtain ⟨rfl, rfl⟩ := am_inj2 H
    exact am_G.nd ⟨rfl, rfl⟩
  · dsimp only at H
    obtain rfl := Option.some.inj H
    exact hL
def fX5_add (a0 : Nat) (a1 : Int32) (a2 : Int32) (h : am_H) : Option (Int32 × am_H) :=
  (am_isO h a0 4).bind fun _ =>
  (am_gI h a0 4 2).bind fun size1 =>
  if size1 < ((8 : Int32)) then
    (am_gR h a0 4 0).bind fun house4 =>
    (am_gI h a0 4 2).bind fun size6 =>
    (am_sI h 0 house4 size6 a1).bind fun hh8 =>
    (am_gR hh8 a0 4 1).bind fun behind10 =>
    (am_gI hh8 a0 4 2).bind fun size12 =>
    (am_sI hh8 0 behind10 size12 a2).bind fun hh14 =>
    (am_gI hh14 a0 4 2).bind fun size16 =>
    (am_pF hh14 a0 4 2 (.int (size16 + ((1 : Int32))))).bind fun hh18 =>
    some ((1 : Int32), hh18)
  else
    some ((0 : Int32), h)
set_option maxHeartbeats 4000000 in
set_option maxRecDepth 100000 in
theorem lX5_add {sc : Nat × (Nat → Int32)} {a0 : Nat} {a1 : Int32} {a2 : Int32} {h : am_H} {r : Int32} {h1 : am_H} (H : fX5_add a0 a1 a2 h = some (r, h1)) : am_Cl am_T am_N sc 1 33 [.ref a0, .int a1, .int a2] h (some (.int r)) h1 := by
  unfold fX5_add at H
  obtain ⟨_, hO, H⟩ := am_bd H
  obtain ⟨fs0, hO⟩ := am_isO_ok hO
  refine am_mk (q := qX5_add) rfl (fun _ => ⟨_, _, _, _, _, rfl, hO, rfl, rfl⟩) (fun z => absurd z (by decide)) (Nat.le_of_ble_eq_true rfl) rfl ?_
  show am_G sc (am_Cl am_T am_N sc 0) (am_at kX5_add) (fun t => t.2 = h1 ∧ am_ret 2 (am_at kX5_add) t.1 = some (some (.int r))) ((0, [some (.ref a0), some (.int a1), some (.int a2)], []), h)
  refine am_G.fr 1 (g := (1, [some (.ref a0), some (.int a1), some (.int a2)], [.ref a0])) rfl ?_
  obtain ⟨size1, e2, H⟩ := am_bd H
  refine am_G.gI rfl e2 ?_
  refine am_G.fr 1 (g := (6, [some (.ref a0), some (.int a1), some (.int a2)], [.int ((8 : Int32)), .int size1])) rfl ?_
  by_cases c3 : size1 < ((8 : Int32))
  · rw [if_pos c3] at H
    refine am_G.br (tgt := 11) rfl rfl (if_pos c3) rfl ?_
    refine am_G.fr 1 (g := (12, [some (.ref a0), some (.int a1), some (.int a2)], [.ref a0])) rfl ?_
    obtain ⟨house4, e5, H⟩ := am_bd H
    refine am_G.gR rfl e5 ?_
    refine am_G.fr 1 (g := (16, [some (.ref a0), some (.int a1), some (.int a2)], [.ref a0, .ref house4])) rfl ?_
    obtain ⟨size6, e7, H⟩ := am_bd H
    refine am_G.gI rfl e7 ?_
    refine am_G.fr 1 (g := (20, [some (.ref a0), some (.int a1), some (.int a2)], [.int a1, .int size6, .ref house4])) rfl ?_
    obtain ⟨hh8, e9, H⟩ := am_bd H
    refine am_G.sI rfl e9 ?_
    refine am_G.fr 1 (g := (22, [some (.ref a0), some (.int a1), some (.int a2)], [.ref a0])) rfl ?_
    obtain ⟨behind10, e11, H⟩ := am_bd H
    refine am_G.gR rfl e11 ?_
    refine am_G.fr 1 (g := (26, [some (.ref a0), some (.int a1), some (.int a2)], [.ref a0, .ref behind10])) rfl ?_
    obtain ⟨size12, e13, H⟩ := am_bd H
    refine am_G.gI rfl e13 ?_
    refine am_G.fr 1 (g := (30, [some (.ref a0), some (.int a1), some (.int a2)], [.int a2, .int size12, .ref behind10])) rfl ?_
    obtain ⟨hh14, e15, H⟩ := am_bd H
    refine am_G.sI rfl e15 ?_
    refine am_G.fr 2 (g := (33, [some (.ref a0), some (.int a1), some (.int a2)], [.ref a0, .ref a0])) rfl ?_
    obtain ⟨size16, e17, H⟩ := am_bd H
    refine am_G.gI rfl e17 ?_
    refine am_G.fr 2 (g := (38, [some (.ref a0), some (.int a1), some (.int a2)], [.int (size16 + ((1 : Int32))), .ref a0])) rfl ?_
    obtain ⟨hh18, e19, H⟩ := am_bd H
    refine am_G.pF rfl e19 ?_
    refine am_G.fr 1 (g := (42, [some (.ref a0), some (.int a1), some (.int a2)], [.int ((1 : Int32))])) rfl ?_
    obtain ⟨rfl, rfl⟩ := am_inj2 H
    exact am_G.nd ⟨rfl, am_ret2 rfl (if_pos (by decide))⟩
  · rw [if_neg c3] at H
    refine am_G.br (tgt := 9) rfl rfl (if_neg c3) rfl ?_
    refine am_G.fr 1 (g := (10, [some (.ref a0), some (.int a1), some (.int a2)], [.int ((0 : Int32))])) rfl ?_
    obtain ⟨rfl, rfl⟩ := am_inj2 H
    exact am_G.nd ⟨rfl, am_ret2 rfl (if_pos (by decide))⟩
def fX6_begin (a0 : Nat) (a1 : Nat) (h : am_H) : Option (am_H) :=
  (am_isO h a0 5).bind fun _ =>
  (am_gR h a1 7 1).bind fun beds1 =>
  (am_gR h a0 5 0).bind fun beds3 =>
  (am_cp h beds1 ((0 : Int32)) beds3 ((0 : Int32)) ((4 : Int32))).bind fun hh5 =>
  (am_gR hh5 a1 7 6).bind fun on7 =>
  (am_gR hh5 a0 5 1).bind fun on9 =>
  (am_cp hh5 on7 ((0 : Int32)) on9 ((0 : Int32)) ((6 : Int32))).bind fun hh11 =>
  (am_gR hh11 a1 7 7).bind fun says13 =>
  (am_gR hh11 a0 5 2).bind fun says15 =>
  (am_cp hh11 says13 ((0 : Int32)) says15 ((0 : Int32)) ((6 : Int32))).bind fun hh17 =>
  (am_gR hh17 a0 5 3).bind fun at19 =>
  (fJ7_fill_53178 at19 ((-1 : Int32)) hh17).bind fun hh22 =>
  (am_gR hh22 a0 5 4).bind fun been23 =>
  (fJ7_fill_53178 been23 ((0 : Int32)) hh22).bind fun hh26 =>
  (am_gR hh26 a0 5 5).bind fun times27 =>
  (fJ7_fill_53178 times27 ((0 : Int32)) hh26).bind fun hh30 =>
  (am_pF hh30 a0 5 6 (.int ((0 : Int32)))).bind fun hh31 =>
  (am_pF hh31 a0 5 7 (.int ((0 : Int32)))).bind fun hh33 =>
  (am_pF hh33 a0 5 8 (.int ((0 : Int32)))).bind fun hh35 =>
  some hh35
set_option maxHeartbeats 4000000 in
set_option maxRecDepth 100000 in
theorem lX6_begin {sc : Nat × (Nat → Int32)} {a0 : Nat} {a1 : Nat} {h : am_H} {h1 : am_H} (H : fX6_begin a0 a1 h = some h1) : am_Cl am_T am_N sc 2 36 [.ref a0, .ref a1] h none h1 := by
  unfold fX6_begin at H
  obtain ⟨_, hO, H⟩ := am_bd H
  obtain ⟨fs0, hO⟩ := am_isO_ok hO
  refine am_mk (q := qX6_begin) rfl (fun _ => ⟨_, _, _, _, _, rfl, hO, rfl, rfl⟩) (fun z => absurd z (by decide)) (Nat.le_of_ble_eq_true rfl) rfl ?_
  show am_G sc (am_Cl am_T am_N sc 1) (am_at kX6_begin) (fun t => t.2 = h1 ∧ am_ret 0 (am_at kX6_begin) t.1 = some none) ((0, [some (.ref a0), some (.ref a1)], []), h)
  refine am_G.fr 1 (g := (1, [some (.ref a0), some (.ref a1)], [.ref a1])) rfl ?_
  obtain ⟨beds1, e2, H⟩ := am_bd H
  refine am_G.gR rfl e2 ?_
  refine am_G.fr 2 (g := (6, [some (.ref a0), some (.ref a1)], [.ref a0, .int ((0 : Int32)), .ref beds1])) rfl ?_
  obtain ⟨beds3, e4, H⟩ := am_bd H
  refine am_G.gR rfl e4 ?_
  refine am_G.fr 2 (g := (11, [some (.ref a0), some (.ref a1)], [.int ((4 : Int32)), .int ((0 : Int32)), .ref beds3, .int ((0 : Int32)), .ref beds1])) rfl ?_
  obtain ⟨hh5, e6, H⟩ := am_bd H
  refine am_G.cp rfl (Nat.le_of_ble_eq_true rfl) e6 ?_
  refine am_G.fr 1 (g := (15, [some (.ref a0), some (.ref a1)], [.ref a1])) rfl ?_
  obtain ⟨on7, e8, H⟩ := am_bd H
  refine am_G.gR rfl e8 ?_
  refine am_G.fr 2 (g := (20, [some (.ref a0), some (.ref a1)], [.ref a0, .int ((0 : Int32)), .ref on7])) rfl ?_
  obtain ⟨on9, e10, H⟩ := am_bd H
  refine am_G.gR rfl e10 ?_
  refine am_G.fr 2 (g := (26, [some (.ref a0), some (.ref a1)], [.int ((6 : Int32)), .int ((0 : Int32)), .ref on9, .int ((0 : Int32)), .ref on7])) rfl ?_
  obtain ⟨hh11, e12, H⟩ := am_bd H
  refine am_G.cp rfl (Nat.le_of_ble_eq_true rfl) e12 ?_
  refine am_G.fr 1 (g := (30, [some (.ref a0), some (.ref a1)], [.ref a1])) rfl ?_
  obtain ⟨says13, e14, H⟩ := am_bd H
  refine am_G.gR rfl e14 ?_
  refine am_G.fr 2 (g := (35, [some (.ref a0), some (.ref a1)], [.ref a0, .int ((0 : Int32)), .ref says13])) rfl ?_
  obtain ⟨says15, e16, H⟩ := am_bd H
  refine am_G.gR rfl e16 ?_
  refine am_G.fr 2 (g := (41, [some (.ref a0), some (.ref a1)], [.int ((6 : Int32)), .int ((0 : Int32)), .ref says15, .int ((0 : Int32)), .ref says13])) rfl ?_
  obtain ⟨hh17, e18, H⟩ := am_bd H
  refine am_G.cp rfl (Nat.le_of_ble_eq_true rfl) e18 ?_
  refine am_G.fr 1 (g := (45, [some (.ref a0), some (.ref a1)], [.ref a0])) rfl ?_
  obtain ⟨at19, e20, H⟩ := am_bd H
  refine am_G.gR rfl e20 ?_
  refine am_G.fr 1 (g := (49, [some (.ref a0), some (.ref a1)], [.int ((-1 : Int32)), .ref at19])) rfl ?_
  obtain ⟨hh22, e21, H⟩ := am_bd H
  refine am_G.cl [.ref at19, .int ((-1 : Int32))] [] (am_Cl.mono (by decide) (lJ7_fill_53178 e21)) rfl rfl rfl rfl (Nat.le_of_ble_eq_true rfl) ?_
  refine am_G.fr 1 (g := (53, [some (.ref a0), some (.ref a1)], [.ref a0])) rfl ?_
  obtain ⟨been23, e24, H⟩ := am_bd H
  refine am_G.gR rfl e24 ?_
  refine am_G.fr 1 (g := (57, [some (.ref a0), some (.ref a1)], [.int ((0 : Int32)), .ref been23])) rfl ?_
  obtain ⟨hh26, e25, H⟩ := am_bd H
  refine am_G.cl [.ref been23, .int ((0 : Int32))] [] (am_Cl.mono (by decide) (lJ7_fill_53178 e25)) rfl rfl rfl rfl (Nat.le_of_ble_eq_true rfl) ?_
  refine am_G.fr 1 (g := (61, [some (.ref a0), some (.ref a1)], [.ref a0])) rfl ?_
  obtain ⟨times27, e28, H⟩ := am_bd H
  refine am_G.gR rfl e28 ?_
  refine am_G.fr 1 (g := (65, [some (.ref a0), some (.ref a1)], [.int ((0 : Int32)), .ref times27])) rfl ?_
  obtain ⟨hh30, e29, H⟩ := am_bd H
  refine am_G.cl [.ref times27, .int ((0 : Int32))] [] (am_Cl.mono (by decide) (lJ7_fill_53178 e29)) rfl rfl rfl rfl (Nat.le_of_ble_eq_true rfl) ?_
  refine am_G.fr 2 (g := (70, [some (.ref a0), some (.ref a1)], [.int ((0 : Int32)), .ref a0])) rfl ?_
  obtain ⟨hh31, e32, H⟩ := am_bd H
  refine am_G.pF rfl e32 ?_
  refine am_G.fr 2 (g := (75, [some (.ref a0), some (.ref a1)], [.int ((0 : Int32)), .ref a0])) rfl ?_
  obtain ⟨hh33, e34, H⟩ := am_bd H
  refine am_G.pF rfl e34 ?_
  refine am_G.fr 2 (g := (80, [some (.ref a0), some (.ref a1)], [.int ((0 : Int32)), .ref a0])) rfl ?_
  obtain ⟨hh35, e36, H⟩ := am_bd H
  refine am_G.pF rfl e36 ?_
  obtain rfl := Option.some.inj H
  exact am_G.nd ⟨rfl, rfl⟩
def fX6_flood (a0 : Nat) (h : am_H) : Option (am_H) :=
  (am_isO h a0 5).bind fun _ =>
  (am_gR h a0 5 3).bind fun at1 =>
  (fJ7_fill_53178 at1 ((-1 : Int32)) h).bind fun hh4 =>
  (am_gR hh4 a0 5 4).bind fun been5 =>
  (fJ7_fill_53178 been5 ((0 : Int32)) hh4).bind fun hh8 =>
  some hh8
set_option maxHeartbeats 4000000 in
set_option maxRecDepth 100000 in
theorem lX6_flood {sc : Nat × (Nat → Int32)} {a0 : Nat} {h : am_H} {h1 : am_H} (H : fX6_flood a0 h = some h1) : am_Cl am_T am_N sc 2 41 [.ref a0] h none h1 := by
  unfold fX6_flood at H
  obtain ⟨_, hO, H⟩ := am_bd H
  obtain ⟨fs0, hO⟩ := am_isO_ok hO
  refine am_mk (q := qX6_flood) rfl (fun _ => ⟨_, _, _, _, _, rfl, hO, rfl, rfl⟩) (fun z => absurd z (by decide)) (Nat.le_of_ble_eq_true rfl) rfl ?_
  show am_G sc (am_Cl am_T am_N sc 1) (am_at kX6_flood) (fun t => t.2 = h1 ∧ am_ret 0 (am_at kX6_flood) t.1 = some none) ((0, [some (.ref a0)], []), h)
  refine am_G.fr 1 (g := (1, [some (.ref a0)], [.ref a0])) rfl ?_
  obtain ⟨at1, e2, H⟩ := am_bd H
  refine am_G.gR rfl e2 ?_
  refine am_G.fr 1 (g := (5, [some (.ref a0)], [.int ((-1 : Int32)), .ref at1])) rfl ?_
  obtain ⟨hh4, e3, H⟩ := am_bd H
  refine am_G.cl [.ref at1, .int ((-1 : Int32))] [] (am_Cl.mono (by decide) (lJ7_fill_53178 e3)) rfl rfl rfl rfl (Nat.le_of_ble_eq_true rfl) ?_
  refine am_G.fr 1 (g := (9, [some (.ref a0)], [.ref a0])) rfl ?_
  obtain ⟨been5, e6, H⟩ := am_bd H
  refine am_G.gR rfl e6 ?_
  refine am_G.fr 1 (g := (13, [some (.ref a0)], [.int ((0 : Int32)), .ref been5])) rfl ?_
  obtain ⟨hh8, e7, H⟩ := am_bd H
  refine am_G.cl [.ref been5, .int ((0 : Int32))] [] (am_Cl.mono (by decide) (lJ7_fill_53178 e7)) rfl rfl rfl rfl (Nat.le_of_ble_eq_true rfl) ?_
  obtain rfl := Option.some.inj H
  exact am_G.nd ⟨rfl, rfl⟩
def fX6_somewhere (a0 : Nat) (a1 : Nat) (h : am_H) : Option (Int32) :=
  (am_isO h a0 5).bind fun _ =>
  (am_gI h a1 7 12).bind fun days1 =>
  (fX6_guests a0 a1 ((-1 : Int32)) h).bind fun x4 =>
  some (((((1 : Int32)) <<< (days1 &&& 31)) - ((1 : Int32))) &&& (x4 ^^^ ((-1 : Int32))))
set_option maxHeartbeats 4000000 in
set_option maxRecDepth 100000 in
theorem lX6_somewhere {sc : Nat × (Nat → Int32)} {a0 : Nat} {a1 : Nat} {h : am_H} {r : Int32} (H : fX6_somewhere a0 a1 h = some r) : am_Cl am_T am_N sc 2 50 [.ref a0, .ref a1] h (some (.int r)) h := by
  unfold fX6_somewhere at H
  obtain ⟨_, hO, H⟩ := am_bd H
  obtain ⟨fs0, hO⟩ := am_isO_ok hO
  refine am_mk (q := qX6_somewhere) rfl (fun _ => ⟨_, _, _, _, _, rfl, hO, rfl, rfl⟩) (fun z => absurd z (by decide)) (Nat.le_of_ble_eq_true rfl) rfl ?_
  show am_G sc (am_Cl am_T am_N sc 1) (am_at kX6_somewhere) (fun t => t.2 = h ∧ am_ret 1 (am_at kX6_somewhere) t.1 = some (some (.int r))) ((0, [some (.ref a0), some (.ref a1)], []), h)
  refine am_G.fr 2 (g := (2, [some (.ref a0), some (.ref a1)], [.ref a1, .int ((1 : Int32))])) rfl ?_
  obtain ⟨days1, e2, H⟩ := am_bd H
  refine am_G.gI rfl e2 ?_
  refine am_G.fr 6 (g := (11, [some (.ref a0), some (.ref a1)], [.int ((-1 : Int32)), .ref a1, .ref a0, .int ((((1 : Int32)) <<< (days1 &&& 31)) - ((1 : Int32)))])) rfl ?_
  obtain ⟨x4, e3, H⟩ := am_bd H
  refine am_G.cl [.ref a0, .ref a1, .int ((-1 : Int32))] [.int ((((1 : Int32)) <<< (days1 &&& 31)) - ((1 : Int32)))] (am_Cl.mono (by decide) (lX6_guests e3)) rfl rfl rfl rfl (Nat.le_of_ble_eq_true rfl) ?_
  refine am_G.fr 3 (g := (17, [some (.ref a0), some (.ref a1)], [.int (((((1 : Int32)) <<< (days1 &&& 31)) - ((1 : Int32))) &&& (x4 ^^^ ((-1 : Int32))))])) rfl ?_
  obtain rfl := Option.some.inj H
  exact am_G.nd ⟨rfl, rfl⟩
def fX6_talk_L5 : Nat → Nat → Nat → Int32 → Int32 → Int32 → am_H → Option (Int32)
  | 0, _, _, _, _, _, _ => none
  | n + 1, v0, v1, v2, v3, v4, h =>
    (am_gI h v1 7 12).bind fun days1 =>
    if days1 ≤ v4 then
      some v3
    else
      (am_gR h v0 5 3).bind fun at4 =>
      (am_aI h 0 at4 v4).bind fun x6 =>
      Option.bind (
        if ¬ x6 = v2 then
          some v3
        else
          (am_gR h v0 5 2).bind fun says10 =>
          (am_aI h 0 says10 v4).bind fun x12 =>
          some (v3 + x12)) fun jv8 =>
      fX6_talk_L5 n v0 v1 v2 jv8 (v4 + (1 : Int32)) h
def fX6_talk (a0 : Nat) (a1 : Nat) (a2 : Int32) (h : am_H) : Option (Int32) :=
  (am_isO h a0 5).bind fun _ =>
  Option.bind (fX6_talk_L5 4000 a0 a1 a2 ((0 : Int32)) ((0 : Int32)) h) fun lw15 =>
  some lw15
set_option maxHeartbeats 4000000 in
set_option maxRecDepth 100000 in
theorem lX6_talk_L5 {sc : Nat × (Nat → Int32)} : ∀ (n : Nat) (v0 : Nat) (v1 : Nat) (v2 : Int32) (v3 : Int32) (v4 : Int32) (h : am_H) (w3 : Int32), fX6_talk_L5 n v0 v1 v2 v3 v4 h = some w3 → am_G sc (am_Cl am_T am_N sc 0) (am_at kX6_talk) (fun t => t = ((41, [none, none, none, some (.int w3), none], []), h)) ((5, [some (.ref v0), some (.ref v1), some (.int v2), some (.int v3), some (.int v4)], []), h) := by
  intro n
  induction n with
  | zero => intro _ _ _ _ _ _ _ H; cases H
  | succ n ih =>
    intro v0 v1 v2 v3 v4 h w3 H
    rw [fX6_talk_L5] at H
    refine am_G.fr 2 (g := (8, [some (.ref v0), some (.ref v1), some (.int v2), some (.int v3), some (.int v4)], [.ref v1, .int v4])) rfl ?_
    obtain ⟨days1, e2, H⟩ := am_bd H
    refine am_G.gI rfl e2 ?_
    by_cases c3 : days1 ≤ v4
    · rw [if_pos c3] at H
      refine am_G.br (tgt := 41) rfl rfl (if_pos c3) rfl ?_
      obtain rfl := Option.some.inj H
      refine am_G.fg [none, none, none, some (.int v3), none] (by simp only [am_sub, and_self]) ?_
      exact am_G.nd rfl
    · rw [if_neg c3] at H
      refine am_G.br (tgt := 14) rfl rfl (if_neg c3) rfl ?_
      refine am_G.fr 1 (g := (15, [some (.ref v0), some (.ref v1), some (.int v2), some (.int v3), some (.int v4)], [.ref v0])) rfl ?_
      obtain ⟨at4, e5, H⟩ := am_bd H
      refine am_G.gR rfl e5 ?_
      refine am_G.fr 1 (g := (20, [some (.ref v0), some (.ref v1), some (.int v2), some (.int v3), some (.int v4)], [.int v4, .ref at4])) rfl ?_
      obtain ⟨x6, e7, H⟩ := am_bd H
      refine am_G.aI rfl e7 ?_
      refine am_G.fr 1 (g := (22, [some (.ref v0), some (.ref v1), some (.int v2), some (.int v3), some (.int v4)], [.int v2, .int x6])) rfl ?_
      obtain ⟨jv8, E14, H⟩ := am_bd H
      refine am_G.sq (t := ((35, [some (.ref v0), some (.ref v1), some (.int v2), some (.int jv8), some (.int v4)], []), h)) ?_ ?_
      · clear H
        have H := E14
        clear E14
        by_cases c9 : ¬ x6 = v2
        · rw [if_pos c9] at H
          refine am_G.br (tgt := 35) rfl rfl (if_pos c9) rfl ?_
          obtain rfl := Option.some.inj H
          exact am_G.nd rfl
        · rw [if_neg c9] at H
          refine am_G.br (tgt := 25) rfl rfl (if_neg c9) rfl ?_
          refine am_G.fr 2 (g := (27, [some (.ref v0), some (.ref v1), some (.int v2), some (.int v3), some (.int v4)], [.ref v0, .int v3])) rfl ?_
          obtain ⟨says10, e11, H⟩ := am_bd H
          refine am_G.gR rfl e11 ?_
          refine am_G.fr 1 (g := (32, [some (.ref v0), some (.ref v1), some (.int v2), some (.int v3), some (.int v4)], [.int v4, .ref says10, .int v3])) rfl ?_
          obtain ⟨x12, e13, H⟩ := am_bd H
          refine am_G.aI rfl e13 ?_
          refine am_G.fr 2 (g := (35, [some (.ref v0), some (.ref v1), some (.int v2), some (.int (v3 + x12)), some (.int v4)], [])) rfl ?_
          obtain rfl := Option.some.inj H
          exact am_G.nd rfl
      · clear E14
        refine am_G.fr 2 (g := (5, [some (.ref v0), some (.ref v1), some (.int v2), some (.int jv8), some (.int (v4 + (1 : Int32)))], [])) rfl ?_
        exact ih _ _ _ _ _ _ _ H
set_option maxHeartbeats 4000000 in
set_option maxRecDepth 100000 in
theorem lX6_talk {sc : Nat × (Nat → Int32)} {a0 : Nat} {a1 : Nat} {a2 : Int32} {h : am_H} {r : Int32} (H : fX6_talk a0 a1 a2 h = some r) : am_Cl am_T am_N sc 1 51 [.ref a0, .ref a1, .int a2] h (some (.int r)) h := by
  unfold fX6_talk at H
  obtain ⟨_, hO, H⟩ := am_bd H
  obtain ⟨fs0, hO⟩ := am_isO_ok hO
  refine am_mk (q := qX6_talk) rfl (fun _ => ⟨_, _, _, _, _, rfl, hO, rfl, rfl⟩) (fun z => absurd z (by decide)) (Nat.le_of_ble_eq_true rfl) rfl ?_
  show am_G sc (am_Cl am_T am_N sc 0) (am_at kX6_talk) (fun t => t.2 = h ∧ am_ret 1 (am_at kX6_talk) t.1 = some (some (.int r))) ((0, [some (.ref a0), some (.ref a1), some (.int a2), none, none], []), h)
  refine am_G.fr 4 (g := (5, [some (.ref a0), some (.ref a1), some (.int a2), some (.int ((0 : Int32))), some (.int ((0 : Int32)))], [])) rfl ?_
  obtain ⟨lw15, E16, H⟩ := am_bd H
  refine am_G.sq (lX6_talk_L5 _ _ _ _ _ _ _ _ E16) ?_
  clear E16
  refine am_G.fr 1 (g := (42, [none, none, none, some (.int lw15), none], [.int lw15])) rfl ?_
  obtain rfl := Option.some.inj H
  exact am_G.nd ⟨rfl, rfl⟩
def fX6_talkOfAll_L4 : Nat → Nat → Nat → Int32 → Int32 → am_H → Option (Int32)
  | 0, _, _, _, _, _ => none
  | n + 1, v0, v1, v2, v3, h =>
    (am_gI h v1 7 12).bind fun days1 =>
    if days1 ≤ v3 then
      some v2
    else
      (am_gR h v0 5 2).bind fun says4 =>
      (am_aI h 0 says4 v3).bind fun x6 =>
      fX6_talkOfAll_L4 n v0 v1 (v2 + x6) (v3 + (1 : Int32)) h
def fX6_talkOfAll (a0 : Nat) (a1 : Nat) (h : am_H) : Option (Int32) :=
  (am_isO h a0 5).bind fun _ =>
  Option.bind (fX6_talkOfAll_L4 4000 a0 a1 ((0 : Int32)) ((0 : Int32)) h) fun lw8 =>
  some lw8
set_option maxHeartbeats 4000000 in
set_option maxRecDepth 100000 in
theorem lX6_talkOfAll_L4 {sc : Nat × (Nat → Int32)} : ∀ (n : Nat) (v0 : Nat) (v1 : Nat) (v2 : Int32) (v3 : Int32) (h : am_H) (w2 : Int32), fX6_talkOfAll_L4 n v0 v1 v2 v3 h = some w2 → am_G sc (am_Cl am_T am_N sc 0) (am_at kX6_talkOfAll) (fun t => t = ((27, [none, none, some (.int w2), none], []), h)) ((4, [some (.ref v0), some (.ref v1), some (.int v2), some (.int v3)], []), h) := by
  intro n
  induction n with
  | zero => intro _ _ _ _ _ _ H; cases H
  | succ n ih =>
    intro v0 v1 v2 v3 h w2 H
    rw [fX6_talkOfAll_L4] at H
    refine am_G.fr 2 (g := (6, [some (.ref v0), some (.ref v1), some (.int v2), some (.int v3)], [.ref v1, .int v3])) rfl ?_
    obtain ⟨days1, e2, H⟩ := am_bd H
    refine am_G.gI rfl e2 ?_
    by_cases c3 : days1 ≤ v3
    · rw [if_pos c3] at H
      refine am_G.br (tgt := 27) rfl rfl (if_pos c3) rfl ?_
      obtain rfl := Option.some.inj H
      refine am_G.fg [none, none, some (.int v2), none] (by simp only [am_sub, and_self]) ?_
      exact am_G.nd rfl
    · rw [if_neg c3] at H
      refine am_G.br (tgt := 12) rfl rfl (if_neg c3) rfl ?_
      refine am_G.fr 2 (g := (14, [some (.ref v0), some (.ref v1), some (.int v2), some (.int v3)], [.ref v0, .int v2])) rfl ?_
      obtain ⟨says4, e5, H⟩ := am_bd H
      refine am_G.gR rfl e5 ?_
      refine am_G.fr 1 (g := (18, [some (.ref v0), some (.ref v1), some (.int v2), some (.int v3)], [.int v3, .ref says4, .int v2])) rfl ?_
      obtain ⟨x6, e7, H⟩ := am_bd H
      refine am_G.aI rfl e7 ?_
      refine am_G.fr 4 (g := (4, [some (.ref v0), some (.ref v1), some (.int (v2 + x6)), some (.int (v3 + (1 : Int32)))], [])) rfl ?_
      exact ih _ _ _ _ _ _ H
set_option maxHeartbeats 4000000 in
set_option maxRecDepth 100000 in
theorem lX6_talkOfAll {sc : Nat × (Nat → Int32)} {a0 : Nat} {a1 : Nat} {h : am_H} {r : Int32} (H : fX6_talkOfAll a0 a1 h = some r) : am_Cl am_T am_N sc 1 52 [.ref a0, .ref a1] h (some (.int r)) h := by
  unfold fX6_talkOfAll at H
  obtain ⟨_, hO, H⟩ := am_bd H
  obtain ⟨fs0, hO⟩ := am_isO_ok hO
  refine am_mk (q := qX6_talkOfAll) rfl (fun _ => ⟨_, _, _, _, _, rfl, hO, rfl, rfl⟩) (fun z => absurd z (by decide)) (Nat.le_of_ble_eq_true rfl) rfl ?_
  show am_G sc (am_Cl am_T am_N sc 0) (am_at kX6_talkOfAll) (fun t => t.2 = h ∧ am_ret 1 (am_at kX6_talkOfAll) t.1 = some (some (.int r))) ((0, [some (.ref a0), some (.ref a1), none, none], []), h)
  refine am_G.fr 4 (g := (4, [some (.ref a0), some (.ref a1), some (.int ((0 : Int32))), some (.int ((0 : Int32)))], [])) rfl ?_
  obtain ⟨lw8, E9, H⟩ := am_bd H
  refine am_G.sq (lX6_talkOfAll_L4 _ _ _ _ _ _ _ E9) ?_
  clear E9
  refine am_G.fr 1 (g := (28, [none, none, some (.int lw8), none], [.int lw8])) rfl ?_
  obtain rfl := Option.some.inj H
  exact am_G.nd ⟨rfl, rfl⟩
def fX6_bedsOfAll_L4 : Nat → Nat → Nat → Int32 → Int32 → am_H → Option (Int32)
  | 0, _, _, _, _, _ => none
  | n + 1, v0, v1, v2, v3, h =>
    (am_gI h v1 7 11).bind fun houses1 =>
    if houses1 ≤ v3 then
      some v2
    else
      (am_gR h v0 5 0).bind fun beds4 =>
      (am_aI h 0 beds4 v3).bind fun x6 =>
      fX6_bedsOfAll_L4 n v0 v1 (v2 + x6) (v3 + (1 : Int32)) h
def fX6_bedsOfAll (a0 : Nat) (a1 : Nat) (h : am_H) : Option (Int32) :=
  (am_isO h a0 5).bind fun _ =>
  Option.bind (fX6_bedsOfAll_L4 4000 a0 a1 ((0 : Int32)) ((0 : Int32)) h) fun lw8 =>
  some lw8
set_option maxHeartbeats 4000000 in
set_option maxRecDepth 100000 in
theorem lX6_bedsOfAll_L4 {sc : Nat × (Nat → Int32)} : ∀ (n : Nat) (v0 : Nat) (v1 : Nat) (v2 : Int32) (v3 : Int32) (h : am_H) (w2 : Int32), fX6_bedsOfAll_L4 n v0 v1 v2 v3 h = some w2 → am_G sc (am_Cl am_T am_N sc 0) (am_at kX6_bedsOfAll) (fun t => t = ((27, [none, none, some (.int w2), none], []), h)) ((4, [some (.ref v0), some (.ref v1), some (.int v2), some (.int v3)], []), h) := by
  intro n
  induction n with
  | zero => intro _ _ _ _ _ _ H; cases H
  | succ n ih =>
    intro v0 v1 v2 v3 h w2 H
    rw [fX6_bedsOfAll_L4] at H
    refine am_G.fr 2 (g := (6, [some (.ref v0), some (.ref v1), some (.int v2), some (.int v3)], [.ref v1, .int v3])) rfl ?_
    obtain ⟨houses1, e2, H⟩ := am_bd H
    refine am_G.gI rfl e2 ?_
    by_cases c3 : houses1 ≤ v3
    · rw [if_pos c3] at H
      refine am_G.br (tgt := 27) rfl rfl (if_pos c3) rfl ?_
      obtain rfl := Option.some.inj H
      refine am_G.fg [none, none, some (.int v2), none] (by simp only [am_sub, and_self]) ?_
      exact am_G.nd rfl
    · rw [if_neg c3] at H
      refine am_G.br (tgt := 12) rfl rfl (if_neg c3) rfl ?_
      refine am_G.fr 2 (g := (14, [some (.ref v0), some (.ref v1), some (.int v2), some (.int v3)], [.ref v0, .int v2])) rfl ?_
      obtain ⟨beds4, e5, H⟩ := am_bd H
      refine am_G.gR rfl e5 ?_
      refine am_G.fr 1 (g := (18, [some (.ref v0), some (.ref v1), some (.int v2), some (.int v3)], [.int v3, .ref beds4, .int v2])) rfl ?_
      obtain ⟨x6, e7, H⟩ := am_bd H
      refine am_G.aI rfl e7 ?_
      refine am_G.fr 4 (g := (4, [some (.ref v0), some (.ref v1), some (.int (v2 + x6)), some (.int (v3 + (1 : Int32)))], [])) rfl ?_
      exact ih _ _ _ _ _ _ H
set_option maxHeartbeats 4000000 in
set_option maxRecDepth 100000 in
theorem lX6_bedsOfAll {sc : Nat × (Nat → Int32)} {a0 : Nat} {a1 : Nat} {h : am_H} {r : Int32} (H : fX6_bedsOfAll a0 a1 h = some r) : am_Cl am_T am_N sc 1 53 [.ref a0, .ref a1] h (some (.int r)) h := by
  unfold fX6_bedsOfAll at H
  obtain ⟨_, hO, H⟩ := am_bd H
  obtain ⟨fs0, hO⟩ := am_isO_ok hO
  refine am_mk (q := qX6_bedsOfAll) rfl (fun _ => ⟨_, _, _, _, _, rfl, hO, rfl, rfl⟩) (fun z => absurd z (by decide)) (Nat.le_of_ble_eq_true rfl) rfl ?_
  show am_G sc (am_Cl am_T am_N sc 0) (am_at kX6_bedsOfAll) (fun t => t.2 = h ∧ am_ret 1 (am_at kX6_bedsOfAll) t.1 = some (some (.int r))) ((0, [some (.ref a0), some (.ref a1), none, none], []), h)
  refine am_G.fr 4 (g := (4, [some (.ref a0), some (.ref a1), some (.int ((0 : Int32))), some (.int ((0 : Int32)))], [])) rfl ?_
  obtain ⟨lw8, E9, H⟩ := am_bd H
  refine am_G.sq (lX6_bedsOfAll_L4 _ _ _ _ _ _ _ E9) ?_
  clear E9
  refine am_G.fr 1 (g := (28, [none, none, some (.int lw8), none], [.int lw8])) rfl ?_
  obtain rfl := Option.some.inj H
  exact am_G.nd ⟨rfl, rfl⟩
def fX6_faded_L4 : Nat → Nat → Nat → Int32 → Int32 → am_H → Option (Int32)
  | 0, _, _, _, _, _ => none
  | n + 1, v0, v1, v2, v3, h =>
    (am_gI h v1 7 12).bind fun days1 =>
    if days1 ≤ v3 then
      some v2
    else
      (am_gR h v0 5 2).bind fun says4 =>
      (am_aI h 0 says4 v3).bind fun x6 =>
      Option.bind (
        if ¬ x6 = 0 then
          some v2
        else
          some (v2 ||| (((1 : Int32)) <<< (v3 &&& 31)))) fun jv8 =>
      fX6_faded_L4 n v0 v1 jv8 (v3 + (1 : Int32)) h
def fX6_faded (a0 : Nat) (a1 : Nat) (h : am_H) : Option (Int32) :=
  (am_isO h a0 5).bind fun _ =>
  Option.bind (fX6_faded_L4 4000 a0 a1 ((0 : Int32)) ((0 : Int32)) h) fun lw11 =>
  some lw11
set_option maxHeartbeats 4000000 in
set_option maxRecDepth 100000 in
theorem lX6_faded_L4 {sc : Nat × (Nat → Int32)} : ∀ (n : Nat) (v0 : Nat) (v1 : Nat) (v2 : Int32) (v3 : Int32) (h : am_H) (w2 : Int32), fX6_faded_L4 n v0 v1 v2 v3 h = some w2 → am_G sc (am_Cl am_T am_N sc 0) (am_at kX6_faded) (fun t => t = ((33, [none, none, some (.int w2), none], []), h)) ((4, [some (.ref v0), some (.ref v1), some (.int v2), some (.int v3)], []), h) := by
  intro n
  induction n with
  | zero => intro _ _ _ _ _ _ H; cases H
  | succ n ih =>
    intro v0 v1 v2 v3 h w2 H
    rw [fX6_faded_L4] at H
    refine am_G.fr 2 (g := (6, [some (.ref v0), some (.ref v1), some (.int v2), some (.int v3)], [.ref v1, .int v3])) rfl ?_
    obtain ⟨days1, e2, H⟩ := am_bd H
    refine am_G.gI rfl e2 ?_
    by_cases c3 : days1 ≤ v3
    · rw [if_pos c3] at H
      refine am_G.br (tgt := 33) rfl rfl (if_pos c3) rfl ?_
      obtain rfl := Option.some.inj H
      refine am_G.fg [none, none, some (.int v2), none] (by simp only [am_sub, and_self]) ?_
      exact am_G.nd rfl
    · rw [if_neg c3] at H
      refine am_G.br (tgt := 12) rfl rfl (if_neg c3) rfl ?_
      refine am_G.fr 1 (g := (13, [some (.ref v0), some (.ref v1), some (.int v2), some (.int v3)], [.ref v0])) rfl ?_
      obtain ⟨says4, e5, H⟩ := am_bd H
      refine am_G.gR rfl e5 ?_
      refine am_G.fr 1 (g := (17, [some (.ref v0), some (.ref v1), some (.int v2), some (.int v3)], [.int v3, .ref says4])) rfl ?_
      obtain ⟨x6, e7, H⟩ := am_bd H
      refine am_G.aI rfl e7 ?_
      obtain ⟨jv8, E10, H⟩ := am_bd H
      refine am_G.sq (t := ((27, [some (.ref v0), some (.ref v1), some (.int jv8), some (.int v3)], []), h)) ?_ ?_
      · clear H
        have H := E10
        clear E10
        by_cases c9 : ¬ x6 = 0
        · rw [if_pos c9] at H
          refine am_G.br (tgt := 27) rfl rfl (if_pos c9) rfl ?_
          obtain rfl := Option.some.inj H
          exact am_G.nd rfl
        · rw [if_neg c9] at H
          refine am_G.br (tgt := 21) rfl rfl (if_neg c9) rfl ?_
          refine am_G.fr 6 (g := (27, [some (.ref v0), some (.ref v1), some (.int (v2 ||| (((1 : Int32)) <<< (v3 &&& 31)))), some (.int v3)], [])) rfl ?_
          obtain rfl := Option.some.inj H
          exact am_G.nd rfl
      · clear E10
        refine am_G.fr 2 (g := (4, [some (.ref v0), some (.ref v1), some (.int jv8), some (.int (v3 + (1 : Int32)))], [])) rfl ?_
        exact ih _ _ _ _ _ _ H
set_option maxHeartbeats 4000000 in
set_option maxRecDepth 100000 in
theorem lX6_faded {sc : Nat × (Nat → Int32)} {a0 : Nat} {a1 : Nat} {h : am_H} {r : Int32} (H : fX6_faded a0 a1 h = some r) : am_Cl am_T am_N sc 1 54 [.ref a0, .ref a1] h (some (.int r)) h := by
  unfold fX6_faded at H
  obtain ⟨_, hO, H⟩ := am_bd H
  obtain ⟨fs0, hO⟩ := am_isO_ok hO
  refine am_mk (q := qX6_faded) rfl (fun _ => ⟨_, _, _, _, _, rfl, hO, rfl, rfl⟩) (fun z => absurd z (by decide)) (Nat.le_of_ble_eq_true rfl) rfl ?_
  show am_G sc (am_Cl am_T am_N sc 0) (am_at kX6_faded) (fun t => t.2 = h ∧ am_ret 1 (am_at kX6_faded) t.1 = some (some (.int r))) ((0, [some (.ref a0), some (.ref a1), none, none], []), h)
  refine am_G.fr 4 (g := (4, [some (.ref a0), some (.ref a1), some (.int ((0 : Int32))), some (.int ((0 : Int32)))], [])) rfl ?_
  obtain ⟨lw11, E12, H⟩ := am_bd H
  refine am_G.sq (lX6_faded_L4 _ _ _ _ _ _ _ E12) ?_
  clear E12
  refine am_G.fr 1 (g := (34, [none, none, some (.int lw11), none], [.int lw11])) rfl ?_
  obtain rfl := Option.some.inj H
  exact am_G.nd ⟨rfl, rfl⟩
def fX7_init (a0 : Nat) (h : am_H) : Option (am_H) :=
  am_b2 (am_nA h 2 ((1000 : Int32))) fun a1 hh2 =>
  (am_pF hh2 a0 6 0 (.ref a1)).bind fun hh4 =>
  some hh4
set_option maxHeartbeats 4000000 in
set_option maxRecDepth 100000 in
theorem lX7_init {sc : Nat × (Nat → Int32)} {a0 : Nat} {h : am_H} {h1 : am_H} (H : fX7_init a0 h = some h1) : am_Cl am_T am_N sc 1 55 [.ref a0] h none h1 := by
  unfold fX7_init at H
  refine am_mk (q := qX7_init) rfl (fun z => absurd z (by decide)) (fun _ => ⟨_, _, rfl⟩) (Nat.le_of_ble_eq_true rfl) rfl ?_
  show am_G sc (am_Cl am_T am_N sc 0) (am_at kX7_init) (fun t => t.2 = h1 ∧ am_ret 0 (am_at kX7_init) t.1 = some none) ((0, [some (.ref a0)], []), h)
  refine am_G.fr 1 (g := (1, [some (.ref a0)], [.ref a0])) rfl ?_
  refine am_G.oi rfl (Nat.le_of_ble_eq_true rfl) ?_
  refine am_G.fr 2 (g := (8, [some (.ref a0)], [.int ((1000 : Int32)), .ref a0])) rfl ?_
  obtain ⟨a1, hh2, e3, H⟩ := am_bd2 H
  refine am_G.nA rfl e3 ?_
  obtain ⟨hh4, e5, H⟩ := am_bd H
  refine am_G.pF rfl e5 ?_
  obtain rfl := Option.some.inj H
  exact am_G.nd ⟨rfl, rfl⟩
def fX7_add (a0 : Nat) (a1 : Int32) (h : am_H) : Option (am_H) :=
  (am_isO h a0 6).bind fun _ =>
  (am_gI h a0 6 1).bind fun length1 =>
  (am_gR h a0 6 0).bind fun signs3 =>
  (am_len h signs3).bind fun n5 =>
  Option.bind (
    if n5 ≤ length1 then
      some h
    else
      if a1 = ((10 : Int32)) then
        (am_gR h a0 6 0).bind fun signs10 =>
        (am_gI h a0 6 1).bind fun length12 =>
        (am_sI h 2 signs10 length12 a1.toInt8.toInt32).bind fun hh14 =>
        (am_gI hh14 a0 6 1).bind fun length16 =>
        (am_pF hh14 a0 6 1 (.int (length16 + ((1 : Int32))))).bind fun hh18 =>
        some hh18
      else
        (fX9_within a1 ((32 : Int32)) ((126 : Int32)) h).bind fun x21 =>
        if x21 = 0 then
          some h
        else
          (am_gR h a0 6 0).bind fun signs23 =>
          (am_gI h a0 6 1).bind fun length25 =>
          (am_sI h 2 signs23 length25 a1.toInt8.toInt32).bind fun hh27 =>
          (am_gI hh27 a0 6 1).bind fun length29 =>
          (am_pF hh27 a0 6 1 (.int (length29 + ((1 : Int32))))).bind fun hh31 =>
          some hh31) fun hh7 =>
  some hh7
set_option maxHeartbeats 4000000 in
set_option maxRecDepth 100000 in
theorem lX7_add {sc : Nat × (Nat → Int32)} {a0 : Nat} {a1 : Int32} {h : am_H} {h1 : am_H} (H : fX7_add a0 a1 h = some h1) : am_Cl am_T am_N sc 2 56 [.ref a0, .int a1] h none h1 := by
  unfold fX7_add at H
  obtain ⟨_, hO, H⟩ := am_bd H
  obtain ⟨fs0, hO⟩ := am_isO_ok hO
  refine am_mk (q := qX7_add) rfl (fun _ => ⟨_, _, _, _, _, rfl, hO, rfl, rfl⟩) (fun z => absurd z (by decide)) (Nat.le_of_ble_eq_true rfl) rfl ?_
  show am_G sc (am_Cl am_T am_N sc 1) (am_at kX7_add) (fun t => t.2 = h1 ∧ am_ret 0 (am_at kX7_add) t.1 = some none) ((0, [some (.ref a0), some (.int a1)], []), h)
  refine am_G.fr 1 (g := (1, [some (.ref a0), some (.int a1)], [.ref a0])) rfl ?_
  obtain ⟨length1, e2, H⟩ := am_bd H
  refine am_G.gI rfl e2 ?_
  refine am_G.fr 1 (g := (5, [some (.ref a0), some (.int a1)], [.ref a0, .int length1])) rfl ?_
  obtain ⟨signs3, e4, H⟩ := am_bd H
  refine am_G.gR rfl e4 ?_
  obtain ⟨n5, e6, H⟩ := am_bd H
  refine am_G.ln rfl e6 ?_
  obtain ⟨hh7, E33, H⟩ := am_bd H
  refine am_G.sq (t := ((50, [none, none], []), hh7)) ?_ ?_
  · clear H
    have H := E33
    clear E33
    by_cases c8 : n5 ≤ length1
    · rw [if_pos c8] at H
      refine am_G.br (tgt := 50) rfl rfl (if_pos c8) rfl ?_
      obtain rfl := Option.some.inj H
      refine am_G.fg [none, none] (by simp only [am_sub, and_self]) ?_
      exact am_G.nd rfl
    · rw [if_neg c8] at H
      refine am_G.br (tgt := 12) rfl rfl (if_neg c8) rfl ?_
      refine am_G.fr 2 (g := (15, [some (.ref a0), some (.int a1)], [.int ((10 : Int32)), .int a1])) rfl ?_
      by_cases c9 : a1 = ((10 : Int32))
      · rw [if_pos c9] at H
        refine am_G.br (tgt := 29) rfl rfl (if_pos c9) rfl ?_
        refine am_G.fr 1 (g := (30, [some (.ref a0), some (.int a1)], [.ref a0])) rfl ?_
        obtain ⟨signs10, e11, H⟩ := am_bd H
        refine am_G.gR rfl e11 ?_
        refine am_G.fr 1 (g := (34, [some (.ref a0), some (.int a1)], [.ref a0, .ref signs10])) rfl ?_
        obtain ⟨length12, e13, H⟩ := am_bd H
        refine am_G.gI rfl e13 ?_
        refine am_G.fr 2 (g := (39, [some (.ref a0), some (.int a1)], [.int a1.toInt8.toInt32, .int length12, .ref signs10])) rfl ?_
        obtain ⟨hh14, e15, H⟩ := am_bd H
        refine am_G.sB rfl e15 ?_
        refine am_G.fr 2 (g := (42, [some (.ref a0), some (.int a1)], [.ref a0, .ref a0])) rfl ?_
        obtain ⟨length16, e17, H⟩ := am_bd H
        refine am_G.gI rfl e17 ?_
        refine am_G.fr 2 (g := (47, [some (.ref a0), some (.int a1)], [.int (length16 + ((1 : Int32))), .ref a0])) rfl ?_
        obtain ⟨hh18, e19, H⟩ := am_bd H
        refine am_G.pF rfl e19 ?_
        obtain rfl := Option.some.inj H
        refine am_G.fg [none, none] (by simp only [am_sub, and_self]) ?_
        exact am_G.nd rfl
      · rw [if_neg c9] at H
        refine am_G.br (tgt := 18) rfl rfl (if_neg c9) rfl ?_
        refine am_G.fr 3 (g := (23, [some (.ref a0), some (.int a1)], [.int ((126 : Int32)), .int ((32 : Int32)), .int a1])) rfl ?_
        obtain ⟨x21, e20, H⟩ := am_bd H
        refine am_G.cl [.int a1, .int ((32 : Int32)), .int ((126 : Int32))] [] (am_Cl.mono (by decide) (lX9_within e20)) rfl rfl rfl rfl (Nat.le_of_ble_eq_true rfl) ?_
        by_cases c22 : x21 = 0
        · rw [if_pos c22] at H
          refine am_G.br (tgt := 50) rfl rfl (if_pos c22) rfl ?_
          obtain rfl := Option.some.inj H
          refine am_G.fg [none, none] (by simp only [am_sub, and_self]) ?_
          exact am_G.nd rfl
        · rw [if_neg c22] at H
          refine am_G.br (tgt := 29) rfl rfl (if_neg c22) rfl ?_
          refine am_G.fr 1 (g := (30, [some (.ref a0), some (.int a1)], [.ref a0])) rfl ?_
          obtain ⟨signs23, e24, H⟩ := am_bd H
          refine am_G.gR rfl e24 ?_
          refine am_G.fr 1 (g := (34, [some (.ref a0), some (.int a1)], [.ref a0, .ref signs23])) rfl ?_
          obtain ⟨length25, e26, H⟩ := am_bd H
          refine am_G.gI rfl e26 ?_
          refine am_G.fr 2 (g := (39, [some (.ref a0), some (.int a1)], [.int a1.toInt8.toInt32, .int length25, .ref signs23])) rfl ?_
          obtain ⟨hh27, e28, H⟩ := am_bd H
          refine am_G.sB rfl e28 ?_
          refine am_G.fr 2 (g := (42, [some (.ref a0), some (.int a1)], [.ref a0, .ref a0])) rfl ?_
          obtain ⟨length29, e30, H⟩ := am_bd H
          refine am_G.gI rfl e30 ?_
          refine am_G.fr 2 (g := (47, [some (.ref a0), some (.int a1)], [.int (length29 + ((1 : Int32))), .ref a0])) rfl ?_
          obtain ⟨hh31, e32, H⟩ := am_bd H
          refine am_G.pF rfl e32 ?_
          obtain rfl := Option.some.inj H
          refine am_G.fg [none, none] (by simp only [am_sub, and_self]) ?_
          exact am_G.nd rfl
  · clear E33
    obtain rfl := Option.some.inj H
    exact am_G.nd ⟨rfl, rfl⟩
def fX8_init (a0 : Nat) (h : am_H) : Option (am_H) :=
  am_b2 (am_nA h 1 ((4 : Int32))) fun a1 hh2 =>
  (am_pF hh2 a0 7 0 (.ref a1)).bind fun hh4 =>
  am_b2 (am_nA hh4 0 ((4 : Int32))) fun a6 hh7 =>
  (am_pF hh7 a0 7 1 (.ref a6)).bind fun hh9 =>
  am_b2 (am_nA hh9 0 ((4 : Int32))) fun a11 hh12 =>
  (am_pF hh12 a0 7 2 (.ref a11)).bind fun hh14 =>
  am_b2 (am_nA hh14 1 ((6 : Int32))) fun a16 hh17 =>
  (am_pF hh17 a0 7 3 (.ref a16)).bind fun hh19 =>
  am_b2 (am_nA hh19 0 ((6 : Int32))) fun a21 hh22 =>
  (am_pF hh22 a0 7 4 (.ref a21)).bind fun hh24 =>
  am_b2 (am_nA hh24 0 ((6 : Int32))) fun a26 hh27 =>
  (am_pF hh27 a0 7 5 (.ref a26)).bind fun hh29 =>
  am_b2 (am_nA hh29 0 ((6 : Int32))) fun a31 hh32 =>
  (am_pF hh32 a0 7 6 (.ref a31)).bind fun hh34 =>
  am_b2 (am_nA hh34 0 ((6 : Int32))) fun a36 hh37 =>
  (am_pF hh37 a0 7 7 (.ref a36)).bind fun hh39 =>
  am_b2 (am_nA hh39 0 ((6 : Int32))) fun a41 hh42 =>
  (am_pF hh42 a0 7 8 (.ref a41)).bind fun hh44 =>
  am_b2 (am_nA hh44 0 ((6 : Int32))) fun a46 hh47 =>
  (am_pF hh47 a0 7 9 (.ref a46)).bind fun hh49 =>
  am_b2 (am_nO hh49 1) fun a51 hh52 =>
  (fX1_init a51 hh52).bind fun hh55 =>
  (am_pF hh55 a0 7 10 (.ref a51)).bind fun hh56 =>
  (am_pF hh56 a0 7 13 (.int ((1 : Int32)))).bind fun hh58 =>
  some hh58
set_option maxHeartbeats 4000000 in
set_option maxRecDepth 100000 in
theorem lX8_init {sc : Nat × (Nat → Int32)} {a0 : Nat} {h : am_H} {h1 : am_H} (H : fX8_init a0 h = some h1) : am_Cl am_T am_N sc 2 71 [.ref a0] h none h1 := by
  unfold fX8_init at H
  refine am_mk (q := qX8_init) rfl (fun z => absurd z (by decide)) (fun _ => ⟨_, _, rfl⟩) (Nat.le_of_ble_eq_true rfl) rfl ?_
  show am_G sc (am_Cl am_T am_N sc 1) (am_at kX8_init) (fun t => t.2 = h1 ∧ am_ret 0 (am_at kX8_init) t.1 = some none) ((0, [some (.ref a0)], []), h)
  refine am_G.fr 1 (g := (1, [some (.ref a0)], [.ref a0])) rfl ?_
  refine am_G.oi rfl (Nat.le_of_ble_eq_true rfl) ?_
  refine am_G.fr 2 (g := (6, [some (.ref a0)], [.int ((4 : Int32)), .ref a0])) rfl ?_
  obtain ⟨a1, hh2, e3, H⟩ := am_bd2 H
  refine am_G.nA rfl e3 ?_
  obtain ⟨hh4, e5, H⟩ := am_bd H
  refine am_G.pF rfl e5 ?_
  refine am_G.fr 2 (g := (13, [some (.ref a0)], [.int ((4 : Int32)), .ref a0])) rfl ?_
  obtain ⟨a6, hh7, e8, H⟩ := am_bd2 H
  refine am_G.nA rfl e8 ?_
  obtain ⟨hh9, e10, H⟩ := am_bd H
  refine am_G.pF rfl e10 ?_
  refine am_G.fr 2 (g := (20, [some (.ref a0)], [.int ((4 : Int32)), .ref a0])) rfl ?_
  obtain ⟨a11, hh12, e13, H⟩ := am_bd2 H
  refine am_G.nA rfl e13 ?_
  obtain ⟨hh14, e15, H⟩ := am_bd H
  refine am_G.pF rfl e15 ?_
  refine am_G.fr 2 (g := (28, [some (.ref a0)], [.int ((6 : Int32)), .ref a0])) rfl ?_
  obtain ⟨a16, hh17, e18, H⟩ := am_bd2 H
  refine am_G.nA rfl e18 ?_
  obtain ⟨hh19, e20, H⟩ := am_bd H
  refine am_G.pF rfl e20 ?_
  refine am_G.fr 2 (g := (36, [some (.ref a0)], [.int ((6 : Int32)), .ref a0])) rfl ?_
  obtain ⟨a21, hh22, e23, H⟩ := am_bd2 H
  refine am_G.nA rfl e23 ?_
  obtain ⟨hh24, e25, H⟩ := am_bd H
  refine am_G.pF rfl e25 ?_
  refine am_G.fr 2 (g := (44, [some (.ref a0)], [.int ((6 : Int32)), .ref a0])) rfl ?_
  obtain ⟨a26, hh27, e28, H⟩ := am_bd2 H
  refine am_G.nA rfl e28 ?_
  obtain ⟨hh29, e30, H⟩ := am_bd H
  refine am_G.pF rfl e30 ?_
  refine am_G.fr 2 (g := (52, [some (.ref a0)], [.int ((6 : Int32)), .ref a0])) rfl ?_
  obtain ⟨a31, hh32, e33, H⟩ := am_bd2 H
  refine am_G.nA rfl e33 ?_
  obtain ⟨hh34, e35, H⟩ := am_bd H
  refine am_G.pF rfl e35 ?_
  refine am_G.fr 2 (g := (60, [some (.ref a0)], [.int ((6 : Int32)), .ref a0])) rfl ?_
  obtain ⟨a36, hh37, e38, H⟩ := am_bd2 H
  refine am_G.nA rfl e38 ?_
  obtain ⟨hh39, e40, H⟩ := am_bd H
  refine am_G.pF rfl e40 ?_
  refine am_G.fr 2 (g := (68, [some (.ref a0)], [.int ((6 : Int32)), .ref a0])) rfl ?_
  obtain ⟨a41, hh42, e43, H⟩ := am_bd2 H
  refine am_G.nA rfl e43 ?_
  obtain ⟨hh44, e45, H⟩ := am_bd H
  refine am_G.pF rfl e45 ?_
  refine am_G.fr 2 (g := (76, [some (.ref a0)], [.int ((6 : Int32)), .ref a0])) rfl ?_
  obtain ⟨a46, hh47, e48, H⟩ := am_bd2 H
  refine am_G.nA rfl e48 ?_
  obtain ⟨hh49, e50, H⟩ := am_bd H
  refine am_G.pF rfl e50 ?_
  refine am_G.fr 1 (g := (82, [some (.ref a0)], [.ref a0])) rfl ?_
  obtain ⟨a51, hh52, e53, H⟩ := am_bd2 H
  refine am_G.nO rfl e53 ?_
  refine am_G.fr 1 (g := (86, [some (.ref a0)], [.ref a51, .ref a51, .ref a0])) rfl ?_
  obtain ⟨hh55, e54, H⟩ := am_bd H
  refine am_G.cl [.ref a51] [.ref a51, .ref a0] (am_Cl.mono (by decide) (lX1_init e54)) rfl rfl rfl rfl (Nat.le_of_ble_eq_true rfl) ?_
  obtain ⟨hh56, e57, H⟩ := am_bd H
  refine am_G.pF rfl e57 ?_
  refine am_G.fr 2 (g := (94, [some (.ref a0)], [.int ((1 : Int32)), .ref a0])) rfl ?_
  obtain ⟨hh58, e59, H⟩ := am_bd H
  refine am_G.pF rfl e59 ?_
  obtain rfl := Option.some.inj H
  exact am_G.nd ⟨rfl, rfl⟩
def fX9_init_L58 : Nat → Nat → Int32 → am_H → Option (am_H)
  | 0, _, _, _ => none
  | n + 1, v0, v1, h =>
    if ((4 : Int32)) ≤ v1 then
      some h
    else
      (am_gR h v0 8 4).bind fun marks35 =>
      am_b2 (am_nO h 2) fun a37 hh38 =>
      (fX2_init a37 hh38).bind fun hh41 =>
      (am_sR hh41 marks35 v1 a37).bind fun hh42 =>
      fX9_init_L58 n v0 (v1 + (1 : Int32)) hh42
def fX9_init (a0 : Nat) (h : am_H) : Option (am_H) :=
  am_b2 (am_nO h 6) fun a1 hh2 =>
  (fX7_init a1 hh2).bind fun hh5 =>
  (am_pF hh5 a0 8 0 (.ref a1)).bind fun hh6 =>
  am_b2 (am_nO hh6 5) fun a8 hh9 =>
  (fX6_init a8 hh9).bind fun hh12 =>
  (am_pF hh12 a0 8 1 (.ref a8)).bind fun hh13 =>
  am_b2 (am_nO hh13 5) fun a15 hh16 =>
  (fX6_init a15 hh16).bind fun hh19 =>
  (am_pF hh19 a0 8 2 (.ref a15)).bind fun hh20 =>
  am_b2 (am_nO hh20 0) fun a22 hh23 =>
  (fX0_init a22 hh23).bind fun hh26 =>
  (am_pF hh26 a0 8 3 (.ref a22)).bind fun hh27 =>
  am_b2 (am_nR hh27 5 ((4 : Int32))) fun a29 hh30 =>
  (am_pF hh30 a0 8 4 (.ref a29)).bind fun hh32 =>
  Option.bind (fX9_init_L58 4000 a0 ((0 : Int32)) hh32) fun hh44 =>
  am_b2 (am_nO hh44 4) fun a46 hh47 =>
  (fX5_init a46 hh47).bind fun hh50 =>
  (am_pF hh50 a0 8 5 (.ref a46)).bind fun hh51 =>
  am_b2 (am_nA hh51 0 ((4 : Int32))) fun a53 hh54 =>
  (am_pF hh54 a0 8 6 (.ref a53)).bind fun hh56 =>
  am_b2 (am_nA hh56 0 ((4 : Int32))) fun a58 hh59 =>
  (am_pF hh59 a0 8 7 (.ref a58)).bind fun hh61 =>
  am_b2 (am_nA hh61 0 ((64 : Int32))) fun a63 hh64 =>
  (am_pF hh64 a0 8 8 (.ref a63)).bind fun hh66 =>
  am_b2 (am_nO hh66 7) fun a68 hh69 =>
  (fX8_init a68 hh69).bind fun hh72 =>
  (am_pF hh72 a0 8 9 (.ref a68)).bind fun hh73 =>
  am_b2 (am_nO hh73 7) fun a75 hh76 =>
  (fX8_init a75 hh76).bind fun hh79 =>
  (am_pF hh79 a0 8 10 (.ref a75)).bind fun hh80 =>
  am_b2 (am_nO hh80 3) fun a82 hh83 =>
  (fX3_init a82 hh83).bind fun hh86 =>
  (am_pF hh86 a0 8 11 (.ref a82)).bind fun hh87 =>
  am_b2 (am_nO hh87 3) fun a89 hh90 =>
  (fX3_init a89 hh90).bind fun hh93 =>
  (am_pF hh93 a0 8 12 (.ref a89)).bind fun hh94 =>
  some hh94
set_option maxHeartbeats 4000000 in
set_option maxRecDepth 100000 in
theorem lX9_init_L58 {sc : Nat × (Nat → Int32)} : ∀ (n : Nat) (v0 : Nat) (v1 : Int32) (h : am_H) (h1 : am_H), fX9_init_L58 n v0 v1 h = some h1 → am_G sc (am_Cl am_T am_N sc 3) (am_at kX9_init) (fun t => t = ((82, [some (.ref v0), none], []), h1)) ((58, [some (.ref v0), some (.int v1)], []), h) := by
  intro n
  induction n with
  | zero => intro _ _ _ _ H; cases H
  | succ n ih =>
    intro v0 v1 h h1 H
    rw [fX9_init_L58] at H
    refine am_G.fr 2 (g := (60, [some (.ref v0), some (.int v1)], [.int ((4 : Int32)), .int v1])) rfl ?_
    by_cases c34 : ((4 : Int32)) ≤ v1
    · rw [if_pos c34] at H
      refine am_G.br (tgt := 82) rfl rfl (if_pos c34) rfl ?_
      obtain rfl := Option.some.inj H
      refine am_G.fg [some (.ref v0), none] (by simp only [am_sub, and_self]) ?_
      exact am_G.nd rfl
    · rw [if_neg c34] at H
      refine am_G.br (tgt := 63) rfl rfl (if_neg c34) rfl ?_
      refine am_G.fr 1 (g := (64, [some (.ref v0), some (.int v1)], [.ref v0])) rfl ?_
      obtain ⟨marks35, e36, H⟩ := am_bd H
      refine am_G.gR rfl e36 ?_
      refine am_G.fr 1 (g := (68, [some (.ref v0), some (.int v1)], [.int v1, .ref marks35])) rfl ?_
      obtain ⟨a37, hh38, e39, H⟩ := am_bd2 H
      refine am_G.nO rfl e39 ?_
      refine am_G.fr 1 (g := (72, [some (.ref v0), some (.int v1)], [.ref a37, .ref a37, .int v1, .ref marks35])) rfl ?_
      obtain ⟨hh41, e40, H⟩ := am_bd H
      refine am_G.cl [.ref a37] [.ref a37, .int v1, .ref marks35] (am_Cl.mono (by decide) (lX2_init e40)) rfl rfl rfl rfl (Nat.le_of_ble_eq_true rfl) ?_
      obtain ⟨hh42, e43, H⟩ := am_bd H
      refine am_G.sR rfl e43 ?_
      refine am_G.fr 2 (g := (58, [some (.ref v0), some (.int (v1 + (1 : Int32)))], [])) rfl ?_
      exact ih _ _ _ _ H
set_option maxHeartbeats 4000000 in
set_option maxRecDepth 100000 in
theorem lX9_init {sc : Nat × (Nat → Int32)} {a0 : Nat} {h : am_H} {h1 : am_H} (H : fX9_init a0 h = some h1) : am_Cl am_T am_N sc 4 77 [.ref a0] h none h1 := by
  unfold fX9_init at H
  refine am_mk (q := qX9_init) rfl (fun z => absurd z (by decide)) (fun _ => ⟨_, _, rfl⟩) (Nat.le_of_ble_eq_true rfl) rfl ?_
  show am_G sc (am_Cl am_T am_N sc 3) (am_at kX9_init) (fun t => t.2 = h1 ∧ am_ret 0 (am_at kX9_init) t.1 = some none) ((0, [some (.ref a0), none], []), h)
  refine am_G.fr 1 (g := (1, [some (.ref a0), none], [.ref a0])) rfl ?_
  refine am_G.oi rfl (Nat.le_of_ble_eq_true rfl) ?_
  refine am_G.fr 1 (g := (5, [some (.ref a0), none], [.ref a0])) rfl ?_
  obtain ⟨a1, hh2, e3, H⟩ := am_bd2 H
  refine am_G.nO rfl e3 ?_
  refine am_G.fr 1 (g := (9, [some (.ref a0), none], [.ref a1, .ref a1, .ref a0])) rfl ?_
  obtain ⟨hh5, e4, H⟩ := am_bd H
  refine am_G.cl [.ref a1] [.ref a1, .ref a0] (am_Cl.mono (by decide) (lX7_init e4)) rfl rfl rfl rfl (Nat.le_of_ble_eq_true rfl) ?_
  obtain ⟨hh6, e7, H⟩ := am_bd H
  refine am_G.pF rfl e7 ?_
  refine am_G.fr 1 (g := (16, [some (.ref a0), none], [.ref a0])) rfl ?_
  obtain ⟨a8, hh9, e10, H⟩ := am_bd2 H
  refine am_G.nO rfl e10 ?_
  refine am_G.fr 1 (g := (20, [some (.ref a0), none], [.ref a8, .ref a8, .ref a0])) rfl ?_
  obtain ⟨hh12, e11, H⟩ := am_bd H
  refine am_G.cl [.ref a8] [.ref a8, .ref a0] (am_Cl.mono (by decide) (lX6_init e11)) rfl rfl rfl rfl (Nat.le_of_ble_eq_true rfl) ?_
  obtain ⟨hh13, e14, H⟩ := am_bd H
  refine am_G.pF rfl e14 ?_
  refine am_G.fr 1 (g := (27, [some (.ref a0), none], [.ref a0])) rfl ?_
  obtain ⟨a15, hh16, e17, H⟩ := am_bd2 H
  refine am_G.nO rfl e17 ?_
  refine am_G.fr 1 (g := (31, [some (.ref a0), none], [.ref a15, .ref a15, .ref a0])) rfl ?_
  obtain ⟨hh19, e18, H⟩ := am_bd H
  refine am_G.cl [.ref a15] [.ref a15, .ref a0] (am_Cl.mono (by decide) (lX6_init e18)) rfl rfl rfl rfl (Nat.le_of_ble_eq_true rfl) ?_
  obtain ⟨hh20, e21, H⟩ := am_bd H
  refine am_G.pF rfl e21 ?_
  refine am_G.fr 1 (g := (38, [some (.ref a0), none], [.ref a0])) rfl ?_
  obtain ⟨a22, hh23, e24, H⟩ := am_bd2 H
  refine am_G.nO rfl e24 ?_
  refine am_G.fr 1 (g := (42, [some (.ref a0), none], [.ref a22, .ref a22, .ref a0])) rfl ?_
  obtain ⟨hh26, e25, H⟩ := am_bd H
  refine am_G.cl [.ref a22] [.ref a22, .ref a0] (am_Cl.mono (by decide) (lX0_init e25)) rfl rfl rfl rfl (Nat.le_of_ble_eq_true rfl) ?_
  obtain ⟨hh27, e28, H⟩ := am_bd H
  refine am_G.pF rfl e28 ?_
  refine am_G.fr 2 (g := (50, [some (.ref a0), none], [.int ((4 : Int32)), .ref a0])) rfl ?_
  obtain ⟨a29, hh30, e31, H⟩ := am_bd2 H
  refine am_G.nR rfl e31 ?_
  obtain ⟨hh32, e33, H⟩ := am_bd H
  refine am_G.pF rfl e33 ?_
  refine am_G.fr 2 (g := (58, [some (.ref a0), some (.int ((0 : Int32)))], [])) rfl ?_
  obtain ⟨hh44, E45, H⟩ := am_bd H
  refine am_G.sq (lX9_init_L58 _ _ _ _ _ E45) ?_
  clear E45
  refine am_G.fr 1 (g := (83, [some (.ref a0), none], [.ref a0])) rfl ?_
  obtain ⟨a46, hh47, e48, H⟩ := am_bd2 H
  refine am_G.nO rfl e48 ?_
  refine am_G.fr 1 (g := (87, [some (.ref a0), none], [.ref a46, .ref a46, .ref a0])) rfl ?_
  obtain ⟨hh50, e49, H⟩ := am_bd H
  refine am_G.cl [.ref a46] [.ref a46, .ref a0] (am_Cl.mono (by decide) (lX5_init e49)) rfl rfl rfl rfl (Nat.le_of_ble_eq_true rfl) ?_
  obtain ⟨hh51, e52, H⟩ := am_bd H
  refine am_G.pF rfl e52 ?_
  refine am_G.fr 2 (g := (95, [some (.ref a0), none], [.int ((4 : Int32)), .ref a0])) rfl ?_
  obtain ⟨a53, hh54, e55, H⟩ := am_bd2 H
  refine am_G.nA rfl e55 ?_
  obtain ⟨hh56, e57, H⟩ := am_bd H
  refine am_G.pF rfl e57 ?_
  refine am_G.fr 2 (g := (102, [some (.ref a0), none], [.int ((4 : Int32)), .ref a0])) rfl ?_
  obtain ⟨a58, hh59, e60, H⟩ := am_bd2 H
  refine am_G.nA rfl e60 ?_
  obtain ⟨hh61, e62, H⟩ := am_bd H
  refine am_G.pF rfl e62 ?_
  refine am_G.fr 2 (g := (110, [some (.ref a0), none], [.int ((64 : Int32)), .ref a0])) rfl ?_
  obtain ⟨a63, hh64, e65, H⟩ := am_bd2 H
  refine am_G.nA rfl e65 ?_
  obtain ⟨hh66, e67, H⟩ := am_bd H
  refine am_G.pF rfl e67 ?_
  refine am_G.fr 1 (g := (116, [some (.ref a0), none], [.ref a0])) rfl ?_
  obtain ⟨a68, hh69, e70, H⟩ := am_bd2 H
  refine am_G.nO rfl e70 ?_
  refine am_G.fr 1 (g := (120, [some (.ref a0), none], [.ref a68, .ref a68, .ref a0])) rfl ?_
  obtain ⟨hh72, e71, H⟩ := am_bd H
  refine am_G.cl [.ref a68] [.ref a68, .ref a0] (am_Cl.mono (by decide) (lX8_init e71)) rfl rfl rfl rfl (Nat.le_of_ble_eq_true rfl) ?_
  obtain ⟨hh73, e74, H⟩ := am_bd H
  refine am_G.pF rfl e74 ?_
  refine am_G.fr 1 (g := (127, [some (.ref a0), none], [.ref a0])) rfl ?_
  obtain ⟨a75, hh76, e77, H⟩ := am_bd2 H
  refine am_G.nO rfl e77 ?_
  refine am_G.fr 1 (g := (131, [some (.ref a0), none], [.ref a75, .ref a75, .ref a0])) rfl ?_
  obtain ⟨hh79, e78, H⟩ := am_bd H
  refine am_G.cl [.ref a75] [.ref a75, .ref a0] (am_Cl.mono (by decide) (lX8_init e78)) rfl rfl rfl rfl (Nat.le_of_ble_eq_true rfl) ?_
  obtain ⟨hh80, e81, H⟩ := am_bd H
  refine am_G.pF rfl e81 ?_
  refine am_G.fr 1 (g := (138, [some (.ref a0), none], [.ref a0])) rfl ?_
  obtain ⟨a82, hh83, e84, H⟩ := am_bd2 H
  refine am_G.nO rfl e84 ?_
  refine am_G.fr 1 (g := (142, [some (.ref a0), none], [.ref a82, .ref a82, .ref a0])) rfl ?_
  obtain ⟨hh86, e85, H⟩ := am_bd H
  refine am_G.cl [.ref a82] [.ref a82, .ref a0] (am_Cl.mono (by decide) (lX3_init e85)) rfl rfl rfl rfl (Nat.le_of_ble_eq_true rfl) ?_
  obtain ⟨hh87, e88, H⟩ := am_bd H
  refine am_G.pF rfl e88 ?_
  refine am_G.fr 1 (g := (149, [some (.ref a0), none], [.ref a0])) rfl ?_
  obtain ⟨a89, hh90, e91, H⟩ := am_bd2 H
  refine am_G.nO rfl e91 ?_
  refine am_G.fr 1 (g := (153, [some (.ref a0), none], [.ref a89, .ref a89, .ref a0])) rfl ?_
  obtain ⟨hh93, e92, H⟩ := am_bd H
  refine am_G.cl [.ref a89] [.ref a89, .ref a0] (am_Cl.mono (by decide) (lX3_init e92)) rfl rfl rfl rfl (Nat.le_of_ble_eq_true rfl) ?_
  obtain ⟨hh94, e95, H⟩ := am_bd H
  refine am_G.pF rfl e95 ?_
  obtain rfl := Option.some.inj H
  exact am_G.nd ⟨rfl, rfl⟩
def fX9_feedBytes_L3 : Nat → Nat → Int64 → Int32 → am_H → Option (am_H)
  | 0, _, _, _, _ => none
  | n + 1, v0, v1, v3, h =>
    if v3 < 0 then
      some h
    else
      (am_gR h v0 8 0).bind fun tape2 =>
      (fX7_add tape2 ((((v1.toUInt64 >>> (v3.toInt64.toUInt64 &&& Int64.toUInt64 63)).toInt64).toInt32) &&& ((255 : Int32))) h).bind fun hh5 =>
      fX9_feedBytes_L3 n v0 v1 (v3 + (-8 : Int32)) hh5
def fX9_feedBytes (a0 : Nat) (a1 : Int64) (h : am_H) : Option (am_H) :=
  (am_isO h a0 8).bind fun _ =>
  Option.bind (fX9_feedBytes_L3 4000 a0 a1 ((56 : Int32)) h) fun hh6 =>
  some hh6
set_option maxHeartbeats 4000000 in
set_option maxRecDepth 100000 in
theorem lX9_feedBytes_L3 {sc : Nat × (Nat → Int32)} : ∀ (n : Nat) (v0 : Nat) (v1 : Int64) (v3 : Int32) (h : am_H) (h1 : am_H), fX9_feedBytes_L3 n v0 v1 v3 h = some h1 → am_G sc (am_Cl am_T am_N sc 2) (am_at kX9_feedBytes) (fun t => t = ((28, [none, none, none, none], []), h1)) ((3, [some (.ref v0), some (.long v1), none, some (.int v3)], []), h) := by
  intro n
  induction n with
  | zero => intro _ _ _ _ _ H; cases H
  | succ n ih =>
    intro v0 v1 v3 h h1 H
    rw [fX9_feedBytes_L3] at H
    refine am_G.fr 1 (g := (4, [some (.ref v0), some (.long v1), none, some (.int v3)], [.int v3])) rfl ?_
    by_cases c1 : v3 < 0
    · rw [if_pos c1] at H
      refine am_G.br (tgt := 28) rfl rfl (if_pos c1) rfl ?_
      obtain rfl := Option.some.inj H
      refine am_G.fg [none, none, none, none] (by simp only [am_sub, and_self]) ?_
      exact am_G.nd rfl
    · rw [if_neg c1] at H
      refine am_G.br (tgt := 7) rfl rfl (if_neg c1) rfl ?_
      refine am_G.fr 1 (g := (8, [some (.ref v0), some (.long v1), none, some (.int v3)], [.ref v0])) rfl ?_
      obtain ⟨tape2, e3, H⟩ := am_bd H
      refine am_G.gR rfl e3 ?_
      refine am_G.fr 6 (g := (19, [some (.ref v0), some (.long v1), none, some (.int v3)], [.int ((((v1.toUInt64 >>> (v3.toInt64.toUInt64 &&& Int64.toUInt64 63)).toInt64).toInt32) &&& ((255 : Int32))), .ref tape2])) rfl ?_
      obtain ⟨hh5, e4, H⟩ := am_bd H
      refine am_G.cl [.ref tape2, .int ((((v1.toUInt64 >>> (v3.toInt64.toUInt64 &&& Int64.toUInt64 63)).toInt64).toInt32) &&& ((255 : Int32)))] [] (am_Cl.mono (by decide) (lX7_add e4)) rfl rfl rfl rfl (Nat.le_of_ble_eq_true rfl) ?_
      refine am_G.fr 2 (g := (3, [some (.ref v0), some (.long v1), none, some (.int (v3 + (-8 : Int32)))], [])) rfl ?_
      exact ih _ _ _ _ _ H
set_option maxHeartbeats 4000000 in
set_option maxRecDepth 100000 in
theorem lX9_feedBytes {sc : Nat × (Nat → Int32)} {a0 : Nat} {a1 : Int64} {h : am_H} {h1 : am_H} (H : fX9_feedBytes a0 a1 h = some h1) : am_Cl am_T am_N sc 3 79 [.ref a0, .long a1] h none h1 := by
  unfold fX9_feedBytes at H
  obtain ⟨_, hO, H⟩ := am_bd H
  obtain ⟨fs0, hO⟩ := am_isO_ok hO
  refine am_mk (q := qX9_feedBytes) rfl (fun _ => ⟨_, _, _, _, _, rfl, hO, rfl, rfl⟩) (fun z => absurd z (by decide)) (Nat.le_of_ble_eq_true rfl) rfl ?_
  show am_G sc (am_Cl am_T am_N sc 2) (am_at kX9_feedBytes) (fun t => t.2 = h1 ∧ am_ret 0 (am_at kX9_feedBytes) t.1 = some none) ((0, [some (.ref a0), some (.long a1), none, none], []), h)
  refine am_G.fr 2 (g := (3, [some (.ref a0), some (.long a1), none, some (.int ((56 : Int32)))], [])) rfl ?_
  obtain ⟨hh6, E7, H⟩ := am_bd H
  refine am_G.sq (lX9_feedBytes_L3 _ _ _ _ _ _ E7) ?_
  clear E7
  obtain rfl := Option.some.inj H
  exact am_G.nd ⟨rfl, rfl⟩
def fX9_feed (a0 : Nat) (a1 : Int64) (a2 : Int64) (a3 : Int64) (h : am_H) : Option (Int32 × am_H) :=
  (am_isO h a0 8).bind fun _ =>
  (fX9_feedBytes a0 a1 h).bind fun hh2 =>
  (fX9_feedBytes a0 a2 hh2).bind fun hh4 =>
  (fX9_feedBytes a0 a3 hh4).bind fun hh6 =>
  (am_gR hh6 a0 8 0).bind fun tape7 =>
  (am_gI hh6 tape7 6 1).bind fun length9 =>
  some (length9, hh6)
set_option maxHeartbeats 4000000 in
set_option maxRecDepth 100000 in
theorem lX9_feed {sc : Nat × (Nat → Int32)} {a0 : Nat} {a1 : Int64} {a2 : Int64} {a3 : Int64} {h : am_H} {r : Int32} {h1 : am_H} (H : fX9_feed a0 a1 a2 a3 h = some (r, h1)) : am_Cl am_T am_N sc 4 78 [.ref a0, .long a1, .long a2, .long a3] h (some (.int r)) h1 := by
  unfold fX9_feed at H
  obtain ⟨_, hO, H⟩ := am_bd H
  obtain ⟨fs0, hO⟩ := am_isO_ok hO
  refine am_mk (q := qX9_feed) rfl (fun _ => ⟨_, _, _, _, _, rfl, hO, rfl, rfl⟩) (fun z => absurd z (by decide)) (Nat.le_of_ble_eq_true rfl) rfl ?_
  show am_G sc (am_Cl am_T am_N sc 3) (am_at kX9_feed) (fun t => t.2 = h1 ∧ am_ret 1 (am_at kX9_feed) t.1 = some (some (.int r))) ((0, [some (.ref a0), some (.long a1), none, some (.long a2), none, some (.long a3), none], []), h)
  refine am_G.fr 2 (g := (2, [some (.ref a0), some (.long a1), none, some (.long a2), none, some (.long a3), none], [.long a1, .ref a0])) rfl ?_
  obtain ⟨hh2, e1, H⟩ := am_bd H
  refine am_G.cl [.ref a0, .long a1] [] (am_Cl.mono (by decide) (lX9_feedBytes e1)) rfl rfl rfl rfl (Nat.le_of_ble_eq_true rfl) ?_
  refine am_G.fr 2 (g := (7, [some (.ref a0), some (.long a1), none, some (.long a2), none, some (.long a3), none], [.long a2, .ref a0])) rfl ?_
  obtain ⟨hh4, e3, H⟩ := am_bd H
  refine am_G.cl [.ref a0, .long a2] [] (am_Cl.mono (by decide) (lX9_feedBytes e3)) rfl rfl rfl rfl (Nat.le_of_ble_eq_true rfl) ?_
  refine am_G.fr 2 (g := (13, [some (.ref a0), some (.long a1), none, some (.long a2), none, some (.long a3), none], [.long a3, .ref a0])) rfl ?_
  obtain ⟨hh6, e5, H⟩ := am_bd H
  refine am_G.cl [.ref a0, .long a3] [] (am_Cl.mono (by decide) (lX9_feedBytes e5)) rfl rfl rfl rfl (Nat.le_of_ble_eq_true rfl) ?_
  refine am_G.fr 1 (g := (17, [some (.ref a0), some (.long a1), none, some (.long a2), none, some (.long a3), none], [.ref a0])) rfl ?_
  obtain ⟨tape7, e8, H⟩ := am_bd H
  refine am_G.gR rfl e8 ?_
  obtain ⟨length9, e10, H⟩ := am_bd H
  refine am_G.gI rfl e10 ?_
  obtain ⟨rfl, rfl⟩ := am_inj2 H
  exact am_G.nd ⟨rfl, rfl⟩
def fX9_startAnew_L37 : Nat → Nat → Int32 → am_H → Option (am_H)
  | 0, _, _, _ => none
  | n + 1, v0, v1, h =>
    if ((4 : Int32)) ≤ v1 then
      some h
    else
      (am_gR h v0 8 4).bind fun marks20 =>
      (am_aR h marks20 v1).bind fun r22 =>
      (am_pF h r22 2 2 (.int ((0 : Int32)))).bind fun hh24 =>
      fX9_startAnew_L37 n v0 (v1 + (1 : Int32)) hh24
def fX9_startAnew (a0 : Nat) (h : am_H) : Option (am_H) :=
  (am_isO h a0 8).bind fun _ =>
  (am_gR h a0 8 1).bind fun now1 =>
  (am_gR h a0 8 9).bind fun told3 =>
  (fX6_begin now1 told3 h).bind fun hh6 =>
  (am_gR hh6 a0 8 11).bind fun plan7 =>
  (am_pF hh6 plan7 3 3 (.int ((0 : Int32)))).bind fun hh9 =>
  (am_gR hh9 a0 8 5).bind fun seen11 =>
  (am_pF hh9 seen11 4 2 (.int ((0 : Int32)))).bind fun hh13 =>
  (am_gR hh13 a0 8 3).bind fun history15 =>
  (am_pF hh13 history15 0 2 (.int ((0 : Int32)))).bind fun hh17 =>
  Option.bind (fX9_startAnew_L37 4000 a0 ((0 : Int32)) hh17) fun hh26 =>
  some hh26
set_option maxHeartbeats 4000000 in
set_option maxRecDepth 100000 in
theorem lX9_startAnew_L37 {sc : Nat × (Nat → Int32)} : ∀ (n : Nat) (v0 : Nat) (v1 : Int32) (h : am_H) (h1 : am_H), fX9_startAnew_L37 n v0 v1 h = some h1 → am_G sc (am_Cl am_T am_N sc 2) (am_at kX9_startAnew) (fun t => t = ((58, [none, none], []), h1)) ((37, [some (.ref v0), some (.int v1)], []), h) := by
  intro n
  induction n with
  | zero => intro _ _ _ _ H; cases H
  | succ n ih =>
    intro v0 v1 h h1 H
    rw [fX9_startAnew_L37] at H
    refine am_G.fr 2 (g := (39, [some (.ref v0), some (.int v1)], [.int ((4 : Int32)), .int v1])) rfl ?_
    by_cases c19 : ((4 : Int32)) ≤ v1
    · rw [if_pos c19] at H
      refine am_G.br (tgt := 58) rfl rfl (if_pos c19) rfl ?_
      obtain rfl := Option.some.inj H
      refine am_G.fg [none, none] (by simp only [am_sub, and_self]) ?_
      exact am_G.nd rfl
    · rw [if_neg c19] at H
      refine am_G.br (tgt := 42) rfl rfl (if_neg c19) rfl ?_
      refine am_G.fr 1 (g := (43, [some (.ref v0), some (.int v1)], [.ref v0])) rfl ?_
      obtain ⟨marks20, e21, H⟩ := am_bd H
      refine am_G.gR rfl e21 ?_
      refine am_G.fr 1 (g := (47, [some (.ref v0), some (.int v1)], [.int v1, .ref marks20])) rfl ?_
      obtain ⟨r22, e23, H⟩ := am_bd H
      refine am_G.aR rfl e23 ?_
      refine am_G.fr 1 (g := (49, [some (.ref v0), some (.int v1)], [.int ((0 : Int32)), .ref r22])) rfl ?_
      obtain ⟨hh24, e25, H⟩ := am_bd H
      refine am_G.pF rfl e25 ?_
      refine am_G.fr 2 (g := (37, [some (.ref v0), some (.int (v1 + (1 : Int32)))], [])) rfl ?_
      exact ih _ _ _ _ H
set_option maxHeartbeats 4000000 in
set_option maxRecDepth 100000 in
theorem lX9_startAnew {sc : Nat × (Nat → Int32)} {a0 : Nat} {h : am_H} {h1 : am_H} (H : fX9_startAnew a0 h = some h1) : am_Cl am_T am_N sc 3 81 [.ref a0] h none h1 := by
  unfold fX9_startAnew at H
  obtain ⟨_, hO, H⟩ := am_bd H
  obtain ⟨fs0, hO⟩ := am_isO_ok hO
  refine am_mk (q := qX9_startAnew) rfl (fun _ => ⟨_, _, _, _, _, rfl, hO, rfl, rfl⟩) (fun z => absurd z (by decide)) (Nat.le_of_ble_eq_true rfl) rfl ?_
  show am_G sc (am_Cl am_T am_N sc 2) (am_at kX9_startAnew) (fun t => t.2 = h1 ∧ am_ret 0 (am_at kX9_startAnew) t.1 = some none) ((0, [some (.ref a0), none], []), h)
  refine am_G.fr 1 (g := (1, [some (.ref a0), none], [.ref a0])) rfl ?_
  obtain ⟨now1, e2, H⟩ := am_bd H
  refine am_G.gR rfl e2 ?_
  refine am_G.fr 1 (g := (5, [some (.ref a0), none], [.ref a0, .ref now1])) rfl ?_
  obtain ⟨told3, e4, H⟩ := am_bd H
  refine am_G.gR rfl e4 ?_
  obtain ⟨hh6, e5, H⟩ := am_bd H
  refine am_G.cl [.ref now1, .ref told3] [] (am_Cl.mono (by decide) (lX6_begin e5)) rfl rfl rfl rfl (Nat.le_of_ble_eq_true rfl) ?_
  refine am_G.fr 1 (g := (12, [some (.ref a0), none], [.ref a0])) rfl ?_
  obtain ⟨plan7, e8, H⟩ := am_bd H
  refine am_G.gR rfl e8 ?_
  refine am_G.fr 1 (g := (16, [some (.ref a0), none], [.int ((0 : Int32)), .ref plan7])) rfl ?_
  obtain ⟨hh9, e10, H⟩ := am_bd H
  refine am_G.pF rfl e10 ?_
  refine am_G.fr 1 (g := (20, [some (.ref a0), none], [.ref a0])) rfl ?_
  obtain ⟨seen11, e12, H⟩ := am_bd H
  refine am_G.gR rfl e12 ?_
  refine am_G.fr 1 (g := (24, [some (.ref a0), none], [.int ((0 : Int32)), .ref seen11])) rfl ?_
  obtain ⟨hh13, e14, H⟩ := am_bd H
  refine am_G.pF rfl e14 ?_
  refine am_G.fr 1 (g := (28, [some (.ref a0), none], [.ref a0])) rfl ?_
  obtain ⟨history15, e16, H⟩ := am_bd H
  refine am_G.gR rfl e16 ?_
  refine am_G.fr 1 (g := (32, [some (.ref a0), none], [.int ((0 : Int32)), .ref history15])) rfl ?_
  obtain ⟨hh17, e18, H⟩ := am_bd H
  refine am_G.pF rfl e18 ?_
  refine am_G.fr 2 (g := (37, [some (.ref a0), some (.int ((0 : Int32)))], [])) rfl ?_
  obtain ⟨hh26, E27, H⟩ := am_bd H
  refine am_G.sq (lX9_startAnew_L37 _ _ _ _ _ E27) ?_
  clear E27
  obtain rfl := Option.some.inj H
  exact am_G.nd ⟨rfl, rfl⟩
def fX9_year (a0 : Nat) (h : am_H) : Option (Int32 × am_H) :=
  (am_isO h a0 8).bind fun _ =>
  (am_gR h a0 8 0).bind fun tape1 =>
  (am_gR h a0 8 9).bind fun told3 =>
  (am_gR h a0 8 12).bind fun sparePlan5 =>
  am_b2 (fX4_readPlan tape1 told3 sparePlan5 h) fun x8 hh9 =>
  (am_gR hh9 a0 8 0).bind fun tape10 =>
  (am_pF hh9 tape10 6 1 (.int ((0 : Int32)))).bind fun hh12 =>
  Option.bind (
    if ¬ x8 = 0 then
      some hh12
    else
      (am_gR hh12 a0 8 11).bind fun plan16 =>
      (am_gR hh12 a0 8 12).bind fun sparePlan18 =>
      (am_pF hh12 a0 8 11 (.ref sparePlan18)).bind fun hh20 =>
      (am_pF hh20 a0 8 12 (.ref plan16)).bind fun hh22 =>
      some hh22) fun hh14 =>
  some (x8, hh14)
set_option maxHeartbeats 4000000 in
set_option maxRecDepth 100000 in
theorem lX9_year {sc : Nat × (Nat → Int32)} {a0 : Nat} {h : am_H} {r : Int32} {h1 : am_H} (H : fX9_year a0 h = some (r, h1)) : am_Cl am_T am_N sc 16 82 [.ref a0] h (some (.int r)) h1 := by
  unfold fX9_year at H
  obtain ⟨_, hO, H⟩ := am_bd H
  obtain ⟨fs0, hO⟩ := am_isO_ok hO
  refine am_mk (q := qX9_year) rfl (fun _ => ⟨_, _, _, _, _, rfl, hO, rfl, rfl⟩) (fun z => absurd z (by decide)) (Nat.le_of_ble_eq_true rfl) rfl ?_
  show am_G sc (am_Cl am_T am_N sc 15) (am_at kX9_year) (fun t => t.2 = h1 ∧ am_ret 1 (am_at kX9_year) t.1 = some (some (.int r))) ((0, [some (.ref a0), none, none], []), h)
  refine am_G.fr 1 (g := (1, [some (.ref a0), none, none], [.ref a0])) rfl ?_
  obtain ⟨tape1, e2, H⟩ := am_bd H
  refine am_G.gR rfl e2 ?_
  refine am_G.fr 1 (g := (5, [some (.ref a0), none, none], [.ref a0, .ref tape1])) rfl ?_
  obtain ⟨told3, e4, H⟩ := am_bd H
  refine am_G.gR rfl e4 ?_
  refine am_G.fr 1 (g := (9, [some (.ref a0), none, none], [.ref a0, .ref told3, .ref tape1])) rfl ?_
  obtain ⟨sparePlan5, e6, H⟩ := am_bd H
  refine am_G.gR rfl e6 ?_
  obtain ⟨x8, hh9, e7, H⟩ := am_bd2 H
  refine am_G.cl [.ref tape1, .ref told3, .ref sparePlan5] [] (am_Cl.mono (by decide) (lX4_readPlan e7)) rfl rfl rfl rfl (Nat.le_of_ble_eq_true rfl) ?_
  refine am_G.fr 2 (g := (17, [some (.ref a0), some (.int x8), none], [.ref a0])) rfl ?_
  obtain ⟨tape10, e11, H⟩ := am_bd H
  refine am_G.gR rfl e11 ?_
  refine am_G.fr 1 (g := (21, [some (.ref a0), some (.int x8), none], [.int ((0 : Int32)), .ref tape10])) rfl ?_
  obtain ⟨hh12, e13, H⟩ := am_bd H
  refine am_G.pF rfl e13 ?_
  refine am_G.fr 1 (g := (25, [some (.ref a0), some (.int x8), none], [.int x8])) rfl ?_
  obtain ⟨hh14, E24, H⟩ := am_bd H
  refine am_G.sq (t := ((46, [none, some (.int x8), none], []), hh14)) ?_ ?_
  · clear H
    have H := E24
    clear E24
    by_cases c15 : ¬ x8 = 0
    · rw [if_pos c15] at H
      refine am_G.br (tgt := 46) rfl rfl (if_pos c15) rfl ?_
      obtain rfl := Option.some.inj H
      refine am_G.fg [none, some (.int x8), none] (by simp only [am_sub, and_self]) ?_
      exact am_G.nd rfl
    · rw [if_neg c15] at H
      refine am_G.br (tgt := 28) rfl rfl (if_neg c15) rfl ?_
      refine am_G.fr 1 (g := (29, [some (.ref a0), some (.int x8), none], [.ref a0])) rfl ?_
      obtain ⟨plan16, e17, H⟩ := am_bd H
      refine am_G.gR rfl e17 ?_
      refine am_G.fr 3 (g := (35, [some (.ref a0), some (.int x8), some (.ref plan16)], [.ref a0, .ref a0])) rfl ?_
      obtain ⟨sparePlan18, e19, H⟩ := am_bd H
      refine am_G.gR rfl e19 ?_
      obtain ⟨hh20, e21, H⟩ := am_bd H
      refine am_G.pF rfl e21 ?_
      refine am_G.fr 2 (g := (43, [some (.ref a0), some (.int x8), some (.ref plan16)], [.ref plan16, .ref a0])) rfl ?_
      obtain ⟨hh22, e23, H⟩ := am_bd H
      refine am_G.pF rfl e23 ?_
      obtain rfl := Option.some.inj H
      refine am_G.fg [none, some (.int x8), none] (by simp only [am_sub, and_self]) ?_
      exact am_G.nd rfl
  · clear E24
    refine am_G.fr 1 (g := (47, [none, some (.int x8), none], [.int x8])) rfl ?_
    obtain ⟨rfl, rfl⟩ := am_inj2 H
    exact am_G.nd ⟨rfl, rfl⟩
def fX9_isHouse (a0 : Nat) (a1 : Int32) (h : am_H) : Option (Int32) :=
  (am_isO h a0 8).bind fun _ =>
  (am_gR h a0 8 9).bind fun told1 =>
  (am_gI h told1 7 11).bind fun houses3 =>
  (fX9_within a1 ((0 : Int32)) (houses3 - ((1 : Int32))) h).bind fun x6 =>
  (am_z01 x6).bind fun b7 =>
  some b7
set_option maxHeartbeats 4000000 in
set_option maxRecDepth 100000 in
theorem lX9_isHouse {sc : Nat × (Nat → Int32)} {a0 : Nat} {a1 : Int32} {h : am_H} {r : Int32} (H : fX9_isHouse a0 a1 h = some r) : am_Cl am_T am_N sc 2 129 [.ref a0, .int a1] h (some (.int r)) h := by
  unfold fX9_isHouse at H
  obtain ⟨_, hO, H⟩ := am_bd H
  obtain ⟨fs0, hO⟩ := am_isO_ok hO
  refine am_mk (q := qX9_isHouse) rfl (fun _ => ⟨_, _, _, _, _, rfl, hO, rfl, rfl⟩) (fun z => absurd z (by decide)) (Nat.le_of_ble_eq_true rfl) rfl ?_
  show am_G sc (am_Cl am_T am_N sc 1) (am_at kX9_isHouse) (fun t => t.2 = h ∧ am_ret 2 (am_at kX9_isHouse) t.1 = some (some (.int r))) ((0, [some (.ref a0), some (.int a1)], []), h)
  refine am_G.fr 3 (g := (3, [some (.ref a0), some (.int a1)], [.ref a0, .int ((0 : Int32)), .int a1])) rfl ?_
  obtain ⟨told1, e2, H⟩ := am_bd H
  refine am_G.gR rfl e2 ?_
  obtain ⟨houses3, e4, H⟩ := am_bd H
  refine am_G.gI rfl e4 ?_
  refine am_G.fr 2 (g := (11, [some (.ref a0), some (.int a1)], [.int (houses3 - ((1 : Int32))), .int ((0 : Int32)), .int a1])) rfl ?_
  obtain ⟨x6, e5, H⟩ := am_bd H
  refine am_G.cl [.int a1, .int ((0 : Int32)), .int (houses3 - ((1 : Int32)))] [] (am_Cl.mono (by decide) (lX9_within e5)) rfl rfl rfl rfl (Nat.le_of_ble_eq_true rfl) ?_
  obtain ⟨b7, e8, H⟩ := am_bd H
  obtain rfl := Option.some.inj H
  exact am_G.nd ⟨rfl, am_ret2 rfl e8⟩
def fX9_house (a0 : Nat) (a1 : Int32) (a2 : Int32) (h : am_H) : Option (Int32) :=
  (am_isO h a0 8).bind fun _ =>
  (fX9_isHouse a0 a1 h).bind fun x2 =>
  if ¬ x2 = 0 then
    if a2.toInt < 0 ∨ 4 < a2.toInt then
      some ((-2 : Int32))
    else (some (a2.toInt - 0).toNat).bind fun k5 =>
    if k5 = 0 then
      (am_gR h a0 8 1).bind fun now7 =>
      (am_gR h now7 5 0).bind fun beds9 =>
      (am_aI h 0 beds9 a1).bind fun x11 =>
      some x11
    else if k5 = 1 then
      (am_gR h a0 8 1).bind fun now14 =>
      (am_gR h a0 8 9).bind fun told16 =>
      (fX6_freeBeds now14 told16 a1 h).bind fun x19 =>
      some x19
    else if k5 = 2 then
      (am_gR h a0 8 1).bind fun now21 =>
      (am_gR h a0 8 9).bind fun told23 =>
      (fX6_guests now21 told23 a1 h).bind fun x26 =>
      some x26
    else if k5 = 3 then
      (am_gR h a0 8 9).bind fun told28 =>
      (am_gR h told28 7 2).bind fun lenders30 =>
      (am_aI h 0 lenders30 a1).bind fun x32 =>
      some x32
    else if k5 = 4 then
      (am_gR h a0 8 1).bind fun now35 =>
      (am_gR h a0 8 9).bind fun told37 =>
      (fX6_talk now35 told37 a1 h).bind fun x40 =>
      some x40
    else none
  else
    some ((-2 : Int32))
set_option maxHeartbeats 4000000 in
set_option maxRecDepth 100000 in
theorem lX9_house {sc : Nat × (Nat → Int32)} {a0 : Nat} {a1 : Int32} {a2 : Int32} {h : am_H} {r : Int32} (H : fX9_house a0 a1 a2 h = some r) : am_Cl am_T am_N sc 3 83 [.ref a0, .int a1, .int a2] h (some (.int r)) h := by
  unfold fX9_house at H
  obtain ⟨_, hO, H⟩ := am_bd H
  obtain ⟨fs0, hO⟩ := am_isO_ok hO
  refine am_mk (q := qX9_house) rfl (fun _ => ⟨_, _, _, _, _, rfl, hO, rfl, rfl⟩) (fun z => absurd z (by decide)) (Nat.le_of_ble_eq_true rfl) rfl ?_
  show am_G sc (am_Cl am_T am_N sc 2) (am_at kX9_house) (fun t => t.2 = h ∧ am_ret 1 (am_at kX9_house) t.1 = some (some (.int r))) ((0, [some (.ref a0), some (.int a1), some (.int a2)], []), h)
  refine am_G.fr 2 (g := (2, [some (.ref a0), some (.int a1), some (.int a2)], [.int a1, .ref a0])) rfl ?_
  obtain ⟨x2, e1, H⟩ := am_bd H
  refine am_G.cl [.ref a0, .int a1] [] (am_Cl.mono (by decide) (lX9_isHouse e1)) rfl rfl rfl rfl (Nat.le_of_ble_eq_true rfl) ?_
  by_cases c3 : ¬ x2 = 0
  · rw [if_pos c3] at H
    refine am_G.br (tgt := 11) rfl rfl (if_pos c3) rfl ?_
    refine am_G.fr 1 (g := (12, [some (.ref a0), some (.int a1), some (.int a2)], [.int a2])) rfl ?_
    by_cases c4 : a2.toInt < 0 ∨ 4 < a2.toInt
    · rw [if_pos c4] at H
      refine am_G.swD (tgt := 107) rfl c4 rfl ?_
      refine am_G.fr 1 (g := (109, [some (.ref a0), some (.int a1), some (.int a2)], [.int ((-2 : Int32))])) rfl ?_
      obtain rfl := Option.some.inj H
      exact am_G.nd ⟨rfl, rfl⟩
    · rw [if_neg c4] at H
      obtain ⟨k5, e6, H⟩ := am_bd H
      by_cases c13 : k5 = 0
      · rw [if_pos c13] at H
        refine am_G.sw (tgt := 48) (k0 := 0) rfl c4 ((Option.some.inj e6).trans c13) rfl rfl ?_
        refine am_G.fr 1 (g := (49, [some (.ref a0), some (.int a1), some (.int a2)], [.ref a0])) rfl ?_
        obtain ⟨now7, e8, H⟩ := am_bd H
        refine am_G.gR rfl e8 ?_
        obtain ⟨beds9, e10, H⟩ := am_bd H
        refine am_G.gR rfl e10 ?_
        refine am_G.fr 1 (g := (56, [some (.ref a0), some (.int a1), some (.int a2)], [.int a1, .ref beds9])) rfl ?_
        obtain ⟨x11, e12, H⟩ := am_bd H
        refine am_G.aI rfl e12 ?_
        obtain rfl := Option.some.inj H
        exact am_G.nd ⟨rfl, rfl⟩
      · rw [if_neg c13] at H
        by_cases c20 : k5 = 1
        · rw [if_pos c20] at H
          refine am_G.sw (tgt := 58) (k0 := 1) rfl c4 ((Option.some.inj e6).trans c20) rfl rfl ?_
          refine am_G.fr 1 (g := (59, [some (.ref a0), some (.int a1), some (.int a2)], [.ref a0])) rfl ?_
          obtain ⟨now14, e15, H⟩ := am_bd H
          refine am_G.gR rfl e15 ?_
          refine am_G.fr 1 (g := (63, [some (.ref a0), some (.int a1), some (.int a2)], [.ref a0, .ref now14])) rfl ?_
          obtain ⟨told16, e17, H⟩ := am_bd H
          refine am_G.gR rfl e17 ?_
          refine am_G.fr 1 (g := (67, [some (.ref a0), some (.int a1), some (.int a2)], [.int a1, .ref told16, .ref now14])) rfl ?_
          obtain ⟨x19, e18, H⟩ := am_bd H
          refine am_G.cl [.ref now14, .ref told16, .int a1] [] (am_Cl.mono (by decide) (lX6_freeBeds e18)) rfl rfl rfl rfl (Nat.le_of_ble_eq_true rfl) ?_
          obtain rfl := Option.some.inj H
          exact am_G.nd ⟨rfl, rfl⟩
        · rw [if_neg c20] at H
          by_cases c27 : k5 = 2
          · rw [if_pos c27] at H
            refine am_G.sw (tgt := 71) (k0 := 2) rfl c4 ((Option.some.inj e6).trans c27) rfl rfl ?_
            refine am_G.fr 1 (g := (72, [some (.ref a0), some (.int a1), some (.int a2)], [.ref a0])) rfl ?_
            obtain ⟨now21, e22, H⟩ := am_bd H
            refine am_G.gR rfl e22 ?_
            refine am_G.fr 1 (g := (76, [some (.ref a0), some (.int a1), some (.int a2)], [.ref a0, .ref now21])) rfl ?_
            obtain ⟨told23, e24, H⟩ := am_bd H
            refine am_G.gR rfl e24 ?_
            refine am_G.fr 1 (g := (80, [some (.ref a0), some (.int a1), some (.int a2)], [.int a1, .ref told23, .ref now21])) rfl ?_
            obtain ⟨x26, e25, H⟩ := am_bd H
            refine am_G.cl [.ref now21, .ref told23, .int a1] [] (am_Cl.mono (by decide) (lX6_guests e25)) rfl rfl rfl rfl (Nat.le_of_ble_eq_true rfl) ?_
            obtain rfl := Option.some.inj H
            exact am_G.nd ⟨rfl, rfl⟩
          · rw [if_neg c27] at H
            by_cases c34 : k5 = 3
            · rw [if_pos c34] at H
              refine am_G.sw (tgt := 84) (k0 := 3) rfl c4 ((Option.some.inj e6).trans c34) rfl rfl ?_
              refine am_G.fr 1 (g := (85, [some (.ref a0), some (.int a1), some (.int a2)], [.ref a0])) rfl ?_
              obtain ⟨told28, e29, H⟩ := am_bd H
              refine am_G.gR rfl e29 ?_
              obtain ⟨lenders30, e31, H⟩ := am_bd H
              refine am_G.gR rfl e31 ?_
              refine am_G.fr 1 (g := (92, [some (.ref a0), some (.int a1), some (.int a2)], [.int a1, .ref lenders30])) rfl ?_
              obtain ⟨x32, e33, H⟩ := am_bd H
              refine am_G.aI rfl e33 ?_
              obtain rfl := Option.some.inj H
              exact am_G.nd ⟨rfl, rfl⟩
            · rw [if_neg c34] at H
              by_cases c41 : k5 = 4
              · rw [if_pos c41] at H
                refine am_G.sw (tgt := 94) (k0 := 4) rfl c4 ((Option.some.inj e6).trans c41) rfl rfl ?_
                refine am_G.fr 1 (g := (95, [some (.ref a0), some (.int a1), some (.int a2)], [.ref a0])) rfl ?_
                obtain ⟨now35, e36, H⟩ := am_bd H
                refine am_G.gR rfl e36 ?_
                refine am_G.fr 1 (g := (99, [some (.ref a0), some (.int a1), some (.int a2)], [.ref a0, .ref now35])) rfl ?_
                obtain ⟨told37, e38, H⟩ := am_bd H
                refine am_G.gR rfl e38 ?_
                refine am_G.fr 1 (g := (103, [some (.ref a0), some (.int a1), some (.int a2)], [.int a1, .ref told37, .ref now35])) rfl ?_
                obtain ⟨x40, e39, H⟩ := am_bd H
                refine am_G.cl [.ref now35, .ref told37, .int a1] [] (am_Cl.mono (by decide) (lX6_talk e39)) rfl rfl rfl rfl (Nat.le_of_ble_eq_true rfl) ?_
                obtain rfl := Option.some.inj H
                exact am_G.nd ⟨rfl, rfl⟩
              · rw [if_neg c41] at H
                cases H
  · rw [if_neg c3] at H
    refine am_G.br (tgt := 8) rfl rfl (if_neg c3) rfl ?_
    refine am_G.fr 1 (g := (10, [some (.ref a0), some (.int a1), some (.int a2)], [.int ((-2 : Int32))])) rfl ?_
    obtain rfl := Option.some.inj H
    exact am_G.nd ⟨rfl, rfl⟩
def fX9_isDay (a0 : Nat) (a1 : Int32) (h : am_H) : Option (Int32) :=
  (am_isO h a0 8).bind fun _ =>
  (am_gR h a0 8 9).bind fun told1 =>
  (am_gI h told1 7 12).bind fun days3 =>
  (fX9_within a1 ((0 : Int32)) (days3 - ((1 : Int32))) h).bind fun x6 =>
  (am_z01 x6).bind fun b7 =>
  some b7
set_option maxHeartbeats 4000000 in
set_option maxRecDepth 100000 in
theorem lX9_isDay {sc : Nat × (Nat → Int32)} {a0 : Nat} {a1 : Int32} {h : am_H} {r : Int32} (H : fX9_isDay a0 a1 h = some r) : am_Cl am_T am_N sc 2 130 [.ref a0, .int a1] h (some (.int r)) h := by
  unfold fX9_isDay at H
  obtain ⟨_, hO, H⟩ := am_bd H
  obtain ⟨fs0, hO⟩ := am_isO_ok hO
  refine am_mk (q := qX9_isDay) rfl (fun _ => ⟨_, _, _, _, _, rfl, hO, rfl, rfl⟩) (fun z => absurd z (by decide)) (Nat.le_of_ble_eq_true rfl) rfl ?_
  show am_G sc (am_Cl am_T am_N sc 1) (am_at kX9_isDay) (fun t => t.2 = h ∧ am_ret 2 (am_at kX9_isDay) t.1 = some (some (.int r))) ((0, [some (.ref a0), some (.int a1)], []), h)
  refine am_G.fr 3 (g := (3, [some (.ref a0), some (.int a1)], [.ref a0, .int ((0 : Int32)), .int a1])) rfl ?_
  obtain ⟨told1, e2, H⟩ := am_bd H
  refine am_G.gR rfl e2 ?_
  obtain ⟨days3, e4, H⟩ := am_bd H
  refine am_G.gI rfl e4 ?_
  refine am_G.fr 2 (g := (11, [some (.ref a0), some (.int a1)], [.int (days3 - ((1 : Int32))), .int ((0 : Int32)), .int a1])) rfl ?_
  obtain ⟨x6, e5, H⟩ := am_bd H
  refine am_G.cl [.int a1, .int ((0 : Int32)), .int (days3 - ((1 : Int32)))] [] (am_Cl.mono (by decide) (lX9_within e5)) rfl rfl rfl rfl (Nat.le_of_ble_eq_true rfl) ?_
  obtain ⟨b7, e8, H⟩ := am_bd H
  obtain rfl := Option.some.inj H
  exact am_G.nd ⟨rfl, am_ret2 rfl e8⟩
def fX9_day (a0 : Nat) (a1 : Int32) (a2 : Int32) (h : am_H) : Option (Int32) :=
  (am_isO h a0 8).bind fun _ =>
  (fX9_isDay a0 a1 h).bind fun x2 =>
  if ¬ x2 = 0 then
    if a2.toInt < 0 ∨ 7 < a2.toInt then
      some ((-2 : Int32))
    else (some (a2.toInt - 0).toNat).bind fun k5 =>
    if k5 = 0 then
      (am_gR h a0 8 9).bind fun told7 =>
      (am_gR h told7 7 4).bind fun kind9 =>
      (am_aI h 0 kind9 a1).bind fun x11 =>
      some x11
    else if k5 = 1 then
      (am_gR h a0 8 9).bind fun told14 =>
      (am_gR h told14 7 5).bind fun home16 =>
      (am_aI h 0 home16 a1).bind fun x18 =>
      some x18
    else if k5 = 2 then
      (am_gR h a0 8 9).bind fun told21 =>
      (am_gR h told21 7 6).bind fun on23 =>
      (am_aI h 0 on23 a1).bind fun x25 =>
      some x25
    else if k5 = 3 then
      (am_gR h a0 8 1).bind fun now28 =>
      (am_gR h now28 5 2).bind fun says30 =>
      (am_aI h 0 says30 a1).bind fun x32 =>
      some x32
    else if k5 = 4 then
      (am_gR h a0 8 1).bind fun now35 =>
      (am_gR h now35 5 3).bind fun at37 =>
      (am_aI h 0 at37 a1).bind fun x39 =>
      some x39
    else if k5 = 5 then
      (am_gR h a0 8 1).bind fun now42 =>
      (am_gR h now42 5 4).bind fun been44 =>
      (am_aI h 0 been44 a1).bind fun x46 =>
      some x46
    else if k5 = 6 then
      (am_gR h a0 8 1).bind fun now49 =>
      (am_gR h now49 5 5).bind fun times51 =>
      (am_aI h 0 times51 a1).bind fun x53 =>
      some x53
    else if k5 = 7 then
      (am_gR h a0 8 9).bind fun told56 =>
      (am_gR h told56 7 8).bind fun foes58 =>
      (am_aI h 0 foes58 a1).bind fun x60 =>
      some x60
    else none
  else
    some ((-2 : Int32))
set_option maxHeartbeats 4000000 in
set_option maxRecDepth 100000 in
theorem lX9_day {sc : Nat × (Nat → Int32)} {a0 : Nat} {a1 : Int32} {a2 : Int32} {h : am_H} {r : Int32} (H : fX9_day a0 a1 a2 h = some r) : am_Cl am_T am_N sc 3 84 [.ref a0, .int a1, .int a2] h (some (.int r)) h := by
  unfold fX9_day at H
  obtain ⟨_, hO, H⟩ := am_bd H
  obtain ⟨fs0, hO⟩ := am_isO_ok hO
  refine am_mk (q := qX9_day) rfl (fun _ => ⟨_, _, _, _, _, rfl, hO, rfl, rfl⟩) (fun z => absurd z (by decide)) (Nat.le_of_ble_eq_true rfl) rfl ?_
  show am_G sc (am_Cl am_T am_N sc 2) (am_at kX9_day) (fun t => t.2 = h ∧ am_ret 1 (am_at kX9_day) t.1 = some (some (.int r))) ((0, [some (.ref a0), some (.int a1), some (.int a2)], []), h)
  refine am_G.fr 2 (g := (2, [some (.ref a0), some (.int a1), some (.int a2)], [.int a1, .ref a0])) rfl ?_
  obtain ⟨x2, e1, H⟩ := am_bd H
  refine am_G.cl [.ref a0, .int a1] [] (am_Cl.mono (by decide) (lX9_isDay e1)) rfl rfl rfl rfl (Nat.le_of_ble_eq_true rfl) ?_
  by_cases c3 : ¬ x2 = 0
  · rw [if_pos c3] at H
    refine am_G.br (tgt := 11) rfl rfl (if_pos c3) rfl ?_
    refine am_G.fr 1 (g := (12, [some (.ref a0), some (.int a1), some (.int a2)], [.int a2])) rfl ?_
    by_cases c4 : a2.toInt < 0 ∨ 7 < a2.toInt
    · rw [if_pos c4] at H
      refine am_G.swD (tgt := 140) rfl c4 rfl ?_
      refine am_G.fr 1 (g := (142, [some (.ref a0), some (.int a1), some (.int a2)], [.int ((-2 : Int32))])) rfl ?_
      obtain rfl := Option.some.inj H
      exact am_G.nd ⟨rfl, rfl⟩
    · rw [if_neg c4] at H
      obtain ⟨k5, e6, H⟩ := am_bd H
      by_cases c13 : k5 = 0
      · rw [if_pos c13] at H
        refine am_G.sw (tgt := 60) (k0 := 0) rfl c4 ((Option.some.inj e6).trans c13) rfl rfl ?_
        refine am_G.fr 1 (g := (61, [some (.ref a0), some (.int a1), some (.int a2)], [.ref a0])) rfl ?_
        obtain ⟨told7, e8, H⟩ := am_bd H
        refine am_G.gR rfl e8 ?_
        obtain ⟨kind9, e10, H⟩ := am_bd H
        refine am_G.gR rfl e10 ?_
        refine am_G.fr 1 (g := (68, [some (.ref a0), some (.int a1), some (.int a2)], [.int a1, .ref kind9])) rfl ?_
        obtain ⟨x11, e12, H⟩ := am_bd H
        refine am_G.aI rfl e12 ?_
        obtain rfl := Option.some.inj H
        exact am_G.nd ⟨rfl, rfl⟩
      · rw [if_neg c13] at H
        by_cases c20 : k5 = 1
        · rw [if_pos c20] at H
          refine am_G.sw (tgt := 70) (k0 := 1) rfl c4 ((Option.some.inj e6).trans c20) rfl rfl ?_
          refine am_G.fr 1 (g := (71, [some (.ref a0), some (.int a1), some (.int a2)], [.ref a0])) rfl ?_
          obtain ⟨told14, e15, H⟩ := am_bd H
          refine am_G.gR rfl e15 ?_
          obtain ⟨home16, e17, H⟩ := am_bd H
          refine am_G.gR rfl e17 ?_
          refine am_G.fr 1 (g := (78, [some (.ref a0), some (.int a1), some (.int a2)], [.int a1, .ref home16])) rfl ?_
          obtain ⟨x18, e19, H⟩ := am_bd H
          refine am_G.aI rfl e19 ?_
          obtain rfl := Option.some.inj H
          exact am_G.nd ⟨rfl, rfl⟩
        · rw [if_neg c20] at H
          by_cases c27 : k5 = 2
          · rw [if_pos c27] at H
            refine am_G.sw (tgt := 80) (k0 := 2) rfl c4 ((Option.some.inj e6).trans c27) rfl rfl ?_
            refine am_G.fr 1 (g := (81, [some (.ref a0), some (.int a1), some (.int a2)], [.ref a0])) rfl ?_
            obtain ⟨told21, e22, H⟩ := am_bd H
            refine am_G.gR rfl e22 ?_
            obtain ⟨on23, e24, H⟩ := am_bd H
            refine am_G.gR rfl e24 ?_
            refine am_G.fr 1 (g := (88, [some (.ref a0), some (.int a1), some (.int a2)], [.int a1, .ref on23])) rfl ?_
            obtain ⟨x25, e26, H⟩ := am_bd H
            refine am_G.aI rfl e26 ?_
            obtain rfl := Option.some.inj H
            exact am_G.nd ⟨rfl, rfl⟩
          · rw [if_neg c27] at H
            by_cases c34 : k5 = 3
            · rw [if_pos c34] at H
              refine am_G.sw (tgt := 90) (k0 := 3) rfl c4 ((Option.some.inj e6).trans c34) rfl rfl ?_
              refine am_G.fr 1 (g := (91, [some (.ref a0), some (.int a1), some (.int a2)], [.ref a0])) rfl ?_
              obtain ⟨now28, e29, H⟩ := am_bd H
              refine am_G.gR rfl e29 ?_
              obtain ⟨says30, e31, H⟩ := am_bd H
              refine am_G.gR rfl e31 ?_
              refine am_G.fr 1 (g := (98, [some (.ref a0), some (.int a1), some (.int a2)], [.int a1, .ref says30])) rfl ?_
              obtain ⟨x32, e33, H⟩ := am_bd H
              refine am_G.aI rfl e33 ?_
              obtain rfl := Option.some.inj H
              exact am_G.nd ⟨rfl, rfl⟩
            · rw [if_neg c34] at H
              by_cases c41 : k5 = 4
              · rw [if_pos c41] at H
                refine am_G.sw (tgt := 100) (k0 := 4) rfl c4 ((Option.some.inj e6).trans c41) rfl rfl ?_
                refine am_G.fr 1 (g := (101, [some (.ref a0), some (.int a1), some (.int a2)], [.ref a0])) rfl ?_
                obtain ⟨now35, e36, H⟩ := am_bd H
                refine am_G.gR rfl e36 ?_
                obtain ⟨at37, e38, H⟩ := am_bd H
                refine am_G.gR rfl e38 ?_
                refine am_G.fr 1 (g := (108, [some (.ref a0), some (.int a1), some (.int a2)], [.int a1, .ref at37])) rfl ?_
                obtain ⟨x39, e40, H⟩ := am_bd H
                refine am_G.aI rfl e40 ?_
                obtain rfl := Option.some.inj H
                exact am_G.nd ⟨rfl, rfl⟩
              · rw [if_neg c41] at H
                by_cases c48 : k5 = 5
                · rw [if_pos c48] at H
                  refine am_G.sw (tgt := 110) (k0 := 5) rfl c4 ((Option.some.inj e6).trans c48) rfl rfl ?_
                  refine am_G.fr 1 (g := (111, [some (.ref a0), some (.int a1), some (.int a2)], [.ref a0])) rfl ?_
                  obtain ⟨now42, e43, H⟩ := am_bd H
                  refine am_G.gR rfl e43 ?_
                  obtain ⟨been44, e45, H⟩ := am_bd H
                  refine am_G.gR rfl e45 ?_
                  refine am_G.fr 1 (g := (118, [some (.ref a0), some (.int a1), some (.int a2)], [.int a1, .ref been44])) rfl ?_
                  obtain ⟨x46, e47, H⟩ := am_bd H
                  refine am_G.aI rfl e47 ?_
                  obtain rfl := Option.some.inj H
                  exact am_G.nd ⟨rfl, rfl⟩
                · rw [if_neg c48] at H
                  by_cases c55 : k5 = 6
                  · rw [if_pos c55] at H
                    refine am_G.sw (tgt := 120) (k0 := 6) rfl c4 ((Option.some.inj e6).trans c55) rfl rfl ?_
                    refine am_G.fr 1 (g := (121, [some (.ref a0), some (.int a1), some (.int a2)], [.ref a0])) rfl ?_
                    obtain ⟨now49, e50, H⟩ := am_bd H
                    refine am_G.gR rfl e50 ?_
                    obtain ⟨times51, e52, H⟩ := am_bd H
                    refine am_G.gR rfl e52 ?_
                    refine am_G.fr 1 (g := (128, [some (.ref a0), some (.int a1), some (.int a2)], [.int a1, .ref times51])) rfl ?_
                    obtain ⟨x53, e54, H⟩ := am_bd H
                    refine am_G.aI rfl e54 ?_
                    obtain rfl := Option.some.inj H
                    exact am_G.nd ⟨rfl, rfl⟩
                  · rw [if_neg c55] at H
                    by_cases c62 : k5 = 7
                    · rw [if_pos c62] at H
                      refine am_G.sw (tgt := 130) (k0 := 7) rfl c4 ((Option.some.inj e6).trans c62) rfl rfl ?_
                      refine am_G.fr 1 (g := (131, [some (.ref a0), some (.int a1), some (.int a2)], [.ref a0])) rfl ?_
                      obtain ⟨told56, e57, H⟩ := am_bd H
                      refine am_G.gR rfl e57 ?_
                      obtain ⟨foes58, e59, H⟩ := am_bd H
                      refine am_G.gR rfl e59 ?_
                      refine am_G.fr 1 (g := (138, [some (.ref a0), some (.int a1), some (.int a2)], [.int a1, .ref foes58])) rfl ?_
                      obtain ⟨x60, e61, H⟩ := am_bd H
                      refine am_G.aI rfl e61 ?_
                      obtain rfl := Option.some.inj H
                      exact am_G.nd ⟨rfl, rfl⟩
                    · rw [if_neg c62] at H
                      cases H
  · rw [if_neg c3] at H
    refine am_G.br (tgt := 8) rfl rfl (if_neg c3) rfl ?_
    refine am_G.fr 1 (g := (10, [some (.ref a0), some (.int a1), some (.int a2)], [.int ((-2 : Int32))])) rfl ?_
    obtain rfl := Option.some.inj H
    exact am_G.nd ⟨rfl, rfl⟩
def fX9_date (a0 : Nat) (h : am_H) : Option (Int32 × am_H) :=
  (am_isO h a0 8).bind fun _ =>
  (am_gR h a0 8 3).bind fun history1 =>
  (am_gR h a0 8 1).bind fun now3 =>
  (fX0_keep history1 now3 h).bind fun hh6 =>
  (am_gR hh6 a0 8 1).bind fun now7 =>
  (am_gR hh6 a0 8 9).bind fun told9 =>
  (fX6_passDate now7 told9 hh6).bind fun hh12 =>
  (am_gR hh12 a0 8 1).bind fun now13 =>
  (am_gI hh12 now13 5 9).bind fun came15 =>
  some (came15, hh12)
set_option maxHeartbeats 4000000 in
set_option maxRecDepth 100000 in
theorem lX9_date {sc : Nat × (Nat → Int32)} {a0 : Nat} {h : am_H} {r : Int32} {h1 : am_H} (H : fX9_date a0 h = some (r, h1)) : am_Cl am_T am_N sc 5 85 [.ref a0] h (some (.int r)) h1 := by
  unfold fX9_date at H
  obtain ⟨_, hO, H⟩ := am_bd H
  obtain ⟨fs0, hO⟩ := am_isO_ok hO
  refine am_mk (q := qX9_date) rfl (fun _ => ⟨_, _, _, _, _, rfl, hO, rfl, rfl⟩) (fun z => absurd z (by decide)) (Nat.le_of_ble_eq_true rfl) rfl ?_
  show am_G sc (am_Cl am_T am_N sc 4) (am_at kX9_date) (fun t => t.2 = h1 ∧ am_ret 1 (am_at kX9_date) t.1 = some (some (.int r))) ((0, [some (.ref a0)], []), h)
  refine am_G.fr 1 (g := (1, [some (.ref a0)], [.ref a0])) rfl ?_
  obtain ⟨history1, e2, H⟩ := am_bd H
  refine am_G.gR rfl e2 ?_
  refine am_G.fr 1 (g := (5, [some (.ref a0)], [.ref a0, .ref history1])) rfl ?_
  obtain ⟨now3, e4, H⟩ := am_bd H
  refine am_G.gR rfl e4 ?_
  obtain ⟨hh6, e5, H⟩ := am_bd H
  refine am_G.cl [.ref history1, .ref now3] [] (am_Cl.mono (by decide) (lX0_keep e5)) rfl rfl rfl rfl (Nat.le_of_ble_eq_true rfl) ?_
  refine am_G.fr 1 (g := (12, [some (.ref a0)], [.ref a0])) rfl ?_
  obtain ⟨now7, e8, H⟩ := am_bd H
  refine am_G.gR rfl e8 ?_
  refine am_G.fr 1 (g := (16, [some (.ref a0)], [.ref a0, .ref now7])) rfl ?_
  obtain ⟨told9, e10, H⟩ := am_bd H
  refine am_G.gR rfl e10 ?_
  obtain ⟨hh12, e11, H⟩ := am_bd H
  refine am_G.cl [.ref now7, .ref told9] [] (am_Cl.mono (by decide) (lX6_passDate e11)) rfl rfl rfl rfl (Nat.le_of_ble_eq_true rfl) ?_
  refine am_G.fr 1 (g := (23, [some (.ref a0)], [.ref a0])) rfl ?_
  obtain ⟨now13, e14, H⟩ := am_bd H
  refine am_G.gR rfl e14 ?_
  obtain ⟨came15, e16, H⟩ := am_bd H
  refine am_G.gI rfl e16 ?_
  obtain ⟨rfl, rfl⟩ := am_inj2 H
  exact am_G.nd ⟨rfl, rfl⟩
def fX9_move (a0 : Nat) (a1 : Int32) (a2 : Int32) (h : am_H) : Option (Int32 × am_H) :=
  (am_isO h a0 8).bind fun _ =>
  (fX9_isDay a0 a1 h).bind fun x2 =>
  if x2 = 0 then
    some ((0 : Int32), h)
  else
    (fX9_isHouse a0 a2 h).bind fun x5 =>
    if x5 = 0 then
      some ((0 : Int32), h)
    else
      (am_gR h a0 8 1).bind fun now7 =>
      (am_gR h a0 8 9).bind fun told9 =>
      (fX6_canShift now7 told9 a1 a2 h).bind fun x12 =>
      if ¬ x12 = 0 then
        (am_gR h a0 8 3).bind fun history14 =>
        (am_gR h a0 8 1).bind fun now16 =>
        (fX0_keep history14 now16 h).bind fun hh19 =>
        (am_gR hh19 a0 8 1).bind fun now20 =>
        (fX6_shift now20 a1 a2 hh19).bind fun hh23 =>
        some ((1 : Int32), hh23)
      else
        some ((0 : Int32), h)
set_option maxHeartbeats 4000000 in
set_option maxRecDepth 100000 in
theorem lX9_move {sc : Nat × (Nat → Int32)} {a0 : Nat} {a1 : Int32} {a2 : Int32} {h : am_H} {r : Int32} {h1 : am_H} (H : fX9_move a0 a1 a2 h = some (r, h1)) : am_Cl am_T am_N sc 4 86 [.ref a0, .int a1, .int a2] h (some (.int r)) h1 := by
  unfold fX9_move at H
  obtain ⟨_, hO, H⟩ := am_bd H
  obtain ⟨fs0, hO⟩ := am_isO_ok hO
  refine am_mk (q := qX9_move) rfl (fun _ => ⟨_, _, _, _, _, rfl, hO, rfl, rfl⟩) (fun z => absurd z (by decide)) (Nat.le_of_ble_eq_true rfl) rfl ?_
  show am_G sc (am_Cl am_T am_N sc 3) (am_at kX9_move) (fun t => t.2 = h1 ∧ am_ret 2 (am_at kX9_move) t.1 = some (some (.int r))) ((0, [some (.ref a0), some (.int a1), some (.int a2)], []), h)
  refine am_G.fr 2 (g := (2, [some (.ref a0), some (.int a1), some (.int a2)], [.int a1, .ref a0])) rfl ?_
  obtain ⟨x2, e1, H⟩ := am_bd H
  refine am_G.cl [.ref a0, .int a1] [] (am_Cl.mono (by decide) (lX9_isDay e1)) rfl rfl rfl rfl (Nat.le_of_ble_eq_true rfl) ?_
  by_cases c3 : x2 = 0
  · rw [if_pos c3] at H
    refine am_G.br (tgt := 32) rfl rfl (if_pos c3) rfl ?_
    refine am_G.fr 1 (g := (33, [some (.ref a0), some (.int a1), some (.int a2)], [.int ((0 : Int32))])) rfl ?_
    obtain ⟨rfl, rfl⟩ := am_inj2 H
    exact am_G.nd ⟨rfl, am_ret2 rfl (if_pos (by decide))⟩
  · rw [if_neg c3] at H
    refine am_G.br (tgt := 8) rfl rfl (if_neg c3) rfl ?_
    refine am_G.fr 2 (g := (10, [some (.ref a0), some (.int a1), some (.int a2)], [.int a2, .ref a0])) rfl ?_
    obtain ⟨x5, e4, H⟩ := am_bd H
    refine am_G.cl [.ref a0, .int a2] [] (am_Cl.mono (by decide) (lX9_isHouse e4)) rfl rfl rfl rfl (Nat.le_of_ble_eq_true rfl) ?_
    by_cases c6 : x5 = 0
    · rw [if_pos c6] at H
      refine am_G.br (tgt := 32) rfl rfl (if_pos c6) rfl ?_
      refine am_G.fr 1 (g := (33, [some (.ref a0), some (.int a1), some (.int a2)], [.int ((0 : Int32))])) rfl ?_
      obtain ⟨rfl, rfl⟩ := am_inj2 H
      exact am_G.nd ⟨rfl, am_ret2 rfl (if_pos (by decide))⟩
    · rw [if_neg c6] at H
      refine am_G.br (tgt := 16) rfl rfl (if_neg c6) rfl ?_
      refine am_G.fr 1 (g := (17, [some (.ref a0), some (.int a1), some (.int a2)], [.ref a0])) rfl ?_
      obtain ⟨now7, e8, H⟩ := am_bd H
      refine am_G.gR rfl e8 ?_
      refine am_G.fr 1 (g := (21, [some (.ref a0), some (.int a1), some (.int a2)], [.ref a0, .ref now7])) rfl ?_
      obtain ⟨told9, e10, H⟩ := am_bd H
      refine am_G.gR rfl e10 ?_
      refine am_G.fr 2 (g := (26, [some (.ref a0), some (.int a1), some (.int a2)], [.int a2, .int a1, .ref told9, .ref now7])) rfl ?_
      obtain ⟨x12, e11, H⟩ := am_bd H
      refine am_G.cl [.ref now7, .ref told9, .int a1, .int a2] [] (am_Cl.mono (by decide) (lX6_canShift e11)) rfl rfl rfl rfl (Nat.le_of_ble_eq_true rfl) ?_
      by_cases c13 : ¬ x12 = 0
      · rw [if_pos c13] at H
        refine am_G.br (tgt := 34) rfl rfl (if_pos c13) rfl ?_
        refine am_G.fr 1 (g := (35, [some (.ref a0), some (.int a1), some (.int a2)], [.ref a0])) rfl ?_
        obtain ⟨history14, e15, H⟩ := am_bd H
        refine am_G.gR rfl e15 ?_
        refine am_G.fr 1 (g := (39, [some (.ref a0), some (.int a1), some (.int a2)], [.ref a0, .ref history14])) rfl ?_
        obtain ⟨now16, e17, H⟩ := am_bd H
        refine am_G.gR rfl e17 ?_
        obtain ⟨hh19, e18, H⟩ := am_bd H
        refine am_G.cl [.ref history14, .ref now16] [] (am_Cl.mono (by decide) (lX0_keep e18)) rfl rfl rfl rfl (Nat.le_of_ble_eq_true rfl) ?_
        refine am_G.fr 1 (g := (46, [some (.ref a0), some (.int a1), some (.int a2)], [.ref a0])) rfl ?_
        obtain ⟨now20, e21, H⟩ := am_bd H
        refine am_G.gR rfl e21 ?_
        refine am_G.fr 2 (g := (51, [some (.ref a0), some (.int a1), some (.int a2)], [.int a2, .int a1, .ref now20])) rfl ?_
        obtain ⟨hh23, e22, H⟩ := am_bd H
        refine am_G.cl [.ref now20, .int a1, .int a2] [] (am_Cl.mono (by decide) (lX6_shift e22)) rfl rfl rfl rfl (Nat.le_of_ble_eq_true rfl) ?_
        refine am_G.fr 1 (g := (55, [some (.ref a0), some (.int a1), some (.int a2)], [.int ((1 : Int32))])) rfl ?_
        obtain ⟨rfl, rfl⟩ := am_inj2 H
        exact am_G.nd ⟨rfl, am_ret2 rfl (if_pos (by decide))⟩
      · rw [if_neg c13] at H
        refine am_G.br (tgt := 32) rfl rfl (if_neg c13) rfl ?_
        refine am_G.fr 1 (g := (33, [some (.ref a0), some (.int a1), some (.int a2)], [.int ((0 : Int32))])) rfl ?_
        obtain ⟨rfl, rfl⟩ := am_inj2 H
        exact am_G.nd ⟨rfl, am_ret2 rfl (if_pos (by decide))⟩
