/-! typed functions: the recursive ones, and those that call them -/
def am_TcX1_readLevel (rc1 : Nat → Nat → Nat → Int32 → Int32 → am_H → Option (Int32 × am_H)) (rc : Nat → Nat → Int32 → Int32 → tS → Option (Int32 × tS)) : Prop := ∀ (tag : Nat) (a0 : Nat) (a2 : Int32) (a3 : Int32) (h : am_H) (t : tS) (r : Int32) (t1 : tS), Rp h t → ly_Is 1 a0 → rc tag a0 a2 a3 t = some (r, t1) → ex (rc1 tag a0 1 a2 a3 h) (fun p => r = p.1 ∧ Rp p.2 t1)
def tX1_readLevel_L29 (rc : Nat → Nat → Int32 → Int32 → tS → Option (Int32 × tS)) : Nat → Nat → Int32 → Int32 → Int32 → tS → Option ((tS) ⊕ (Int32 × tS))
  | 0, _, _, _, _, _ => none
  | n + 1, v0, v2, v3, v4, t =>
    if ((1000 : Int32)) ≤ v4 then
      some (.inl t)
    else
      (tX1_operatorOf v2 t).bind fun x10 =>
      if ¬ x10 = 0 then
        (tX7_step  t).bind fun tt15 =>
        am_b2 (rc 0 v0 (v2 + ((1 : Int32))) v3 tt15) fun x17 tt19 =>
        if ¬ x17 = 0 then
          (tX1_add v0 x10 tt19).bind fun tt24 =>
          if ¬ v2 = ((1 : Int32)) then
            tX1_readLevel_L29 rc n v0 v2 v3 (v4 + (1 : Int32)) tt24
          else
            some (.inr ((1 : Int32), tt24))
        else
          some (.inr ((0 : Int32), tt19))
      else
        some (.inr ((1 : Int32), t))
def gtX1_readLevel : Nat → Nat → Nat → Int32 → Int32 → tS → Option (Int32 × tS)
  | 0, _, _, _, _, _ => none
  | n + 1, tag, a0, a2, a3, t =>
    if tag = 0 then
      if a2 ≤ ((3 : Int32)) then
        am_b2 (gtX1_readLevel n 0 a0 (a2 + ((1 : Int32))) a3 t) fun x3 tt5 =>
        if ¬ x3 = 0 then
          (tX1_readLevel_L29 (gtX1_readLevel n) 4000 a0 a2 a3 ((0 : Int32)) tt5).bind fun o29 => match o29 with
            | .inl tt27 =>
              some ((1 : Int32), tt27)
            | .inr y30 => some y30
        else
          some ((0 : Int32), tt5)
      else
        am_b2 (gtX1_readLevel n 1 a0 (0 : Int32) a3 t) fun x34 tt36 =>
        (am_z01 x34).bind fun b38 =>
        some (b38, tt36)
    else if tag = 1 then
      (tX7_isWord 1000018 t).bind fun x2 =>
      (tX7_isSignOf ((40 : Int32)) t).bind fun x5 =>
      (tX1_factOf  t).bind fun x8 =>
      if ¬ x2 = 0 then
        if a3 < ((5 : Int32)) then
          (tX7_step  t).bind fun tt15 =>
          if x5 = 0 then
            if x2 = 0 then
              Option.bind (
                if x8 = 0 then
                  some (t.1 1 5)
                else
                  some x8) fun js18 =>
              (tX1_add a0 js18 tt15).bind fun tt22 =>
              some ((1 : Int32), tt22)
            else
              am_b2 (gtX1_readLevel n 1 a0 (0 : Int32) (a3 + ((1 : Int32))) tt15) fun x26 tt28 =>
              if ¬ x26 = 0 then
                (tX1_add a0 ((-5 : Int32)) tt28).bind fun tt33 =>
                some ((1 : Int32), tt33)
              else
                some ((0 : Int32), tt28)
          else
            am_b2 (gtX1_readLevel n 0 a0 ((0 : Int32)) (a3 + ((1 : Int32))) tt15) fun x35 tt37 =>
            am_b2 (
              if x35 = 0 then
                some ((0 : Int32), tt37)
              else
                am_b2 (tX7_passSign ((41 : Int32)) tt37) fun x44 tt46 =>
                if x44 = 0 then
                  some ((0 : Int32), tt46)
                else
                  some ((1 : Int32), tt46)) fun js39 tt41 =>
            (am_z01 js39).bind fun b49 =>
            some (b49, tt41)
        else
          am_b2 (tX7_refuse ((5 : Int32)) t) fun x54 tt56 =>
          (am_z01 x54).bind fun b58 =>
          some (b58, tt56)
      else
        if ¬ x5 = 0 then
          if a3 < ((5 : Int32)) then
            (tX7_step  t).bind fun tt65 =>
            if x5 = 0 then
              if x2 = 0 then
                Option.bind (
                  if x8 = 0 then
                    some (t.1 1 5)
                  else
                    some x8) fun js68 =>
                (tX1_add a0 js68 tt65).bind fun tt72 =>
                some ((1 : Int32), tt72)
              else
                am_b2 (gtX1_readLevel n 1 a0 (0 : Int32) (a3 + ((1 : Int32))) tt65) fun x76 tt78 =>
                if ¬ x76 = 0 then
                  (tX1_add a0 ((-5 : Int32)) tt78).bind fun tt83 =>
                  some ((1 : Int32), tt83)
                else
                  some ((0 : Int32), tt78)
            else
              am_b2 (gtX1_readLevel n 0 a0 ((0 : Int32)) (a3 + ((1 : Int32))) tt65) fun x85 tt87 =>
              am_b2 (
                if x85 = 0 then
                  some ((0 : Int32), tt87)
                else
                  am_b2 (tX7_passSign ((41 : Int32)) tt87) fun x94 tt96 =>
                  if x94 = 0 then
                    some ((0 : Int32), tt96)
                  else
                    some ((1 : Int32), tt96)) fun js89 tt91 =>
              (am_z01 js89).bind fun b99 =>
              some (b99, tt91)
          else
            am_b2 (tX7_refuse ((5 : Int32)) t) fun x104 tt106 =>
            (am_z01 x104).bind fun b108 =>
            some (b108, tt106)
        else
          if ¬ x8 = 0 then
            if a3 < ((5 : Int32)) then
              (tX7_step  t).bind fun tt115 =>
              if x5 = 0 then
                if x2 = 0 then
                  Option.bind (
                    if x8 = 0 then
                      some (t.1 1 5)
                    else
                      some x8) fun js118 =>
                  (tX1_add a0 js118 tt115).bind fun tt122 =>
                  some ((1 : Int32), tt122)
                else
                  am_b2 (gtX1_readLevel n 1 a0 (0 : Int32) (a3 + ((1 : Int32))) tt115) fun x126 tt128 =>
                  if ¬ x126 = 0 then
                    (tX1_add a0 ((-5 : Int32)) tt128).bind fun tt133 =>
                    some ((1 : Int32), tt133)
                  else
                    some ((0 : Int32), tt128)
              else
                am_b2 (gtX1_readLevel n 0 a0 ((0 : Int32)) (a3 + ((1 : Int32))) tt115) fun x135 tt137 =>
                am_b2 (
                  if x135 = 0 then
                    some ((0 : Int32), tt137)
                  else
                    am_b2 (tX7_passSign ((41 : Int32)) tt137) fun x144 tt146 =>
                    if x144 = 0 then
                      some ((0 : Int32), tt146)
                    else
                      some ((1 : Int32), tt146)) fun js139 tt141 =>
                (am_z01 js139).bind fun b149 =>
                some (b149, tt141)
            else
              am_b2 (tX7_refuse ((5 : Int32)) t) fun x154 tt156 =>
              (am_z01 x154).bind fun b158 =>
              some (b158, tt156)
          else
            (tX7_isNumber  t).bind fun x161 =>
            if ¬ x161 = 0 then
              if a3 < ((5 : Int32)) then
                (tX7_step  t).bind fun tt168 =>
                if x5 = 0 then
                  if x2 = 0 then
                    Option.bind (
                      if x8 = 0 then
                        some (t.1 1 5)
                      else
                        some x8) fun js171 =>
                    (tX1_add a0 js171 tt168).bind fun tt175 =>
                    some ((1 : Int32), tt175)
                  else
                    am_b2 (gtX1_readLevel n 1 a0 (0 : Int32) (a3 + ((1 : Int32))) tt168) fun x179 tt181 =>
                    if ¬ x179 = 0 then
                      (tX1_add a0 ((-5 : Int32)) tt181).bind fun tt186 =>
                      some ((1 : Int32), tt186)
                    else
                      some ((0 : Int32), tt181)
                else
                  am_b2 (gtX1_readLevel n 0 a0 ((0 : Int32)) (a3 + ((1 : Int32))) tt168) fun x188 tt190 =>
                  am_b2 (
                    if x188 = 0 then
                      some ((0 : Int32), tt190)
                    else
                      am_b2 (tX7_passSign ((41 : Int32)) tt190) fun x197 tt199 =>
                      if x197 = 0 then
                        some ((0 : Int32), tt199)
                      else
                        some ((1 : Int32), tt199)) fun js192 tt194 =>
                  (am_z01 js192).bind fun b202 =>
                  some (b202, tt194)
              else
                am_b2 (tX7_refuse ((5 : Int32)) t) fun x207 tt209 =>
                (am_z01 x207).bind fun b211 =>
                some (b211, tt209)
            else
              am_b2 (tX7_refuse ((1 : Int32)) t) fun x214 tt216 =>
              (am_z01 x214).bind fun b218 =>
              some (b218, tt216)
    else none
set_option maxHeartbeats 4000000 in
set_option maxRecDepth 100000 in
theorem sX1_readLevel_L29 {rc1 : Nat → Nat → Nat → Int32 → Int32 → am_H → Option (Int32 × am_H)} {rc : Nat → Nat → Int32 → Int32 → tS → Option (Int32 × tS)} (hrc : am_TcX1_readLevel rc1 rc) : ∀ (n : Nat) (v0 : Nat) (v2 : Int32) (v3 : Int32) (v4 : Int32) (h : am_H) (t : tS) (o : (tS) ⊕ (Int32 × tS)), Rp h t → ly_Is 1 v0 → tX1_readLevel_L29 rc n v0 v2 v3 v4 t = some o → ex (fX1_readLevel_L29 rc1 n v0 1 v2 v3 v4 h) (fun p => match o, p with
    | .inl t1, .inl h1 => Rp h1 t1
    | .inr y, .inr z => y.1 = z.1 ∧ Rp z.2 y.2
    | _, _ => False) := by
  intro n
  induction n with
  | zero => intro _ _ _ _ _ _ _ _ _ H; cases H
  | succ n ih =>
    intro v0 v2 v3 v4 h t o hR_t i0 H
    rw [tX1_readLevel_L29] at H
    rw [fX1_readLevel_L29]
    by_cases c8 : ((1000 : Int32)) ≤ v4
    · rw [if_pos c8] at H
      refine ex.t c8 ?_
      obtain rfl := Option.some.inj H
      exact ex.nd hR_t
    · rw [if_neg c8] at H
      refine ex.f c8 ?_
      obtain ⟨x10, e9, H⟩ := am_bd H
      refine ex.j1 (sX1_operatorOf hR_t  e9) (fun z11 hz => ?_)
      obtain rfl : x10 = z11 := hz
      by_cases c12 : ¬ x10 = 0
      · rw [if_pos c12] at H
        refine ex.t c12 ?_
        obtain ⟨tt15, e13, H⟩ := am_bd H
        refine ex.j1 (sX7_step hR_t  e13) (fun hh14 hR_tt15 => ?_)
        obtain ⟨x17, tt19, e16, H⟩ := am_bd2 H
        refine ex.j2 (hrc _ _ _ _ _ _ _ _ hR_tt15 i0 e16) (fun z20 hh18 hz => ?_)
        obtain ⟨rfl, hR_tt19⟩ : x17 = z20 ∧ Rp hh18 tt19 := hz
        by_cases c21 : ¬ x17 = 0
        · rw [if_pos c21] at H
          refine ex.t c21 ?_
          obtain ⟨tt24, e22, H⟩ := am_bd H
          refine ex.j1 (sX1_add hR_tt19 i0 e22) (fun hh23 hR_tt24 => ?_)
          by_cases c25 : ¬ v2 = ((1 : Int32))
          · rw [if_pos c25] at H
            refine ex.t c25 ?_
            exact ih _ _ _ _ _ _ _ hR_tt24 i0 H
          · rw [if_neg c25] at H
            refine ex.f c25 ?_
            obtain rfl := Option.some.inj H
            exact ex.nd ⟨rfl, hR_tt24⟩
        · rw [if_neg c21] at H
          refine ex.f c21 ?_
          obtain rfl := Option.some.inj H
          exact ex.nd ⟨rfl, hR_tt19⟩
      · rw [if_neg c12] at H
        refine ex.f c12 ?_
        obtain rfl := Option.some.inj H
        exact ex.nd ⟨rfl, hR_t⟩
set_option maxHeartbeats 8000000 in
set_option maxRecDepth 100000 in
theorem sgX1_readLevel : ∀ n, am_TcX1_readLevel (gX1_readLevel n) (gtX1_readLevel n) := by
  intro n
  induction n with
  | zero => intro _ _ _ _ _ _ _ _ _ _ H; cases H
  | succ n hrc =>
    intro tag a0 a2 a3 h t r t1 hR_t i0 H
    rw [gtX1_readLevel] at H
    rw [gX1_readLevel]
    by_cases kt0 : tag = 0
    · rw [if_pos kt0] at H
      refine ex.t kt0 ?_
      refine ex.bd (r_isO hR_t (lc1 i0)) ?_
      by_cases c1 : a2 ≤ ((3 : Int32))
      · rw [if_pos c1] at H
        refine ex.t c1 ?_
        obtain ⟨x3, tt5, e2, H⟩ := am_bd2 H
        refine ex.j2 (hrc _ _ _ _ _ _ _ _ hR_t i0 e2) (fun z6 hh4 hz => ?_)
        obtain ⟨rfl, hR_tt5⟩ : x3 = z6 ∧ Rp hh4 tt5 := hz
        by_cases c7 : ¬ x3 = 0
        · rw [if_pos c7] at H
          refine ex.t c7 ?_
          obtain ⟨o29, E28, H⟩ := am_bd H
          refine ex.j1 (sX1_readLevel_L29 hrc _ _ _ _ _ _ _ _ hR_tt5 i0 E28) (fun p31 hq => ?_)
          clear E28
          rcases o29 with tt27 | y30
          · rcases p31 with hh26 | z32
            · dsimp only at H hq ⊢
              have hR_tt27 : Rp hh26 tt27 := hq
              obtain ⟨rfl, rfl⟩ := am_inj2 H
              exact ex.nd ⟨rfl, hR_tt27⟩
            · exact hq.elim
          · rcases p31 with _ | z32
            · exact hq.elim
            · dsimp only at H ⊢
              obtain rfl := Option.some.inj H
              exact ex.nd hq
        · rw [if_neg c7] at H
          refine ex.f c7 ?_
          obtain ⟨rfl, rfl⟩ := am_inj2 H
          exact ex.nd ⟨rfl, hR_tt5⟩
      · rw [if_neg c1] at H
        refine ex.f c1 ?_
        obtain ⟨x34, tt36, e33, H⟩ := am_bd2 H
        refine ex.j2 (hrc _ _ _ _ _ _ _ _ hR_t i0 e33) (fun z37 hh35 hz => ?_)
        obtain ⟨rfl, hR_tt36⟩ : x34 = z37 ∧ Rp hh35 tt36 := hz
        obtain ⟨b38, e39, H⟩ := am_bd H
        refine ex.bd e39 ?_
        obtain ⟨rfl, rfl⟩ := am_inj2 H
        exact ex.nd ⟨rfl, hR_tt36⟩
    · rw [if_neg kt0] at H
      refine ex.f kt0 ?_
      by_cases kt1 : tag = 1
      · rw [if_pos kt1] at H
        refine ex.t kt1 ?_
        refine ex.bd (r_isO hR_t (lc1 i0)) ?_
        obtain ⟨x2, e1, H⟩ := am_bd H
        refine ex.j1 (sX7_isWord hR_t  e1) (fun z3 hz => ?_)
        obtain rfl : x2 = z3 := hz
        obtain ⟨x5, e4, H⟩ := am_bd H
        refine ex.j1 (sX7_isSignOf hR_t  e4) (fun z6 hz => ?_)
        obtain rfl : x5 = z6 := hz
        obtain ⟨x8, e7, H⟩ := am_bd H
        refine ex.j1 (sX1_factOf hR_t  e7) (fun z9 hz => ?_)
        obtain rfl : x8 = z9 := hz
        by_cases c10 : ¬ x2 = 0
        · rw [if_pos c10] at H
          refine ex.t c10 ?_
          by_cases c11 : a3 < ((5 : Int32))
          · rw [if_pos c11] at H
            refine ex.t c11 ?_
            refine ex.bd (r_gI hR_t lk6 rfl) ?_
            obtain ⟨tt15, e13, H⟩ := am_bd H
            refine ex.j1 (sX7_step hR_t  e13) (fun hh14 hR_tt15 => ?_)
            by_cases c16 : x5 = 0
            · rw [if_pos c16] at H
              refine ex.t c16 ?_
              by_cases c17 : x2 = 0
              · rw [if_pos c17] at H
                refine ex.t c17 ?_
                obtain ⟨js18, E23, H⟩ := am_bd H
                refine ex.j1 (Q := fun p => js18 = p) ?_ (fun z24 hq => ?_)
                · clear H
                  have H := E23
                  clear E23
                  by_cases c19 : x8 = 0
                  · rw [if_pos c19] at H
                    refine ex.t c19 ?_
                    obtain rfl := Option.some.inj H
                    exact ex.nd rfl
                  · rw [if_neg c19] at H
                    refine ex.f c19 ?_
                    obtain rfl := Option.some.inj H
                    exact ex.nd rfl
                · clear E23
                  obtain rfl : js18 = z24 := hq
                  obtain ⟨tt22, e20, H⟩ := am_bd H
                  refine ex.j1 (sX1_add hR_tt15 i0 e20) (fun hh21 hR_tt22 => ?_)
                  obtain ⟨rfl, rfl⟩ := am_inj2 H
                  exact ex.nd ⟨rfl, hR_tt22⟩
              · rw [if_neg c17] at H
                refine ex.f c17 ?_
                obtain ⟨x26, tt28, e25, H⟩ := am_bd2 H
                refine ex.j2 (hrc _ _ _ _ _ _ _ _ hR_tt15 i0 e25) (fun z29 hh27 hz => ?_)
                obtain ⟨rfl, hR_tt28⟩ : x26 = z29 ∧ Rp hh27 tt28 := hz
                by_cases c30 : ¬ x26 = 0
                · rw [if_pos c30] at H
                  refine ex.t c30 ?_
                  obtain ⟨tt33, e31, H⟩ := am_bd H
                  refine ex.j1 (sX1_add hR_tt28 i0 e31) (fun hh32 hR_tt33 => ?_)
                  obtain ⟨rfl, rfl⟩ := am_inj2 H
                  exact ex.nd ⟨rfl, hR_tt33⟩
                · rw [if_neg c30] at H
                  refine ex.f c30 ?_
                  obtain ⟨rfl, rfl⟩ := am_inj2 H
                  exact ex.nd ⟨rfl, hR_tt28⟩
            · rw [if_neg c16] at H
              refine ex.f c16 ?_
              obtain ⟨x35, tt37, e34, H⟩ := am_bd2 H
              refine ex.j2 (hrc _ _ _ _ _ _ _ _ hR_tt15 i0 e34) (fun z38 hh36 hz => ?_)
              obtain ⟨rfl, hR_tt37⟩ : x35 = z38 ∧ Rp hh36 tt37 := hz
              obtain ⟨js39, tt41, E51, H⟩ := am_bd2 H
              refine ex.j2 (Q := fun p => js39 = p.1 ∧ Rp p.2 tt41) ?_ (fun z52 hh40 hq => ?_)
              · clear H
                have H := E51
                clear E51
                by_cases c42 : x35 = 0
                · rw [if_pos c42] at H
                  refine ex.t c42 ?_
                  obtain ⟨rfl, rfl⟩ := am_inj2 H
                  exact ex.nd ⟨rfl, hR_tt37⟩
                · rw [if_neg c42] at H
                  refine ex.f c42 ?_
                  obtain ⟨x44, tt46, e43, H⟩ := am_bd2 H
                  refine ex.j2 (sX7_passSign hR_tt37  e43) (fun z47 hh45 hz => ?_)
                  obtain ⟨rfl, hR_tt46⟩ : x44 = z47 ∧ Rp hh45 tt46 := hz
                  by_cases c48 : x44 = 0
                  · rw [if_pos c48] at H
                    refine ex.t c48 ?_
                    obtain ⟨rfl, rfl⟩ := am_inj2 H
                    exact ex.nd ⟨rfl, hR_tt46⟩
                  · rw [if_neg c48] at H
                    refine ex.f c48 ?_
                    obtain ⟨rfl, rfl⟩ := am_inj2 H
                    exact ex.nd ⟨rfl, hR_tt46⟩
              · clear E51
                obtain ⟨rfl, hR_tt41⟩ : js39 = z52 ∧ Rp hh40 tt41 := hq
                obtain ⟨b49, e50, H⟩ := am_bd H
                refine ex.bd e50 ?_
                obtain ⟨rfl, rfl⟩ := am_inj2 H
                exact ex.nd ⟨rfl, hR_tt41⟩
          · rw [if_neg c11] at H
            refine ex.f c11 ?_
            obtain ⟨x54, tt56, e53, H⟩ := am_bd2 H
            refine ex.j2 (sX7_refuse hR_t  e53) (fun z57 hh55 hz => ?_)
            obtain ⟨rfl, hR_tt56⟩ : x54 = z57 ∧ Rp hh55 tt56 := hz
            obtain ⟨b58, e59, H⟩ := am_bd H
            refine ex.bd e59 ?_
            obtain ⟨rfl, rfl⟩ := am_inj2 H
            exact ex.nd ⟨rfl, hR_tt56⟩
        · rw [if_neg c10] at H
          refine ex.f c10 ?_
          by_cases c60 : ¬ x5 = 0
          · rw [if_pos c60] at H
            refine ex.t c60 ?_
            by_cases c61 : a3 < ((5 : Int32))
            · rw [if_pos c61] at H
              refine ex.t c61 ?_
              refine ex.bd (r_gI hR_t lk6 rfl) ?_
              obtain ⟨tt65, e63, H⟩ := am_bd H
              refine ex.j1 (sX7_step hR_t  e63) (fun hh64 hR_tt65 => ?_)
              by_cases c66 : x5 = 0
              · rw [if_pos c66] at H
                refine ex.t c66 ?_
                by_cases c67 : x2 = 0
                · rw [if_pos c67] at H
                  refine ex.t c67 ?_
                  obtain ⟨js68, E73, H⟩ := am_bd H
                  refine ex.j1 (Q := fun p => js68 = p) ?_ (fun z74 hq => ?_)
                  · clear H
                    have H := E73
                    clear E73
                    by_cases c69 : x8 = 0
                    · rw [if_pos c69] at H
                      refine ex.t c69 ?_
                      obtain rfl := Option.some.inj H
                      exact ex.nd rfl
                    · rw [if_neg c69] at H
                      refine ex.f c69 ?_
                      obtain rfl := Option.some.inj H
                      exact ex.nd rfl
                  · clear E73
                    obtain rfl : js68 = z74 := hq
                    obtain ⟨tt72, e70, H⟩ := am_bd H
                    refine ex.j1 (sX1_add hR_tt65 i0 e70) (fun hh71 hR_tt72 => ?_)
                    obtain ⟨rfl, rfl⟩ := am_inj2 H
                    exact ex.nd ⟨rfl, hR_tt72⟩
                · rw [if_neg c67] at H
                  refine ex.f c67 ?_
                  obtain ⟨x76, tt78, e75, H⟩ := am_bd2 H
                  refine ex.j2 (hrc _ _ _ _ _ _ _ _ hR_tt65 i0 e75) (fun z79 hh77 hz => ?_)
                  obtain ⟨rfl, hR_tt78⟩ : x76 = z79 ∧ Rp hh77 tt78 := hz
                  by_cases c80 : ¬ x76 = 0
                  · rw [if_pos c80] at H
                    refine ex.t c80 ?_
                    obtain ⟨tt83, e81, H⟩ := am_bd H
                    refine ex.j1 (sX1_add hR_tt78 i0 e81) (fun hh82 hR_tt83 => ?_)
                    obtain ⟨rfl, rfl⟩ := am_inj2 H
                    exact ex.nd ⟨rfl, hR_tt83⟩
                  · rw [if_neg c80] at H
                    refine ex.f c80 ?_
                    obtain ⟨rfl, rfl⟩ := am_inj2 H
                    exact ex.nd ⟨rfl, hR_tt78⟩
              · rw [if_neg c66] at H
                refine ex.f c66 ?_
                obtain ⟨x85, tt87, e84, H⟩ := am_bd2 H
                refine ex.j2 (hrc _ _ _ _ _ _ _ _ hR_tt65 i0 e84) (fun z88 hh86 hz => ?_)
                obtain ⟨rfl, hR_tt87⟩ : x85 = z88 ∧ Rp hh86 tt87 := hz
                obtain ⟨js89, tt91, E101, H⟩ := am_bd2 H
                refine ex.j2 (Q := fun p => js89 = p.1 ∧ Rp p.2 tt91) ?_ (fun z102 hh90 hq => ?_)
                · clear H
                  have H := E101
                  clear E101
                  by_cases c92 : x85 = 0
                  · rw [if_pos c92] at H
                    refine ex.t c92 ?_
                    obtain ⟨rfl, rfl⟩ := am_inj2 H
                    exact ex.nd ⟨rfl, hR_tt87⟩
                  · rw [if_neg c92] at H
                    refine ex.f c92 ?_
                    obtain ⟨x94, tt96, e93, H⟩ := am_bd2 H
                    refine ex.j2 (sX7_passSign hR_tt87  e93) (fun z97 hh95 hz => ?_)
                    obtain ⟨rfl, hR_tt96⟩ : x94 = z97 ∧ Rp hh95 tt96 := hz
                    by_cases c98 : x94 = 0
                    · rw [if_pos c98] at H
                      refine ex.t c98 ?_
                      obtain ⟨rfl, rfl⟩ := am_inj2 H
                      exact ex.nd ⟨rfl, hR_tt96⟩
                    · rw [if_neg c98] at H
                      refine ex.f c98 ?_
                      obtain ⟨rfl, rfl⟩ := am_inj2 H
                      exact ex.nd ⟨rfl, hR_tt96⟩
                · clear E101
                  obtain ⟨rfl, hR_tt91⟩ : js89 = z102 ∧ Rp hh90 tt91 := hq
                  obtain ⟨b99, e100, H⟩ := am_bd H
                  refine ex.bd e100 ?_
                  obtain ⟨rfl, rfl⟩ := am_inj2 H
                  exact ex.nd ⟨rfl, hR_tt91⟩
            · rw [if_neg c61] at H
              refine ex.f c61 ?_
              obtain ⟨x104, tt106, e103, H⟩ := am_bd2 H
              refine ex.j2 (sX7_refuse hR_t  e103) (fun z107 hh105 hz => ?_)
              obtain ⟨rfl, hR_tt106⟩ : x104 = z107 ∧ Rp hh105 tt106 := hz
              obtain ⟨b108, e109, H⟩ := am_bd H
              refine ex.bd e109 ?_
              obtain ⟨rfl, rfl⟩ := am_inj2 H
              exact ex.nd ⟨rfl, hR_tt106⟩
          · rw [if_neg c60] at H
            refine ex.f c60 ?_
            by_cases c110 : ¬ x8 = 0
            · rw [if_pos c110] at H
              refine ex.t c110 ?_
              by_cases c111 : a3 < ((5 : Int32))
              · rw [if_pos c111] at H
                refine ex.t c111 ?_
                refine ex.bd (r_gI hR_t lk6 rfl) ?_
                obtain ⟨tt115, e113, H⟩ := am_bd H
                refine ex.j1 (sX7_step hR_t  e113) (fun hh114 hR_tt115 => ?_)
                by_cases c116 : x5 = 0
                · rw [if_pos c116] at H
                  refine ex.t c116 ?_
                  by_cases c117 : x2 = 0
                  · rw [if_pos c117] at H
                    refine ex.t c117 ?_
                    obtain ⟨js118, E123, H⟩ := am_bd H
                    refine ex.j1 (Q := fun p => js118 = p) ?_ (fun z124 hq => ?_)
                    · clear H
                      have H := E123
                      clear E123
                      by_cases c119 : x8 = 0
                      · rw [if_pos c119] at H
                        refine ex.t c119 ?_
                        obtain rfl := Option.some.inj H
                        exact ex.nd rfl
                      · rw [if_neg c119] at H
                        refine ex.f c119 ?_
                        obtain rfl := Option.some.inj H
                        exact ex.nd rfl
                    · clear E123
                      obtain rfl : js118 = z124 := hq
                      obtain ⟨tt122, e120, H⟩ := am_bd H
                      refine ex.j1 (sX1_add hR_tt115 i0 e120) (fun hh121 hR_tt122 => ?_)
                      obtain ⟨rfl, rfl⟩ := am_inj2 H
                      exact ex.nd ⟨rfl, hR_tt122⟩
                  · rw [if_neg c117] at H
                    refine ex.f c117 ?_
                    obtain ⟨x126, tt128, e125, H⟩ := am_bd2 H
                    refine ex.j2 (hrc _ _ _ _ _ _ _ _ hR_tt115 i0 e125) (fun z129 hh127 hz => ?_)
                    obtain ⟨rfl, hR_tt128⟩ : x126 = z129 ∧ Rp hh127 tt128 := hz
                    by_cases c130 : ¬ x126 = 0
                    · rw [if_pos c130] at H
                      refine ex.t c130 ?_
                      obtain ⟨tt133, e131, H⟩ := am_bd H
                      refine ex.j1 (sX1_add hR_tt128 i0 e131) (fun hh132 hR_tt133 => ?_)
                      obtain ⟨rfl, rfl⟩ := am_inj2 H
                      exact ex.nd ⟨rfl, hR_tt133⟩
                    · rw [if_neg c130] at H
                      refine ex.f c130 ?_
                      obtain ⟨rfl, rfl⟩ := am_inj2 H
                      exact ex.nd ⟨rfl, hR_tt128⟩
                · rw [if_neg c116] at H
                  refine ex.f c116 ?_
                  obtain ⟨x135, tt137, e134, H⟩ := am_bd2 H
                  refine ex.j2 (hrc _ _ _ _ _ _ _ _ hR_tt115 i0 e134) (fun z138 hh136 hz => ?_)
                  obtain ⟨rfl, hR_tt137⟩ : x135 = z138 ∧ Rp hh136 tt137 := hz
                  obtain ⟨js139, tt141, E151, H⟩ := am_bd2 H
                  refine ex.j2 (Q := fun p => js139 = p.1 ∧ Rp p.2 tt141) ?_ (fun z152 hh140 hq => ?_)
                  · clear H
                    have H := E151
                    clear E151
                    by_cases c142 : x135 = 0
                    · rw [if_pos c142] at H
                      refine ex.t c142 ?_
                      obtain ⟨rfl, rfl⟩ := am_inj2 H
                      exact ex.nd ⟨rfl, hR_tt137⟩
                    · rw [if_neg c142] at H
                      refine ex.f c142 ?_
                      obtain ⟨x144, tt146, e143, H⟩ := am_bd2 H
                      refine ex.j2 (sX7_passSign hR_tt137  e143) (fun z147 hh145 hz => ?_)
                      obtain ⟨rfl, hR_tt146⟩ : x144 = z147 ∧ Rp hh145 tt146 := hz
                      by_cases c148 : x144 = 0
                      · rw [if_pos c148] at H
                        refine ex.t c148 ?_
                        obtain ⟨rfl, rfl⟩ := am_inj2 H
                        exact ex.nd ⟨rfl, hR_tt146⟩
                      · rw [if_neg c148] at H
                        refine ex.f c148 ?_
                        obtain ⟨rfl, rfl⟩ := am_inj2 H
                        exact ex.nd ⟨rfl, hR_tt146⟩
                  · clear E151
                    obtain ⟨rfl, hR_tt141⟩ : js139 = z152 ∧ Rp hh140 tt141 := hq
                    obtain ⟨b149, e150, H⟩ := am_bd H
                    refine ex.bd e150 ?_
                    obtain ⟨rfl, rfl⟩ := am_inj2 H
                    exact ex.nd ⟨rfl, hR_tt141⟩
              · rw [if_neg c111] at H
                refine ex.f c111 ?_
                obtain ⟨x154, tt156, e153, H⟩ := am_bd2 H
                refine ex.j2 (sX7_refuse hR_t  e153) (fun z157 hh155 hz => ?_)
                obtain ⟨rfl, hR_tt156⟩ : x154 = z157 ∧ Rp hh155 tt156 := hz
                obtain ⟨b158, e159, H⟩ := am_bd H
                refine ex.bd e159 ?_
                obtain ⟨rfl, rfl⟩ := am_inj2 H
                exact ex.nd ⟨rfl, hR_tt156⟩
            · rw [if_neg c110] at H
              refine ex.f c110 ?_
              obtain ⟨x161, e160, H⟩ := am_bd H
              refine ex.j1 (sX7_isNumber hR_t  e160) (fun z162 hz => ?_)
              obtain rfl : x161 = z162 := hz
              by_cases c163 : ¬ x161 = 0
              · rw [if_pos c163] at H
                refine ex.t c163 ?_
                by_cases c164 : a3 < ((5 : Int32))
                · rw [if_pos c164] at H
                  refine ex.t c164 ?_
                  refine ex.bd (r_gI hR_t lk6 rfl) ?_
                  obtain ⟨tt168, e166, H⟩ := am_bd H
                  refine ex.j1 (sX7_step hR_t  e166) (fun hh167 hR_tt168 => ?_)
                  by_cases c169 : x5 = 0
                  · rw [if_pos c169] at H
                    refine ex.t c169 ?_
                    by_cases c170 : x2 = 0
                    · rw [if_pos c170] at H
                      refine ex.t c170 ?_
                      obtain ⟨js171, E176, H⟩ := am_bd H
                      refine ex.j1 (Q := fun p => js171 = p) ?_ (fun z177 hq => ?_)
                      · clear H
                        have H := E176
                        clear E176
                        by_cases c172 : x8 = 0
                        · rw [if_pos c172] at H
                          refine ex.t c172 ?_
                          obtain rfl := Option.some.inj H
                          exact ex.nd rfl
                        · rw [if_neg c172] at H
                          refine ex.f c172 ?_
                          obtain rfl := Option.some.inj H
                          exact ex.nd rfl
                      · clear E176
                        obtain rfl : js171 = z177 := hq
                        obtain ⟨tt175, e173, H⟩ := am_bd H
                        refine ex.j1 (sX1_add hR_tt168 i0 e173) (fun hh174 hR_tt175 => ?_)
                        obtain ⟨rfl, rfl⟩ := am_inj2 H
                        exact ex.nd ⟨rfl, hR_tt175⟩
                    · rw [if_neg c170] at H
                      refine ex.f c170 ?_
                      obtain ⟨x179, tt181, e178, H⟩ := am_bd2 H
                      refine ex.j2 (hrc _ _ _ _ _ _ _ _ hR_tt168 i0 e178) (fun z182 hh180 hz => ?_)
                      obtain ⟨rfl, hR_tt181⟩ : x179 = z182 ∧ Rp hh180 tt181 := hz
                      by_cases c183 : ¬ x179 = 0
                      · rw [if_pos c183] at H
                        refine ex.t c183 ?_
                        obtain ⟨tt186, e184, H⟩ := am_bd H
                        refine ex.j1 (sX1_add hR_tt181 i0 e184) (fun hh185 hR_tt186 => ?_)
                        obtain ⟨rfl, rfl⟩ := am_inj2 H
                        exact ex.nd ⟨rfl, hR_tt186⟩
                      · rw [if_neg c183] at H
                        refine ex.f c183 ?_
                        obtain ⟨rfl, rfl⟩ := am_inj2 H
                        exact ex.nd ⟨rfl, hR_tt181⟩
                  · rw [if_neg c169] at H
                    refine ex.f c169 ?_
                    obtain ⟨x188, tt190, e187, H⟩ := am_bd2 H
                    refine ex.j2 (hrc _ _ _ _ _ _ _ _ hR_tt168 i0 e187) (fun z191 hh189 hz => ?_)
                    obtain ⟨rfl, hR_tt190⟩ : x188 = z191 ∧ Rp hh189 tt190 := hz
                    obtain ⟨js192, tt194, E204, H⟩ := am_bd2 H
                    refine ex.j2 (Q := fun p => js192 = p.1 ∧ Rp p.2 tt194) ?_ (fun z205 hh193 hq => ?_)
                    · clear H
                      have H := E204
                      clear E204
                      by_cases c195 : x188 = 0
                      · rw [if_pos c195] at H
                        refine ex.t c195 ?_
                        obtain ⟨rfl, rfl⟩ := am_inj2 H
                        exact ex.nd ⟨rfl, hR_tt190⟩
                      · rw [if_neg c195] at H
                        refine ex.f c195 ?_
                        obtain ⟨x197, tt199, e196, H⟩ := am_bd2 H
                        refine ex.j2 (sX7_passSign hR_tt190  e196) (fun z200 hh198 hz => ?_)
                        obtain ⟨rfl, hR_tt199⟩ : x197 = z200 ∧ Rp hh198 tt199 := hz
                        by_cases c201 : x197 = 0
                        · rw [if_pos c201] at H
                          refine ex.t c201 ?_
                          obtain ⟨rfl, rfl⟩ := am_inj2 H
                          exact ex.nd ⟨rfl, hR_tt199⟩
                        · rw [if_neg c201] at H
                          refine ex.f c201 ?_
                          obtain ⟨rfl, rfl⟩ := am_inj2 H
                          exact ex.nd ⟨rfl, hR_tt199⟩
                    · clear E204
                      obtain ⟨rfl, hR_tt194⟩ : js192 = z205 ∧ Rp hh193 tt194 := hq
                      obtain ⟨b202, e203, H⟩ := am_bd H
                      refine ex.bd e203 ?_
                      obtain ⟨rfl, rfl⟩ := am_inj2 H
                      exact ex.nd ⟨rfl, hR_tt194⟩
                · rw [if_neg c164] at H
                  refine ex.f c164 ?_
                  obtain ⟨x207, tt209, e206, H⟩ := am_bd2 H
                  refine ex.j2 (sX7_refuse hR_t  e206) (fun z210 hh208 hz => ?_)
                  obtain ⟨rfl, hR_tt209⟩ : x207 = z210 ∧ Rp hh208 tt209 := hz
                  obtain ⟨b211, e212, H⟩ := am_bd H
                  refine ex.bd e212 ?_
                  obtain ⟨rfl, rfl⟩ := am_inj2 H
                  exact ex.nd ⟨rfl, hR_tt209⟩
              · rw [if_neg c163] at H
                refine ex.f c163 ?_
                obtain ⟨x214, tt216, e213, H⟩ := am_bd2 H
                refine ex.j2 (sX7_refuse hR_t  e213) (fun z217 hh215 hz => ?_)
                obtain ⟨rfl, hR_tt216⟩ : x214 = z217 ∧ Rp hh215 tt216 := hz
                obtain ⟨b218, e219, H⟩ := am_bd H
                refine ex.bd e219 ?_
                obtain ⟨rfl, rfl⟩ := am_inj2 H
                exact ex.nd ⟨rfl, hR_tt216⟩
      · rw [if_neg kt1] at H
        refine ex.f kt1 ?_
        cases H
def tX1_readLevel (n : Nat) (a0 : Nat) (a2 : Int32) (a3 : Int32) (t : tS) : Option (Int32 × tS) := gtX1_readLevel n 0 a0 a2 a3 t
theorem sX1_readLevel {n : Nat} {a0 : Nat} {a2 : Int32} {a3 : Int32} {h : am_H} {t : tS} {r : Int32} {t1 : tS} (hR : Rp h t) (i0 : ly_Is 1 a0) (H : tX1_readLevel n a0 a2 a3 t = some (r, t1)) : ex (fX1_readLevel n a0 1 a2 a3 h) (fun p => r = p.1 ∧ Rp p.2 t1) := sgX1_readLevel n 0 a0 a2 a3 h t r t1 hR i0 H
def tX1_readPart (n : Nat) (a0 : Nat) (a3 : Int32) (t : tS) : Option (Int32 × tS) := gtX1_readLevel n 1 a0 (0 : Int32) a3 t
theorem sX1_readPart {n : Nat} {a0 : Nat} {a3 : Int32} {h : am_H} {t : tS} {r : Int32} {t1 : tS} (hR : Rp h t) (i0 : ly_Is 1 a0) (H : tX1_readPart n a0 a3 t = some (r, t1)) : ex (fX1_readPart n a0 1 a3 h) (fun p => r = p.1 ∧ Rp p.2 t1) := sgX1_readLevel n 1 a0 (0 : Int32) a3 h t r t1 hR i0 H
def tX4_readFades (a1 : Nat) (t : tS) : Option (Int32 × tS) :=
  if (t.1 a1 15) = 0 then
    (some (uI t a1 15 ((1 : Int32)))).bind fun tt4 =>
    (tX7_step  tt4).bind fun tt9 =>
    (some (uI tt9 (a1 + 11) 2 ((0 : Int32)))).bind fun tt12 =>
    am_b2 (tX1_readLevel 60 (a1 + 11) ((0 : Int32)) ((0 : Int32)) tt12) fun x17 tt19 =>
    am_b2 (
      if x17 = 0 then
        some ((0 : Int32), tt19)
      else
        am_b2 (tX7_passSign ((59 : Int32)) tt19) fun x26 tt28 =>
        if x26 = 0 then
          some ((0 : Int32), tt28)
        else
          some ((1 : Int32), tt28)) fun js21 tt23 =>
    (am_z01 js21).bind fun b31 =>
    some (b31, tt23)
  else
    am_b2 (tX7_refuse ((3 : Int32)) t) fun x36 tt38 =>
    (am_z01 x36).bind fun b40 =>
    some (b40, tt38)
set_option maxHeartbeats 4000000 in
set_option maxRecDepth 100000 in
theorem sX4_readFades {a1 : Nat} {h : am_H} {t : tS} {r : Int32} {t1 : tS} (hR_t : Rp h t) (i1 : ly_Is 7 a1) (H : tX4_readFades a1 t = some (r, t1)) : ex (fX4_readFades 1 a1 h) (fun p => r = p.1 ∧ Rp p.2 t1) := by
  unfold tX4_readFades at H
  unfold fX4_readFades
  refine ex.bd (r_gI hR_t (lc7 i1) rfl) ?_
  by_cases c2 : (t.1 a1 15) = 0
  · rw [if_pos c2] at H
    refine ex.t c2 ?_
    obtain ⟨tt4, et5, H⟩ := am_bd H
    obtain ⟨hh3, e6, hR_tt4⟩ := r_pI (k := 15) (x := (1 : Int32)) hR_t (lc7 i1) rfl rfl
    rw [Option.some.inj et5] at hR_tt4
    refine ex.bd e6 ?_
    obtain ⟨tt9, e7, H⟩ := am_bd H
    refine ex.j1 (sX7_step hR_tt4  e7) (fun hh8 hR_tt9 => ?_)
    refine ex.bd (r_gR hR_tt9 (lc7 i1) rfl) ?_
    obtain ⟨tt12, et13, H⟩ := am_bd H
    obtain ⟨hh11, e14, hR_tt12⟩ := r_pI (k := 2) (x := (0 : Int32)) hR_tt9 (lc1 (li7_10 i1)) rfl rfl
    rw [Option.some.inj et13] at hR_tt12
    refine ex.bd e14 ?_
    refine ex.bd (r_gR hR_tt12 (lc7 i1) rfl) ?_
    obtain ⟨x17, tt19, e16, H⟩ := am_bd2 H
    refine ex.j2 (sX1_readLevel hR_tt12 (li7_10 i1) e16) (fun z20 hh18 hz => ?_)
    obtain ⟨rfl, hR_tt19⟩ : x17 = z20 ∧ Rp hh18 tt19 := hz
    obtain ⟨js21, tt23, E33, H⟩ := am_bd2 H
    refine ex.j2 (Q := fun p => js21 = p.1 ∧ Rp p.2 tt23) ?_ (fun z34 hh22 hq => ?_)
    · clear H
      have H := E33
      clear E33
      by_cases c24 : x17 = 0
      · rw [if_pos c24] at H
        refine ex.t c24 ?_
        obtain ⟨rfl, rfl⟩ := am_inj2 H
        exact ex.nd ⟨rfl, hR_tt19⟩
      · rw [if_neg c24] at H
        refine ex.f c24 ?_
        obtain ⟨x26, tt28, e25, H⟩ := am_bd2 H
        refine ex.j2 (sX7_passSign hR_tt19  e25) (fun z29 hh27 hz => ?_)
        obtain ⟨rfl, hR_tt28⟩ : x26 = z29 ∧ Rp hh27 tt28 := hz
        by_cases c30 : x26 = 0
        · rw [if_pos c30] at H
          refine ex.t c30 ?_
          obtain ⟨rfl, rfl⟩ := am_inj2 H
          exact ex.nd ⟨rfl, hR_tt28⟩
        · rw [if_neg c30] at H
          refine ex.f c30 ?_
          obtain ⟨rfl, rfl⟩ := am_inj2 H
          exact ex.nd ⟨rfl, hR_tt28⟩
    · clear E33
      obtain ⟨rfl, hR_tt23⟩ : js21 = z34 ∧ Rp hh22 tt23 := hq
      obtain ⟨b31, e32, H⟩ := am_bd H
      refine ex.bd e32 ?_
      obtain ⟨rfl, rfl⟩ := am_inj2 H
      exact ex.nd ⟨rfl, hR_tt23⟩
  · rw [if_neg c2] at H
    refine ex.f c2 ?_
    obtain ⟨x36, tt38, e35, H⟩ := am_bd2 H
    refine ex.j2 (sX7_refuse hR_t  e35) (fun z39 hh37 hz => ?_)
    obtain ⟨rfl, hR_tt38⟩ : x36 = z39 ∧ Rp hh37 tt38 := hz
    obtain ⟨b40, e41, H⟩ := am_bd H
    refine ex.bd e41 ?_
    obtain ⟨rfl, rfl⟩ := am_inj2 H
    exact ex.nd ⟨rfl, hR_tt38⟩
def tX4_readValeLine (a1 : Nat) (t : tS) : Option (Int32 × tS) :=
  (tX7_isWord 1000000 t).bind fun x2 =>
  if x2 = 0 then
    (tX7_isWord 1000002 t).bind fun x6 =>
    if x6 = 0 then
      (tX7_isWord 1000003 t).bind fun x10 =>
      if x10 = 0 then
        (tX7_isWord 1000007 t).bind fun x14 =>
        if x14 = 0 then
          (tX7_isWord 1000008 t).bind fun x18 =>
          if x18 = 0 then
            (tX7_isWord 1000009 t).bind fun x22 =>
            if x22 = 0 then
              am_b2 (tX7_refuse ((1 : Int32)) t) fun x26 tt28 =>
              (am_z01 x26).bind fun b30 =>
              some (b30, tt28)
            else
              am_b2 (tX4_readFades a1 t) fun x33 tt35 =>
              (am_z01 x33).bind fun b37 =>
              some (b37, tt35)
          else
            am_b2 (tX4_readStays a1 t) fun x40 tt42 =>
            (am_z01 x40).bind fun b44 =>
            some (b44, tt42)
        else
          am_b2 (tX4_readClash a1 t) fun x47 tt49 =>
          (am_z01 x47).bind fun b51 =>
          some (b51, tt49)
      else
        am_b2 (tX4_readDay a1 t) fun x54 tt56 =>
        (am_z01 x54).bind fun b58 =>
        some (b58, tt56)
    else
      am_b2 (tX4_readLends a1 t) fun x61 tt63 =>
      (am_z01 x61).bind fun b65 =>
      some (b65, tt63)
  else
    am_b2 (tX4_readHouse a1 t) fun x68 tt70 =>
    (am_z01 x68).bind fun b72 =>
    some (b72, tt70)
set_option maxHeartbeats 4000000 in
set_option maxRecDepth 100000 in
theorem sX4_readValeLine {a1 : Nat} {h : am_H} {t : tS} {r : Int32} {t1 : tS} (hR_t : Rp h t) (i1 : ly_Is 7 a1) (H : tX4_readValeLine a1 t = some (r, t1)) : ex (fX4_readValeLine 1 a1 h) (fun p => r = p.1 ∧ Rp p.2 t1) := by
  unfold tX4_readValeLine at H
  unfold fX4_readValeLine
  obtain ⟨x2, e1, H⟩ := am_bd H
  refine ex.j1 (sX7_isWord hR_t  e1) (fun z3 hz => ?_)
  obtain rfl : x2 = z3 := hz
  by_cases c4 : x2 = 0
  · rw [if_pos c4] at H
    refine ex.t c4 ?_
    obtain ⟨x6, e5, H⟩ := am_bd H
    refine ex.j1 (sX7_isWord hR_t  e5) (fun z7 hz => ?_)
    obtain rfl : x6 = z7 := hz
    by_cases c8 : x6 = 0
    · rw [if_pos c8] at H
      refine ex.t c8 ?_
      obtain ⟨x10, e9, H⟩ := am_bd H
      refine ex.j1 (sX7_isWord hR_t  e9) (fun z11 hz => ?_)
      obtain rfl : x10 = z11 := hz
      by_cases c12 : x10 = 0
      · rw [if_pos c12] at H
        refine ex.t c12 ?_
        obtain ⟨x14, e13, H⟩ := am_bd H
        refine ex.j1 (sX7_isWord hR_t  e13) (fun z15 hz => ?_)
        obtain rfl : x14 = z15 := hz
        by_cases c16 : x14 = 0
        · rw [if_pos c16] at H
          refine ex.t c16 ?_
          obtain ⟨x18, e17, H⟩ := am_bd H
          refine ex.j1 (sX7_isWord hR_t  e17) (fun z19 hz => ?_)
          obtain rfl : x18 = z19 := hz
          by_cases c20 : x18 = 0
          · rw [if_pos c20] at H
            refine ex.t c20 ?_
            obtain ⟨x22, e21, H⟩ := am_bd H
            refine ex.j1 (sX7_isWord hR_t  e21) (fun z23 hz => ?_)
            obtain rfl : x22 = z23 := hz
            by_cases c24 : x22 = 0
            · rw [if_pos c24] at H
              refine ex.t c24 ?_
              obtain ⟨x26, tt28, e25, H⟩ := am_bd2 H
              refine ex.j2 (sX7_refuse hR_t  e25) (fun z29 hh27 hz => ?_)
              obtain ⟨rfl, hR_tt28⟩ : x26 = z29 ∧ Rp hh27 tt28 := hz
              obtain ⟨b30, e31, H⟩ := am_bd H
              refine ex.bd e31 ?_
              obtain ⟨rfl, rfl⟩ := am_inj2 H
              exact ex.nd ⟨rfl, hR_tt28⟩
            · rw [if_neg c24] at H
              refine ex.f c24 ?_
              obtain ⟨x33, tt35, e32, H⟩ := am_bd2 H
              refine ex.j2 (sX4_readFades hR_t i1 e32) (fun z36 hh34 hz => ?_)
              obtain ⟨rfl, hR_tt35⟩ : x33 = z36 ∧ Rp hh34 tt35 := hz
              obtain ⟨b37, e38, H⟩ := am_bd H
              refine ex.bd e38 ?_
              obtain ⟨rfl, rfl⟩ := am_inj2 H
              exact ex.nd ⟨rfl, hR_tt35⟩
          · rw [if_neg c20] at H
            refine ex.f c20 ?_
            obtain ⟨x40, tt42, e39, H⟩ := am_bd2 H
            refine ex.j2 (sX4_readStays hR_t i1 e39) (fun z43 hh41 hz => ?_)
            obtain ⟨rfl, hR_tt42⟩ : x40 = z43 ∧ Rp hh41 tt42 := hz
            obtain ⟨b44, e45, H⟩ := am_bd H
            refine ex.bd e45 ?_
            obtain ⟨rfl, rfl⟩ := am_inj2 H
            exact ex.nd ⟨rfl, hR_tt42⟩
        · rw [if_neg c16] at H
          refine ex.f c16 ?_
          obtain ⟨x47, tt49, e46, H⟩ := am_bd2 H
          refine ex.j2 (sX4_readClash hR_t i1 e46) (fun z50 hh48 hz => ?_)
          obtain ⟨rfl, hR_tt49⟩ : x47 = z50 ∧ Rp hh48 tt49 := hz
          obtain ⟨b51, e52, H⟩ := am_bd H
          refine ex.bd e52 ?_
          obtain ⟨rfl, rfl⟩ := am_inj2 H
          exact ex.nd ⟨rfl, hR_tt49⟩
      · rw [if_neg c12] at H
        refine ex.f c12 ?_
        obtain ⟨x54, tt56, e53, H⟩ := am_bd2 H
        refine ex.j2 (sX4_readDay hR_t i1 e53) (fun z57 hh55 hz => ?_)
        obtain ⟨rfl, hR_tt56⟩ : x54 = z57 ∧ Rp hh55 tt56 := hz
        obtain ⟨b58, e59, H⟩ := am_bd H
        refine ex.bd e59 ?_
        obtain ⟨rfl, rfl⟩ := am_inj2 H
        exact ex.nd ⟨rfl, hR_tt56⟩
    · rw [if_neg c8] at H
      refine ex.f c8 ?_
      obtain ⟨x61, tt63, e60, H⟩ := am_bd2 H
      refine ex.j2 (sX4_readLends hR_t i1 e60) (fun z64 hh62 hz => ?_)
      obtain ⟨rfl, hR_tt63⟩ : x61 = z64 ∧ Rp hh62 tt63 := hz
      obtain ⟨b65, e66, H⟩ := am_bd H
      refine ex.bd e66 ?_
      obtain ⟨rfl, rfl⟩ := am_inj2 H
      exact ex.nd ⟨rfl, hR_tt63⟩
  · rw [if_neg c4] at H
    refine ex.f c4 ?_
    obtain ⟨x68, tt70, e67, H⟩ := am_bd2 H
    refine ex.j2 (sX4_readHouse hR_t i1 e67) (fun z71 hh69 hz => ?_)
    obtain ⟨rfl, hR_tt70⟩ : x68 = z71 ∧ Rp hh69 tt70 := hz
    obtain ⟨b72, e73, H⟩ := am_bd H
    refine ex.bd e73 ?_
    obtain ⟨rfl, rfl⟩ := am_inj2 H
    exact ex.nd ⟨rfl, hR_tt70⟩
def tX4_readVale_L10 : Nat → Nat → Int32 → tS → Option ((tS) ⊕ (Int32 × tS))
  | 0, _, _, _ => none
  | n + 1, v1, v2, t =>
    if ((1000 : Int32)) ≤ v2 then
      some (.inl t)
    else
      (tX7_atEnd  t).bind fun x9 =>
      if ¬ x9 = 0 then
        some (.inl t)
      else
        am_b2 (tX4_readValeLine v1 t) fun x13 tt15 =>
        if ¬ x13 = 0 then
          tX4_readVale_L10 n v1 (v2 + (1 : Int32)) tt15
        else
          some (.inr (tt15.1 1 7, tt15))
def tX4_readVale (a1 : Nat) (t : tS) : Option (Int32 × tS) :=
  (tX8_clear a1 t).bind fun tt3 =>
  (tX7_begin  tt3).bind fun tt6 =>
  (tX4_readVale_L10 4000 a1 ((0 : Int32)) tt6).bind fun o22 => match o22 with
    | .inl tt20 =>
      some ((0 : Int32), tt20)
    | .inr y23 => some y23
set_option maxHeartbeats 4000000 in
set_option maxRecDepth 100000 in
theorem sX4_readVale_L10 : ∀ (n : Nat) (v1 : Nat) (v2 : Int32) (h : am_H) (t : tS) (o : (tS) ⊕ (Int32 × tS)), Rp h t → ly_Is 7 v1 → tX4_readVale_L10 n v1 v2 t = some o → ex (fX4_readVale_L10 n 1 v1 v2 h) (fun p => match o, p with
    | .inl t1, .inl h1 => Rp h1 t1
    | .inr y, .inr z => y.1 = z.1 ∧ Rp z.2 y.2
    | _, _ => False) := by
  intro n
  induction n with
  | zero => intro _ _ _ _ _ _ _ H; cases H
  | succ n ih =>
    intro v1 v2 h t o hR_t i1 H
    rw [tX4_readVale_L10] at H
    rw [fX4_readVale_L10]
    by_cases c7 : ((1000 : Int32)) ≤ v2
    · rw [if_pos c7] at H
      refine ex.t c7 ?_
      obtain rfl := Option.some.inj H
      exact ex.nd hR_t
    · rw [if_neg c7] at H
      refine ex.f c7 ?_
      obtain ⟨x9, e8, H⟩ := am_bd H
      refine ex.j1 (sX7_atEnd hR_t  e8) (fun z10 hz => ?_)
      obtain rfl : x9 = z10 := hz
      by_cases c11 : ¬ x9 = 0
      · rw [if_pos c11] at H
        refine ex.t c11 ?_
        obtain rfl := Option.some.inj H
        exact ex.nd hR_t
      · rw [if_neg c11] at H
        refine ex.f c11 ?_
        obtain ⟨x13, tt15, e12, H⟩ := am_bd2 H
        refine ex.j2 (sX4_readValeLine hR_t i1 e12) (fun z16 hh14 hz => ?_)
        obtain ⟨rfl, hR_tt15⟩ : x13 = z16 ∧ Rp hh14 tt15 := hz
        by_cases c17 : ¬ x13 = 0
        · rw [if_pos c17] at H
          refine ex.t c17 ?_
          exact ih _ _ _ _ _ hR_tt15 i1 H
        · rw [if_neg c17] at H
          refine ex.f c17 ?_
          refine ex.bd (r_gI hR_tt15 lk6 rfl) ?_
          obtain rfl := Option.some.inj H
          exact ex.nd ⟨rfl, hR_tt15⟩
set_option maxHeartbeats 4000000 in
set_option maxRecDepth 100000 in
theorem sX4_readVale {a1 : Nat} {h : am_H} {t : tS} {r : Int32} {t1 : tS} (hR_t : Rp h t) (i1 : ly_Is 7 a1) (H : tX4_readVale a1 t = some (r, t1)) : ex (fX4_readVale 1 a1 h) (fun p => r = p.1 ∧ Rp p.2 t1) := by
  unfold tX4_readVale at H
  unfold fX4_readVale
  obtain ⟨tt3, e1, H⟩ := am_bd H
  refine ex.j1 (sX8_clear hR_t i1 e1) (fun hh2 hR_tt3 => ?_)
  obtain ⟨tt6, e4, H⟩ := am_bd H
  refine ex.j1 (sX7_begin hR_tt3  e4) (fun hh5 hR_tt6 => ?_)
  obtain ⟨o22, E21, H⟩ := am_bd H
  refine ex.j1 (sX4_readVale_L10 _ _ _ _ _ _ hR_tt6 i1 E21) (fun p24 hq => ?_)
  clear E21
  rcases o22 with tt20 | y23
  · rcases p24 with hh19 | z25
    · dsimp only at H hq ⊢
      have hR_tt20 : Rp hh19 tt20 := hq
      obtain ⟨rfl, rfl⟩ := am_inj2 H
      exact ex.nd ⟨rfl, hR_tt20⟩
    · exact hq.elim
  · rcases p24 with _ | z25
    · exact hq.elim
    · dsimp only at H ⊢
      obtain rfl := Option.some.inj H
      exact ex.nd hq
def tX9_vale  (t : tS) : Option (Int32 × tS) :=
  am_b2 (tX4_readVale (t.2.2.2.2 0 10) t) fun x6 tt8 =>
  (some (uI tt8 1 1 ((0 : Int32)))).bind fun tt12 =>
  Option.bind (
    if ¬ x6 = 0 then
      some tt12
    else
      (some (uR tt12 0 9 (tt12.2.2.2.2 0 10))).bind fun tt25 =>
      (some (uR tt25 0 10 (tt12.2.2.2.2 0 9))).bind fun tt29 =>
      (tX9_startAnew  tt29).bind fun tt34 =>
      some tt34) fun tt16 =>
  some (x6, tt16)
set_option maxHeartbeats 4000000 in
set_option maxRecDepth 100000 in
theorem sX9_vale  {h : am_H} {t : tS} {r : Int32} {t1 : tS} (hR_t : Rp h t)  (H : tX9_vale  t = some (r, t1)) : ex (fX9_vale 0 h) (fun p => r = p.1 ∧ Rp p.2 t1) := by
  unfold tX9_vale at H
  unfold fX9_vale
  refine ex.bd (r_isO hR_t lk8) ?_
  refine ex.bd (r_gR hR_t lk8 rfl) ?_
  obtain ⟨eD3, iD4⟩ := r_gD hR_t (k := 10) (by decide) (by decide)
  refine ex.bd eD3 ?_
  obtain ⟨x6, tt8, e5, H⟩ := am_bd2 H
  refine ex.j2 (sX4_readVale hR_t iD4 e5) (fun z9 hh7 hz => ?_)
  obtain ⟨rfl, hR_tt8⟩ : x6 = z9 ∧ Rp hh7 tt8 := hz
  refine ex.bd (r_gR hR_tt8 lk8 rfl) ?_
  obtain ⟨tt12, et13, H⟩ := am_bd H
  obtain ⟨hh11, e14, hR_tt12⟩ := r_pI (k := 1) (x := (0 : Int32)) hR_tt8 lk6 rfl rfl
  rw [Option.some.inj et13] at hR_tt12
  refine ex.bd e14 ?_
  obtain ⟨tt16, E35, H⟩ := am_bd H
  refine ex.j1 (Q := fun p => Rp p tt16) ?_ (fun hh15 hq => ?_)
  · clear H
    have H := E35
    clear E35
    by_cases c17 : ¬ x6 = 0
    · rw [if_pos c17] at H
      refine ex.t c17 ?_
      obtain rfl := Option.some.inj H
      exact ex.nd hR_tt12
    · rw [if_neg c17] at H
      refine ex.f c17 ?_
      obtain ⟨eD19, iD20⟩ := r_gD hR_tt12 (k := 9) (by decide) (by decide)
      refine ex.bd eD19 ?_
      obtain ⟨eD22, iD23⟩ := r_gD hR_tt12 (k := 10) (by decide) (by decide)
      refine ex.bd eD22 ?_
      obtain ⟨tt25, et26, H⟩ := am_bd H
      obtain ⟨hh24, e27, hR_tt25⟩ := r_pD (k := 9) hR_tt12 (by decide) (by decide) iD23
      rw [Option.some.inj et26] at hR_tt25
      refine ex.bd e27 ?_
      obtain ⟨tt29, et30, H⟩ := am_bd H
      obtain ⟨hh28, e31, hR_tt29⟩ := r_pD (k := 10) hR_tt25 (by decide) (by decide) iD20
      rw [Option.some.inj et30] at hR_tt29
      refine ex.bd e31 ?_
      obtain ⟨tt34, e32, H⟩ := am_bd H
      refine ex.j1 (sX9_startAnew hR_tt29  e32) (fun hh33 hR_tt34 => ?_)
      obtain rfl := Option.some.inj H
      exact ex.nd hR_tt34
  · clear E35
    have hR_tt16 : Rp hh15 tt16 := hq
    obtain ⟨rfl, rfl⟩ := am_inj2 H
    exact ex.nd ⟨rfl, hR_tt16⟩
def am_TcX9_waysFrom (rc1 : Nat → Nat → Int32 → am_H → Option (Int32 × am_H)) (rc : Nat → Int32 → tS → Option (Int32 × tS)) : Prop := ∀ (tag : Nat) (a1 : Int32) (h : am_H) (t : tS) (r : Int32) (t1 : tS), Rp h t → rc tag a1 t = some (r, t1) → ex (rc1 tag 0 a1 h) (fun p => r = p.1 ∧ Rp p.2 t1)
def tX9_waysFrom_L49 (rc : Nat → Int32 → tS → Option (Int32 × tS)) : Nat → Int32 → Int32 → Int32 → Int32 → tS → Option (Int32 × tS)
  | 0, _, _, _, _, _ => none
  | n + 1, v1, v2, v3, v4, t =>
    if (t.1 (t.2.2.2.2 0 9) 11) ≤ v4 then
      some (v2, t)
    else
      (tA t 179 4 v4).bind fun x23 =>
      am_b2 (
        if x23 < v3 then
          some (v2, t)
        else
          (tA t 180 4 v4).bind fun x30 =>
          (tA t (t.2.2.2.2 0 9 + 9) 6 v1).bind fun x36 =>
          if ¬ (x30 &&& x36) = 0 then
            some (v2, t)
          else
            (tA t 179 4 v4).bind fun x40 =>
            (tWA t 0 179 4 v4 (x40 - v3)).bind fun tt43 =>
            (tA tt43 180 4 v4).bind fun x47 =>
            (tWA tt43 0 180 4 v4 (x47 ||| (((1 : Int32)) <<< (v1 &&& 31)))).bind fun tt50 =>
            am_b2 (rc 0 (v1 + ((1 : Int32))) tt50) fun x54 tt56 =>
            (tA tt56 180 4 v4).bind fun x59 =>
            (tWA tt56 0 180 4 v4 (x59 &&& ((((1 : Int32)) <<< (v1 &&& 31)) ^^^ ((-1 : Int32))))).bind fun tt62 =>
            (tA tt62 179 4 v4).bind fun x66 =>
            (tWA tt62 0 179 4 v4 (x66 + v3)).bind fun tt69 =>
            some (v2 + x54, tt69)) fun jv25 tt27 =>
      tX9_waysFrom_L49 rc n v1 jv25 v3 (v4 + (1 : Int32)) tt27
def gtX9_waysFrom : Nat → Nat → Int32 → tS → Option (Int32 × tS)
  | 0, _, _, _ => none
  | n + 1, tag, a1, t =>
    if tag = 0 then
      if a1 < (t.1 (t.2.2.2.2 0 9) 12) then
        (tA t 7 6 a1).bind fun x8 =>
        if ¬ x8 = ((-1 : Int32)) then
          (tA t (t.2.2.2.2 0 9 + 10) 6 a1).bind fun x15 =>
          am_b2 (tX9_waysFrom_L49 (gtX9_waysFrom n) 4000 a1 ((0 : Int32)) x15 ((0 : Int32)) t) fun lw74 tt76 =>
          some (lw74, tt76)
        else
          am_b2 (gtX9_waysFrom n 0 (a1 + ((1 : Int32))) t) fun x80 tt82 =>
          some (x80, tt82)
      else
        some ((1 : Int32), t)
    else none
set_option maxHeartbeats 4000000 in
set_option maxRecDepth 100000 in
theorem sX9_waysFrom_L49 {rc1 : Nat → Nat → Int32 → am_H → Option (Int32 × am_H)} {rc : Nat → Int32 → tS → Option (Int32 × tS)} (hrc : am_TcX9_waysFrom rc1 rc) : ∀ (n : Nat) (v1 : Int32) (v2 : Int32) (v3 : Int32) (v4 : Int32) (h : am_H) (t : tS) (w2 : Int32) (t1 : tS), Rp h t → tX9_waysFrom_L49 rc n v1 v2 v3 v4 t = some (w2, t1) → ex (fX9_waysFrom_L49 rc1 n 0 v1 v2 v3 v4 h) (fun p => w2 = p.1 ∧ Rp p.2 t1) := by
  intro n
  induction n with
  | zero => intro _ _ _ _ _ _ _ _ _ H; cases H
  | succ n ih =>
    intro v1 v2 v3 v4 h t w2 t1 hR_t H
    rw [tX9_waysFrom_L49] at H
    rw [fX9_waysFrom_L49]
    obtain ⟨eD18, iD19⟩ := r_gD hR_t (k := 9) (by decide) (by decide)
    refine ex.bd eD18 ?_
    refine ex.bd (r_gI hR_t (lc7 iD19) rfl) ?_
    by_cases c21 : (t.1 (t.2.2.2.2 0 9) 11) ≤ v4
    · rw [if_pos c21] at H
      refine ex.t c21 ?_
      obtain ⟨rfl, rfl⟩ := am_inj2 H
      exact ex.nd ⟨rfl, hR_t⟩
    · rw [if_neg c21] at H
      refine ex.f c21 ?_
      refine ex.bd (r_gR hR_t lk8 rfl) ?_
      obtain ⟨x23, e24, H⟩ := am_bd H
      refine ex.bd (r_aI hR_t (la8_6 (a := 0) (by decide)) e24) ?_
      obtain ⟨jv25, tt27, E72, H⟩ := am_bd2 H
      refine ex.j2 (Q := fun p => jv25 = p.1 ∧ Rp p.2 tt27) ?_ (fun z73 hh26 hq => ?_)
      · clear H
        have H := E72
        clear E72
        by_cases c28 : x23 < v3
        · rw [if_pos c28] at H
          refine ex.t c28 ?_
          obtain ⟨rfl, rfl⟩ := am_inj2 H
          exact ex.nd ⟨rfl, hR_t⟩
        · rw [if_neg c28] at H
          refine ex.f c28 ?_
          refine ex.bd (r_gR hR_t lk8 rfl) ?_
          obtain ⟨x30, e31, H⟩ := am_bd H
          refine ex.bd (r_aI hR_t (la8_7 (a := 0) (by decide)) e31) ?_
          obtain ⟨eD33, iD34⟩ := r_gD hR_t (k := 9) (by decide) (by decide)
          refine ex.bd eD33 ?_
          refine ex.bd (r_gR hR_t (lc7 iD34) rfl) ?_
          obtain ⟨x36, e37, H⟩ := am_bd H
          refine ex.bd (r_aI hR_t (la7_8 iD34) e37) ?_
          by_cases c38 : ¬ (x30 &&& x36) = 0
          · rw [if_pos c38] at H
            refine ex.t c38 ?_
            obtain ⟨rfl, rfl⟩ := am_inj2 H
            exact ex.nd ⟨rfl, hR_t⟩
          · rw [if_neg c38] at H
            refine ex.f c38 ?_
            refine ex.bd (r_gR hR_t lk8 rfl) ?_
            obtain ⟨x40, e41, H⟩ := am_bd H
            refine ex.bd (r_aI hR_t (la8_6 (a := 0) (by decide)) e41) ?_
            obtain ⟨tt43, e44, H⟩ := am_bd H
            obtain ⟨hh42, e45, hR_tt43⟩ := r_sI hR_t (la8_6 (a := 0) (by decide)) e44
            refine ex.bd e45 ?_
            refine ex.bd (r_gR hR_tt43 lk8 rfl) ?_
            obtain ⟨x47, e48, H⟩ := am_bd H
            refine ex.bd (r_aI hR_tt43 (la8_7 (a := 0) (by decide)) e48) ?_
            obtain ⟨tt50, e51, H⟩ := am_bd H
            obtain ⟨hh49, e52, hR_tt50⟩ := r_sI hR_tt43 (la8_7 (a := 0) (by decide)) e51
            refine ex.bd e52 ?_
            obtain ⟨x54, tt56, e53, H⟩ := am_bd2 H
            refine ex.j2 (hrc _ _ _ _ _ _ hR_tt50  e53) (fun z57 hh55 hz => ?_)
            obtain ⟨rfl, hR_tt56⟩ : x54 = z57 ∧ Rp hh55 tt56 := hz
            refine ex.bd (r_gR hR_tt56 lk8 rfl) ?_
            obtain ⟨x59, e60, H⟩ := am_bd H
            refine ex.bd (r_aI hR_tt56 (la8_7 (a := 0) (by decide)) e60) ?_
            obtain ⟨tt62, e63, H⟩ := am_bd H
            obtain ⟨hh61, e64, hR_tt62⟩ := r_sI hR_tt56 (la8_7 (a := 0) (by decide)) e63
            refine ex.bd e64 ?_
            refine ex.bd (r_gR hR_tt62 lk8 rfl) ?_
            obtain ⟨x66, e67, H⟩ := am_bd H
            refine ex.bd (r_aI hR_tt62 (la8_6 (a := 0) (by decide)) e67) ?_
            obtain ⟨tt69, e70, H⟩ := am_bd H
            obtain ⟨hh68, e71, hR_tt69⟩ := r_sI hR_tt62 (la8_6 (a := 0) (by decide)) e70
            refine ex.bd e71 ?_
            obtain ⟨rfl, rfl⟩ := am_inj2 H
            exact ex.nd ⟨rfl, hR_tt69⟩
      · clear E72
        obtain ⟨rfl, hR_tt27⟩ : jv25 = z73 ∧ Rp hh26 tt27 := hq
        exact ih _ _ _ _ _ _ _ _ hR_tt27  H
set_option maxHeartbeats 8000000 in
set_option maxRecDepth 100000 in
theorem sgX9_waysFrom : ∀ n, am_TcX9_waysFrom (gX9_waysFrom n) (gtX9_waysFrom n) := by
  intro n
  induction n with
  | zero => intro _ _ _ _ _ _ _ H; cases H
  | succ n hrc =>
    intro tag a1 h t r t1 hR_t  H
    rw [gtX9_waysFrom] at H
    rw [gX9_waysFrom]
    by_cases kt0 : tag = 0
    · rw [if_pos kt0] at H
      refine ex.t kt0 ?_
      refine ex.bd (r_isO hR_t lk8) ?_
      obtain ⟨eD2, iD3⟩ := r_gD hR_t (k := 9) (by decide) (by decide)
      refine ex.bd eD2 ?_
      refine ex.bd (r_gI hR_t (lc7 iD3) rfl) ?_
      by_cases c5 : a1 < (t.1 (t.2.2.2.2 0 9) 12)
      · rw [if_pos c5] at H
        refine ex.t c5 ?_
        refine ex.bd (r_gR hR_t lk8 rfl) ?_
        refine ex.bd (r_gR hR_t (lc5 (show ly_Is 5 3 by decide)) rfl) ?_
        obtain ⟨x8, e9, H⟩ := am_bd H
        refine ex.bd (r_aI hR_t (la5_3 (show ly_Is 5 3 by decide)) e9) ?_
        by_cases c10 : ¬ x8 = ((-1 : Int32))
        · rw [if_pos c10] at H
          refine ex.t c10 ?_
          obtain ⟨eD12, iD13⟩ := r_gD hR_t (k := 9) (by decide) (by decide)
          refine ex.bd eD12 ?_
          refine ex.bd (r_gR hR_t (lc7 iD13) rfl) ?_
          obtain ⟨x15, e16, H⟩ := am_bd H
          refine ex.bd (r_aI hR_t (la7_9 iD13) e16) ?_
          obtain ⟨lw74, tt76, E78, H⟩ := am_bd2 H
          refine ex.j2 (sX9_waysFrom_L49 hrc _ _ _ _ _ _ _ _ _ hR_t  E78) (fun z77 hh75 hq => ?_)
          clear E78
          obtain ⟨rfl, hR_tt76⟩ : lw74 = z77 ∧ Rp hh75 tt76 := hq
          obtain ⟨rfl, rfl⟩ := am_inj2 H
          exact ex.nd ⟨rfl, hR_tt76⟩
        · rw [if_neg c10] at H
          refine ex.f c10 ?_
          obtain ⟨x80, tt82, e79, H⟩ := am_bd2 H
          refine ex.j2 (hrc _ _ _ _ _ _ hR_t  e79) (fun z83 hh81 hz => ?_)
          obtain ⟨rfl, hR_tt82⟩ : x80 = z83 ∧ Rp hh81 tt82 := hz
          obtain ⟨rfl, rfl⟩ := am_inj2 H
          exact ex.nd ⟨rfl, hR_tt82⟩
      · rw [if_neg c5] at H
        refine ex.f c5 ?_
        obtain ⟨rfl, rfl⟩ := am_inj2 H
        exact ex.nd ⟨rfl, hR_t⟩
    · rw [if_neg kt0] at H
      refine ex.f kt0 ?_
      cases H
def tX9_waysFrom (n : Nat) (a1 : Int32) (t : tS) : Option (Int32 × tS) := gtX9_waysFrom n 0 a1 t
theorem sX9_waysFrom {n : Nat} {a1 : Int32} {h : am_H} {t : tS} {r : Int32} {t1 : tS} (hR : Rp h t)  (H : tX9_waysFrom n a1 t = some (r, t1)) : ex (fX9_waysFrom n 0 a1 h) (fun p => r = p.1 ∧ Rp p.2 t1) := sgX9_waysFrom n 0 a1 h t r t1 hR  H
def tX9_laying_L2 : Nat → Int32 → tS → Option (tS)
  | 0, _, _ => none
  | n + 1, v1, t =>
    if (t.1 (t.2.2.2.2 0 9) 11) ≤ v1 then
      some t
    else
      (tA t 4 4 v1).bind fun x9 =>
      (tWA t 0 179 4 v1 x9).bind fun tt12 =>
      (tWA tt12 0 180 4 v1 ((0 : Int32))).bind fun tt17 =>
      tX9_laying_L2 n (v1 + (1 : Int32)) tt17
def tX9_laying  (t : tS) : Option (Int32 × tS) :=
  Option.bind (tX9_laying_L2 4000 ((0 : Int32)) t) fun tt21 =>
  am_b2 (tX9_waysFrom 60 ((0 : Int32)) tt21) fun x24 tt26 =>
  some (x24, tt26)
set_option maxHeartbeats 4000000 in
set_option maxRecDepth 100000 in
theorem sX9_laying_L2 : ∀ (n : Nat) (v1 : Int32) (h : am_H) (t : tS) (t1 : tS), Rp h t → tX9_laying_L2 n v1 t = some t1 → ex (fX9_laying_L2 n 0 v1 h) (fun p => Rp p t1) := by
  intro n
  induction n with
  | zero => intro _ _ _ _ _ H; cases H
  | succ n ih =>
    intro v1 h t t1 hR_t H
    rw [tX9_laying_L2] at H
    rw [fX9_laying_L2]
    obtain ⟨eD2, iD3⟩ := r_gD hR_t (k := 9) (by decide) (by decide)
    refine ex.bd eD2 ?_
    refine ex.bd (r_gI hR_t (lc7 iD3) rfl) ?_
    by_cases c5 : (t.1 (t.2.2.2.2 0 9) 11) ≤ v1
    · rw [if_pos c5] at H
      refine ex.t c5 ?_
      obtain rfl := Option.some.inj H
      exact ex.nd hR_t
    · rw [if_neg c5] at H
      refine ex.f c5 ?_
      refine ex.bd (r_gR hR_t lk8 rfl) ?_
      refine ex.bd (r_gR hR_t lk8 rfl) ?_
      refine ex.bd (r_gR hR_t (lc5 (show ly_Is 5 3 by decide)) rfl) ?_
      obtain ⟨x9, e10, H⟩ := am_bd H
      refine ex.bd (r_aI hR_t (la5_0 (show ly_Is 5 3 by decide)) e10) ?_
      obtain ⟨tt12, e13, H⟩ := am_bd H
      obtain ⟨hh11, e14, hR_tt12⟩ := r_sI hR_t (la8_6 (a := 0) (by decide)) e13
      refine ex.bd e14 ?_
      refine ex.bd (r_gR hR_tt12 lk8 rfl) ?_
      obtain ⟨tt17, e18, H⟩ := am_bd H
      obtain ⟨hh16, e19, hR_tt17⟩ := r_sI hR_tt12 (la8_7 (a := 0) (by decide)) e18
      refine ex.bd e19 ?_
      exact ih _ _ _ _ hR_tt17  H
set_option maxHeartbeats 4000000 in
set_option maxRecDepth 100000 in
theorem sX9_laying  {h : am_H} {t : tS} {r : Int32} {t1 : tS} (hR_t : Rp h t)  (H : tX9_laying  t = some (r, t1)) : ex (fX9_laying 0 h) (fun p => r = p.1 ∧ Rp p.2 t1) := by
  unfold tX9_laying at H
  unfold fX9_laying
  refine ex.bd (r_isO hR_t lk8) ?_
  obtain ⟨tt21, E22, H⟩ := am_bd H
  refine ex.j1 (sX9_laying_L2 _ _ _ _ _ hR_t  E22) (fun hh20 hq => ?_)
  clear E22
  have hR_tt21 : Rp hh20 tt21 := hq
  obtain ⟨x24, tt26, e23, H⟩ := am_bd2 H
  refine ex.j2 (sX9_waysFrom hR_tt21  e23) (fun z27 hh25 hz => ?_)
  obtain ⟨rfl, hR_tt26⟩ : x24 = z27 ∧ Rp hh25 tt26 := hz
  obtain ⟨rfl, rfl⟩ := am_inj2 H
  exact ex.nd ⟨rfl, hR_tt26⟩
def am_TcX10_products (rc1 : Nat → Nat → Int32 → am_H → Option (am_H)) (rc : Nat → Int32 → tS → Option (tS)) : Prop := ∀ (tag : Nat) (a1 : Int32) (h : am_H) (t : tS) (t1 : tS), Rp h t → rc tag a1 t = some t1 → ex (rc1 tag 218 a1 h) (fun h1 => Rp h1 t1)
def tX10_products_L5 (rc : Nat → Int32 → tS → Option (tS)) : Nat → Int32 → tS → Option (tS)
  | 0, _, _ => none
  | n + 1, v1, t =>
    am_b2 (tX10_hasSign ((42 : Int32)) t) fun x5 tt7 =>
    if x5 = 0 then
      some tt7
    else
      (rc 2 v1 tt7).bind fun tt12 =>
      (tX10_emit ((6 : Int32)) ((0 : Int32)) tt12).bind fun tt15 =>
      tX10_products_L5 rc n v1 tt15
def tX10_sums_L5 (rc : Nat → Int32 → tS → Option (tS)) : Nat → Int32 → tS → Option (tS)
  | 0, _, _ => none
  | n + 1, v1, t =>
    (tX10_isSign ((43 : Int32)) t).bind fun x5 =>
    if ¬ x5 = 0 then
      (tX10_isSign ((43 : Int32)) t).bind fun x9 =>
      (some (uI t 218 7 ((t.1 218 7) + ((1 : Int32))))).bind fun tt13 =>
      (rc 0 v1 tt13).bind fun tt18 =>
      Option.bind (
        if x9 = 0 then
          some ((5 : Int32))
        else
          some ((4 : Int32))) fun js19 =>
      (tX10_emit js19 ((0 : Int32)) tt18).bind fun tt23 =>
      tX10_sums_L5 rc n v1 tt23
    else
      (tX10_isSign ((45 : Int32)) t).bind fun x27 =>
      if x27 = 0 then
        some t
      else
        (tX10_isSign ((43 : Int32)) t).bind fun x31 =>
        (some (uI t 218 7 ((t.1 218 7) + ((1 : Int32))))).bind fun tt35 =>
        (rc 0 v1 tt35).bind fun tt40 =>
        Option.bind (
          if x31 = 0 then
            some ((5 : Int32))
          else
            some ((4 : Int32))) fun js41 =>
        (tX10_emit js41 ((0 : Int32)) tt40).bind fun tt45 =>
        tX10_sums_L5 rc n v1 tt45
def tX10_whole_L5 (rc : Nat → Int32 → tS → Option (tS)) : Nat → Int32 → tS → Option (tS)
  | 0, _, _ => none
  | n + 1, v1, t =>
    (tX10_isWord ((19 : Int32)) t).bind fun x5 =>
    if ¬ x5 = 0 then
      (tX10_isWord ((19 : Int32)) t).bind fun x9 =>
      (some (uI t 218 7 ((t.1 218 7) + ((1 : Int32))))).bind fun tt13 =>
      (rc 3 v1 tt13).bind fun tt18 =>
      Option.bind (
        if x9 = 0 then
          some ((10 : Int32))
        else
          some ((9 : Int32))) fun js19 =>
      (tX10_emit js19 ((0 : Int32)) tt18).bind fun tt23 =>
      tX10_whole_L5 rc n v1 tt23
    else
      (tX10_isWord ((20 : Int32)) t).bind fun x27 =>
      if x27 = 0 then
        some t
      else
        (tX10_isWord ((19 : Int32)) t).bind fun x31 =>
        (some (uI t 218 7 ((t.1 218 7) + ((1 : Int32))))).bind fun tt35 =>
        (rc 3 v1 tt35).bind fun tt40 =>
        Option.bind (
          if x31 = 0 then
            some ((10 : Int32))
          else
            some ((9 : Int32))) fun js41 =>
        (tX10_emit js41 ((0 : Int32)) tt40).bind fun tt45 =>
        tX10_whole_L5 rc n v1 tt45
def gtX10_products : Nat → Nat → Int32 → tS → Option (tS)
  | 0, _, _, _ => none
  | n + 1, tag, a1, t =>
    if tag = 0 then
      (gtX10_products n 2 a1 t).bind fun tt3 =>
      Option.bind (tX10_products_L5 (gtX10_products n) 4000 a1 tt3) fun tt17 =>
      some tt17
    else if tag = 1 then
      (gtX10_products n 0 a1 t).bind fun tt3 =>
      Option.bind (tX10_sums_L5 (gtX10_products n) 4000 a1 tt3) fun tt49 =>
      some tt49
    else if tag = 2 then
      if (t.1 218 8) ≤ 0 then
        (tA t 220 1002 (t.1 218 7)).bind fun x5 =>
        Option.bind (
          if ¬ x5 = ((2 : Int32)) then
            some ((0 : Int32))
          else
            some ((1 : Int32))) fun js7 =>
        (tX10_wordHere ((21 : Int32)) ((4 : Int32)) t).bind fun x10 =>
        Option.bind (
          if 0 ≤ x10 then
            if ¬ a1 = ((5 : Int32)) then
              some t
            else
              (tX10_wrong ((5 : Int32)) t).bind fun tt18 =>
              some tt18
          else
            if ¬ js7 = 0 then
              if ¬ a1 = ((5 : Int32)) then
                some t
              else
                (tX10_wrong ((5 : Int32)) t).bind fun tt23 =>
                some tt23
            else
              (tX10_isSign ((40 : Int32)) t).bind fun x25 =>
              if ¬ x25 = 0 then
                if ¬ a1 = ((5 : Int32)) then
                  some t
                else
                  (tX10_wrong ((5 : Int32)) t).bind fun tt31 =>
                  some tt31
              else
                (tX10_isWord ((18 : Int32)) t).bind fun x33 =>
                if ¬ x33 = 0 then
                  if ¬ a1 = ((5 : Int32)) then
                    some t
                  else
                    (tX10_wrong ((5 : Int32)) t).bind fun tt39 =>
                    some tt39
                else
                  (tX10_wrong ((1 : Int32)) t).bind fun tt42 =>
                  some tt42) fun tt13 =>
        if (tt13.1 218 8) ≤ 0 then
          am_b2 (tX10_hasWord ((18 : Int32)) tt13) fun x46 tt48 =>
          Option.bind (
            if x46 = 0 then
              am_b2 (tX10_hasSign ((40 : Int32)) tt48) fun x54 tt56 =>
              if x54 = 0 then
                Option.bind (
                  if js7 = 0 then
                    some ((2 : Int32))
                  else
                    some ((1 : Int32))) fun js59 =>
                Option.bind (
                  if js7 = 0 then
                    some x10
                  else
                    (tB tt56 222 1002 (tt56.1 218 7)).bind fun x65 =>
                    some x65.toInt32) fun js61 =>
                (tX10_emit js59 js61 tt56).bind fun tt69 =>
                (some (uI tt69 218 7 ((tt69.1 218 7) + ((1 : Int32))))).bind fun tt72 =>
                some tt72
              else
                (gtX10_products n 4 (a1 + ((1 : Int32))) tt56).bind fun tt81 =>
                (tX10_takeSign ((41 : Int32)) tt81).bind fun tt84 =>
                some tt84
            else
              (gtX10_products n 2 (a1 + ((1 : Int32))) tt48).bind fun tt87 =>
              (tX10_emit ((3 : Int32)) ((0 : Int32)) tt87).bind fun tt90 =>
              some tt90) fun tt51 =>
          some tt51
        else
          some tt13
      else
        some t
    else if tag = 3 then
      (gtX10_products n 1 a1 t).bind fun tt3 =>
      (tX10_isSign ((60 : Int32)) tt3).bind fun x5 =>
      am_b2 (tX10_hasSign ((60 : Int32)) tt3) fun x8 tt10 =>
      Option.bind (
        if ¬ x8 = 0 then
          (gtX10_products n 1 a1 tt10).bind fun tt17 =>
          Option.bind (
            if x5 = 0 then
              some ((8 : Int32))
            else
              some ((7 : Int32))) fun js18 =>
          (tX10_emit js18 ((0 : Int32)) tt17).bind fun tt22 =>
          some tt22
        else
          am_b2 (tX10_hasSign ((61 : Int32)) tt10) fun x26 tt28 =>
          if x26 = 0 then
            some tt28
          else
            (gtX10_products n 1 a1 tt28).bind fun tt33 =>
            Option.bind (
              if x5 = 0 then
                some ((8 : Int32))
              else
                some ((7 : Int32))) fun js34 =>
            (tX10_emit js34 ((0 : Int32)) tt33).bind fun tt38 =>
            some tt38) fun tt13 =>
      some tt13
    else if tag = 4 then
      (gtX10_products n 3 a1 t).bind fun tt3 =>
      Option.bind (tX10_whole_L5 (gtX10_products n) 4000 a1 tt3) fun tt49 =>
      some tt49
    else none
set_option maxHeartbeats 4000000 in
set_option maxRecDepth 100000 in
theorem sX10_products_L5 {rc1 : Nat → Nat → Int32 → am_H → Option (am_H)} {rc : Nat → Int32 → tS → Option (tS)} (hrc : am_TcX10_products rc1 rc) : ∀ (n : Nat) (v1 : Int32) (h : am_H) (t : tS) (t1 : tS), Rp h t → tX10_products_L5 rc n v1 t = some t1 → ex (fX10_products_L5 rc1 n 218 v1 h) (fun p => Rp p t1) := by
  intro n
  induction n with
  | zero => intro _ _ _ _ _ H; cases H
  | succ n ih =>
    intro v1 h t t1 hR_t H
    rw [tX10_products_L5] at H
    rw [fX10_products_L5]
    obtain ⟨x5, tt7, e4, H⟩ := am_bd2 H
    refine ex.j2 (sX10_hasSign hR_t  e4) (fun z8 hh6 hz => ?_)
    obtain ⟨rfl, hR_tt7⟩ : x5 = z8 ∧ Rp hh6 tt7 := hz
    by_cases c9 : x5 = 0
    · rw [if_pos c9] at H
      refine ex.t c9 ?_
      obtain rfl := Option.some.inj H
      exact ex.nd hR_tt7
    · rw [if_neg c9] at H
      refine ex.f c9 ?_
      obtain ⟨tt12, e10, H⟩ := am_bd H
      refine ex.j1 (hrc _ _ _ _ _ hR_tt7  e10) (fun hh11 hR_tt12 => ?_)
      obtain ⟨tt15, e13, H⟩ := am_bd H
      refine ex.j1 (sX10_emit hR_tt12  e13) (fun hh14 hR_tt15 => ?_)
      exact ih _ _ _ _ hR_tt15  H
set_option maxHeartbeats 4000000 in
set_option maxRecDepth 100000 in
theorem sX10_sums_L5 {rc1 : Nat → Nat → Int32 → am_H → Option (am_H)} {rc : Nat → Int32 → tS → Option (tS)} (hrc : am_TcX10_products rc1 rc) : ∀ (n : Nat) (v1 : Int32) (h : am_H) (t : tS) (t1 : tS), Rp h t → tX10_sums_L5 rc n v1 t = some t1 → ex (fX10_sums_L5 rc1 n 218 v1 h) (fun p => Rp p t1) := by
  intro n
  induction n with
  | zero => intro _ _ _ _ _ H; cases H
  | succ n ih =>
    intro v1 h t t1 hR_t H
    rw [tX10_sums_L5] at H
    rw [fX10_sums_L5]
    obtain ⟨x5, e4, H⟩ := am_bd H
    refine ex.j1 (sX10_isSign hR_t  e4) (fun z6 hz => ?_)
    obtain rfl : x5 = z6 := hz
    by_cases c7 : ¬ x5 = 0
    · rw [if_pos c7] at H
      refine ex.t c7 ?_
      obtain ⟨x9, e8, H⟩ := am_bd H
      refine ex.j1 (sX10_isSign hR_t  e8) (fun z10 hz => ?_)
      obtain rfl : x9 = z10 := hz
      refine ex.bd (r_gI hR_t lk9 rfl) ?_
      obtain ⟨tt13, et14, H⟩ := am_bd H
      obtain ⟨hh12, e15, hR_tt13⟩ := r_pI (k := 7) (x := (t.1 218 7) + ((1 : Int32))) hR_t lk9 rfl rfl
      rw [Option.some.inj et14] at hR_tt13
      refine ex.bd e15 ?_
      obtain ⟨tt18, e16, H⟩ := am_bd H
      refine ex.j1 (hrc _ _ _ _ _ hR_tt13  e16) (fun hh17 hR_tt18 => ?_)
      obtain ⟨js19, E24, H⟩ := am_bd H
      refine ex.j1 (Q := fun p => js19 = p) ?_ (fun z25 hq => ?_)
      · clear H
        have H := E24
        clear E24
        by_cases c20 : x9 = 0
        · rw [if_pos c20] at H
          refine ex.t c20 ?_
          obtain rfl := Option.some.inj H
          exact ex.nd rfl
        · rw [if_neg c20] at H
          refine ex.f c20 ?_
          obtain rfl := Option.some.inj H
          exact ex.nd rfl
      · clear E24
        obtain rfl : js19 = z25 := hq
        obtain ⟨tt23, e21, H⟩ := am_bd H
        refine ex.j1 (sX10_emit hR_tt18  e21) (fun hh22 hR_tt23 => ?_)
        exact ih _ _ _ _ hR_tt23  H
    · rw [if_neg c7] at H
      refine ex.f c7 ?_
      obtain ⟨x27, e26, H⟩ := am_bd H
      refine ex.j1 (sX10_isSign hR_t  e26) (fun z28 hz => ?_)
      obtain rfl : x27 = z28 := hz
      by_cases c29 : x27 = 0
      · rw [if_pos c29] at H
        refine ex.t c29 ?_
        obtain rfl := Option.some.inj H
        exact ex.nd hR_t
      · rw [if_neg c29] at H
        refine ex.f c29 ?_
        obtain ⟨x31, e30, H⟩ := am_bd H
        refine ex.j1 (sX10_isSign hR_t  e30) (fun z32 hz => ?_)
        obtain rfl : x31 = z32 := hz
        refine ex.bd (r_gI hR_t lk9 rfl) ?_
        obtain ⟨tt35, et36, H⟩ := am_bd H
        obtain ⟨hh34, e37, hR_tt35⟩ := r_pI (k := 7) (x := (t.1 218 7) + ((1 : Int32))) hR_t lk9 rfl rfl
        rw [Option.some.inj et36] at hR_tt35
        refine ex.bd e37 ?_
        obtain ⟨tt40, e38, H⟩ := am_bd H
        refine ex.j1 (hrc _ _ _ _ _ hR_tt35  e38) (fun hh39 hR_tt40 => ?_)
        obtain ⟨js41, E46, H⟩ := am_bd H
        refine ex.j1 (Q := fun p => js41 = p) ?_ (fun z47 hq => ?_)
        · clear H
          have H := E46
          clear E46
          by_cases c42 : x31 = 0
          · rw [if_pos c42] at H
            refine ex.t c42 ?_
            obtain rfl := Option.some.inj H
            exact ex.nd rfl
          · rw [if_neg c42] at H
            refine ex.f c42 ?_
            obtain rfl := Option.some.inj H
            exact ex.nd rfl
        · clear E46
          obtain rfl : js41 = z47 := hq
          obtain ⟨tt45, e43, H⟩ := am_bd H
          refine ex.j1 (sX10_emit hR_tt40  e43) (fun hh44 hR_tt45 => ?_)
          exact ih _ _ _ _ hR_tt45  H
set_option maxHeartbeats 4000000 in
set_option maxRecDepth 100000 in
theorem sX10_whole_L5 {rc1 : Nat → Nat → Int32 → am_H → Option (am_H)} {rc : Nat → Int32 → tS → Option (tS)} (hrc : am_TcX10_products rc1 rc) : ∀ (n : Nat) (v1 : Int32) (h : am_H) (t : tS) (t1 : tS), Rp h t → tX10_whole_L5 rc n v1 t = some t1 → ex (fX10_whole_L5 rc1 n 218 v1 h) (fun p => Rp p t1) := by
  intro n
  induction n with
  | zero => intro _ _ _ _ _ H; cases H
  | succ n ih =>
    intro v1 h t t1 hR_t H
    rw [tX10_whole_L5] at H
    rw [fX10_whole_L5]
    obtain ⟨x5, e4, H⟩ := am_bd H
    refine ex.j1 (sX10_isWord hR_t  e4) (fun z6 hz => ?_)
    obtain rfl : x5 = z6 := hz
    by_cases c7 : ¬ x5 = 0
    · rw [if_pos c7] at H
      refine ex.t c7 ?_
      obtain ⟨x9, e8, H⟩ := am_bd H
      refine ex.j1 (sX10_isWord hR_t  e8) (fun z10 hz => ?_)
      obtain rfl : x9 = z10 := hz
      refine ex.bd (r_gI hR_t lk9 rfl) ?_
      obtain ⟨tt13, et14, H⟩ := am_bd H
      obtain ⟨hh12, e15, hR_tt13⟩ := r_pI (k := 7) (x := (t.1 218 7) + ((1 : Int32))) hR_t lk9 rfl rfl
      rw [Option.some.inj et14] at hR_tt13
      refine ex.bd e15 ?_
      obtain ⟨tt18, e16, H⟩ := am_bd H
      refine ex.j1 (hrc _ _ _ _ _ hR_tt13  e16) (fun hh17 hR_tt18 => ?_)
      obtain ⟨js19, E24, H⟩ := am_bd H
      refine ex.j1 (Q := fun p => js19 = p) ?_ (fun z25 hq => ?_)
      · clear H
        have H := E24
        clear E24
        by_cases c20 : x9 = 0
        · rw [if_pos c20] at H
          refine ex.t c20 ?_
          obtain rfl := Option.some.inj H
          exact ex.nd rfl
        · rw [if_neg c20] at H
          refine ex.f c20 ?_
          obtain rfl := Option.some.inj H
          exact ex.nd rfl
      · clear E24
        obtain rfl : js19 = z25 := hq
        obtain ⟨tt23, e21, H⟩ := am_bd H
        refine ex.j1 (sX10_emit hR_tt18  e21) (fun hh22 hR_tt23 => ?_)
        exact ih _ _ _ _ hR_tt23  H
    · rw [if_neg c7] at H
      refine ex.f c7 ?_
      obtain ⟨x27, e26, H⟩ := am_bd H
      refine ex.j1 (sX10_isWord hR_t  e26) (fun z28 hz => ?_)
      obtain rfl : x27 = z28 := hz
      by_cases c29 : x27 = 0
      · rw [if_pos c29] at H
        refine ex.t c29 ?_
        obtain rfl := Option.some.inj H
        exact ex.nd hR_t
      · rw [if_neg c29] at H
        refine ex.f c29 ?_
        obtain ⟨x31, e30, H⟩ := am_bd H
        refine ex.j1 (sX10_isWord hR_t  e30) (fun z32 hz => ?_)
        obtain rfl : x31 = z32 := hz
        refine ex.bd (r_gI hR_t lk9 rfl) ?_
        obtain ⟨tt35, et36, H⟩ := am_bd H
        obtain ⟨hh34, e37, hR_tt35⟩ := r_pI (k := 7) (x := (t.1 218 7) + ((1 : Int32))) hR_t lk9 rfl rfl
        rw [Option.some.inj et36] at hR_tt35
        refine ex.bd e37 ?_
        obtain ⟨tt40, e38, H⟩ := am_bd H
        refine ex.j1 (hrc _ _ _ _ _ hR_tt35  e38) (fun hh39 hR_tt40 => ?_)
        obtain ⟨js41, E46, H⟩ := am_bd H
        refine ex.j1 (Q := fun p => js41 = p) ?_ (fun z47 hq => ?_)
        · clear H
          have H := E46
          clear E46
          by_cases c42 : x31 = 0
          · rw [if_pos c42] at H
            refine ex.t c42 ?_
            obtain rfl := Option.some.inj H
            exact ex.nd rfl
          · rw [if_neg c42] at H
            refine ex.f c42 ?_
            obtain rfl := Option.some.inj H
            exact ex.nd rfl
        · clear E46
          obtain rfl : js41 = z47 := hq
          obtain ⟨tt45, e43, H⟩ := am_bd H
          refine ex.j1 (sX10_emit hR_tt40  e43) (fun hh44 hR_tt45 => ?_)
          exact ih _ _ _ _ hR_tt45  H
set_option maxHeartbeats 8000000 in
set_option maxRecDepth 100000 in
theorem sgX10_products : ∀ n, am_TcX10_products (gX10_products n) (gtX10_products n) := by
  intro n
  induction n with
  | zero => intro _ _ _ _ _ _ H; cases H
  | succ n hrc =>
    intro tag a1 h t t1 hR_t  H
    rw [gtX10_products] at H
    rw [gX10_products]
    by_cases kt0 : tag = 0
    · rw [if_pos kt0] at H
      refine ex.t kt0 ?_
      refine ex.bd (r_isO hR_t lk9) ?_
      obtain ⟨tt3, e1, H⟩ := am_bd H
      refine ex.j1 (hrc _ _ _ _ _ hR_t  e1) (fun hh2 hR_tt3 => ?_)
      obtain ⟨tt17, E18, H⟩ := am_bd H
      refine ex.j1 (sX10_products_L5 hrc _ _ _ _ _ hR_tt3  E18) (fun hh16 hq => ?_)
      clear E18
      have hR_tt17 : Rp hh16 tt17 := hq
      obtain rfl := Option.some.inj H
      exact ex.nd hR_tt17
    · rw [if_neg kt0] at H
      refine ex.f kt0 ?_
      by_cases kt1 : tag = 1
      · rw [if_pos kt1] at H
        refine ex.t kt1 ?_
        refine ex.bd (r_isO hR_t lk9) ?_
        obtain ⟨tt3, e1, H⟩ := am_bd H
        refine ex.j1 (hrc _ _ _ _ _ hR_t  e1) (fun hh2 hR_tt3 => ?_)
        obtain ⟨tt49, E50, H⟩ := am_bd H
        refine ex.j1 (sX10_sums_L5 hrc _ _ _ _ _ hR_tt3  E50) (fun hh48 hq => ?_)
        clear E50
        have hR_tt49 : Rp hh48 tt49 := hq
        obtain rfl := Option.some.inj H
        exact ex.nd hR_tt49
      · rw [if_neg kt1] at H
        refine ex.f kt1 ?_
        by_cases kt2 : tag = 2
        · rw [if_pos kt2] at H
          refine ex.t kt2 ?_
          refine ex.bd (r_isO hR_t lk9) ?_
          refine ex.bd (r_gI hR_t lk9 rfl) ?_
          by_cases c2 : (t.1 218 8) ≤ 0
          · rw [if_pos c2] at H
            refine ex.t c2 ?_
            refine ex.bd (r_gR hR_t lk9 rfl) ?_
            refine ex.bd (r_gI hR_t lk9 rfl) ?_
            obtain ⟨x5, e6, H⟩ := am_bd H
            refine ex.bd (r_aI hR_t (la9_4 (a := 218) (by decide)) e6) ?_
            obtain ⟨js7, E93, H⟩ := am_bd H
            refine ex.j1 (Q := fun p => js7 = p) ?_ (fun z94 hq => ?_)
            · clear H
              have H := E93
              clear E93
              by_cases c8 : ¬ x5 = ((2 : Int32))
              · rw [if_pos c8] at H
                refine ex.t c8 ?_
                obtain rfl := Option.some.inj H
                exact ex.nd rfl
              · rw [if_neg c8] at H
                refine ex.f c8 ?_
                obtain rfl := Option.some.inj H
                exact ex.nd rfl
            · clear E93
              obtain rfl : js7 = z94 := hq
              obtain ⟨x10, e9, H⟩ := am_bd H
              refine ex.j1 (sX10_wordHere hR_t  e9) (fun z11 hz => ?_)
              obtain rfl : x10 = z11 := hz
              obtain ⟨tt13, E92, H⟩ := am_bd H
              refine ex.j1 (Q := fun p => Rp p tt13) ?_ (fun hh12 hq => ?_)
              · clear H
                have H := E92
                clear E92
                by_cases c14 : 0 ≤ x10
                · rw [if_pos c14] at H
                  refine ex.t c14 ?_
                  by_cases c15 : ¬ a1 = ((5 : Int32))
                  · rw [if_pos c15] at H
                    refine ex.t c15 ?_
                    obtain rfl := Option.some.inj H
                    exact ex.nd hR_t
                  · rw [if_neg c15] at H
                    refine ex.f c15 ?_
                    obtain ⟨tt18, e16, H⟩ := am_bd H
                    refine ex.j1 (sX10_wrong hR_t  e16) (fun hh17 hR_tt18 => ?_)
                    obtain rfl := Option.some.inj H
                    exact ex.nd hR_tt18
                · rw [if_neg c14] at H
                  refine ex.f c14 ?_
                  by_cases c19 : ¬ js7 = 0
                  · rw [if_pos c19] at H
                    refine ex.t c19 ?_
                    by_cases c20 : ¬ a1 = ((5 : Int32))
                    · rw [if_pos c20] at H
                      refine ex.t c20 ?_
                      obtain rfl := Option.some.inj H
                      exact ex.nd hR_t
                    · rw [if_neg c20] at H
                      refine ex.f c20 ?_
                      obtain ⟨tt23, e21, H⟩ := am_bd H
                      refine ex.j1 (sX10_wrong hR_t  e21) (fun hh22 hR_tt23 => ?_)
                      obtain rfl := Option.some.inj H
                      exact ex.nd hR_tt23
                  · rw [if_neg c19] at H
                    refine ex.f c19 ?_
                    obtain ⟨x25, e24, H⟩ := am_bd H
                    refine ex.j1 (sX10_isSign hR_t  e24) (fun z26 hz => ?_)
                    obtain rfl : x25 = z26 := hz
                    by_cases c27 : ¬ x25 = 0
                    · rw [if_pos c27] at H
                      refine ex.t c27 ?_
                      by_cases c28 : ¬ a1 = ((5 : Int32))
                      · rw [if_pos c28] at H
                        refine ex.t c28 ?_
                        obtain rfl := Option.some.inj H
                        exact ex.nd hR_t
                      · rw [if_neg c28] at H
                        refine ex.f c28 ?_
                        obtain ⟨tt31, e29, H⟩ := am_bd H
                        refine ex.j1 (sX10_wrong hR_t  e29) (fun hh30 hR_tt31 => ?_)
                        obtain rfl := Option.some.inj H
                        exact ex.nd hR_tt31
                    · rw [if_neg c27] at H
                      refine ex.f c27 ?_
                      obtain ⟨x33, e32, H⟩ := am_bd H
                      refine ex.j1 (sX10_isWord hR_t  e32) (fun z34 hz => ?_)
                      obtain rfl : x33 = z34 := hz
                      by_cases c35 : ¬ x33 = 0
                      · rw [if_pos c35] at H
                        refine ex.t c35 ?_
                        by_cases c36 : ¬ a1 = ((5 : Int32))
                        · rw [if_pos c36] at H
                          refine ex.t c36 ?_
                          obtain rfl := Option.some.inj H
                          exact ex.nd hR_t
                        · rw [if_neg c36] at H
                          refine ex.f c36 ?_
                          obtain ⟨tt39, e37, H⟩ := am_bd H
                          refine ex.j1 (sX10_wrong hR_t  e37) (fun hh38 hR_tt39 => ?_)
                          obtain rfl := Option.some.inj H
                          exact ex.nd hR_tt39
                      · rw [if_neg c35] at H
                        refine ex.f c35 ?_
                        obtain ⟨tt42, e40, H⟩ := am_bd H
                        refine ex.j1 (sX10_wrong hR_t  e40) (fun hh41 hR_tt42 => ?_)
                        obtain rfl := Option.some.inj H
                        exact ex.nd hR_tt42
              · clear E92
                have hR_tt13 : Rp hh12 tt13 := hq
                refine ex.bd (r_gI hR_tt13 lk9 rfl) ?_
                by_cases c44 : (tt13.1 218 8) ≤ 0
                · rw [if_pos c44] at H
                  refine ex.t c44 ?_
                  obtain ⟨x46, tt48, e45, H⟩ := am_bd2 H
                  refine ex.j2 (sX10_hasWord hR_tt13  e45) (fun z49 hh47 hz => ?_)
                  obtain ⟨rfl, hR_tt48⟩ : x46 = z49 ∧ Rp hh47 tt48 := hz
                  obtain ⟨tt51, E91, H⟩ := am_bd H
                  refine ex.j1 (Q := fun p => Rp p tt51) ?_ (fun hh50 hq => ?_)
                  · clear H
                    have H := E91
                    clear E91
                    by_cases c52 : x46 = 0
                    · rw [if_pos c52] at H
                      refine ex.t c52 ?_
                      obtain ⟨x54, tt56, e53, H⟩ := am_bd2 H
                      refine ex.j2 (sX10_hasSign hR_tt48  e53) (fun z57 hh55 hz => ?_)
                      obtain ⟨rfl, hR_tt56⟩ : x54 = z57 ∧ Rp hh55 tt56 := hz
                      by_cases c58 : x54 = 0
                      · rw [if_pos c58] at H
                        refine ex.t c58 ?_
                        obtain ⟨js59, E77, H⟩ := am_bd H
                        refine ex.j1 (Q := fun p => js59 = p) ?_ (fun z78 hq => ?_)
                        · clear H
                          have H := E77
                          clear E77
                          by_cases c60 : js7 = 0
                          · rw [if_pos c60] at H
                            refine ex.t c60 ?_
                            obtain rfl := Option.some.inj H
                            exact ex.nd rfl
                          · rw [if_neg c60] at H
                            refine ex.f c60 ?_
                            obtain rfl := Option.some.inj H
                            exact ex.nd rfl
                        · clear E77
                          obtain rfl : js59 = z78 := hq
                          obtain ⟨js61, E75, H⟩ := am_bd H
                          refine ex.j1 (Q := fun p => js61 = p) ?_ (fun z76 hq => ?_)
                          · clear H
                            have H := E75
                            clear E75
                            by_cases c62 : js7 = 0
                            · rw [if_pos c62] at H
                              refine ex.t c62 ?_
                              obtain rfl := Option.some.inj H
                              exact ex.nd rfl
                            · rw [if_neg c62] at H
                              refine ex.f c62 ?_
                              refine ex.bd (r_gR hR_tt56 lk9 rfl) ?_
                              refine ex.bd (r_gI hR_tt56 lk9 rfl) ?_
                              obtain ⟨x65, e66, H⟩ := am_bd H
                              refine ex.bd (r_aL hR_tt56 (la9_6 (a := 218) (by decide)) e66) ?_
                              obtain rfl := Option.some.inj H
                              exact ex.nd rfl
                          · clear E75
                            obtain rfl : js61 = z76 := hq
                            obtain ⟨tt69, e67, H⟩ := am_bd H
                            refine ex.j1 (sX10_emit hR_tt56  e67) (fun hh68 hR_tt69 => ?_)
                            refine ex.bd (r_gI hR_tt69 lk9 rfl) ?_
                            obtain ⟨tt72, et73, H⟩ := am_bd H
                            obtain ⟨hh71, e74, hR_tt72⟩ := r_pI (k := 7) (x := (tt69.1 218 7) + ((1 : Int32))) hR_tt69 lk9 rfl rfl
                            rw [Option.some.inj et73] at hR_tt72
                            refine ex.bd e74 ?_
                            obtain rfl := Option.some.inj H
                            exact ex.nd hR_tt72
                      · rw [if_neg c58] at H
                        refine ex.f c58 ?_
                        obtain ⟨tt81, e79, H⟩ := am_bd H
                        refine ex.j1 (hrc _ _ _ _ _ hR_tt56  e79) (fun hh80 hR_tt81 => ?_)
                        obtain ⟨tt84, e82, H⟩ := am_bd H
                        refine ex.j1 (sX10_takeSign hR_tt81  e82) (fun hh83 hR_tt84 => ?_)
                        obtain rfl := Option.some.inj H
                        exact ex.nd hR_tt84
                    · rw [if_neg c52] at H
                      refine ex.f c52 ?_
                      obtain ⟨tt87, e85, H⟩ := am_bd H
                      refine ex.j1 (hrc _ _ _ _ _ hR_tt48  e85) (fun hh86 hR_tt87 => ?_)
                      obtain ⟨tt90, e88, H⟩ := am_bd H
                      refine ex.j1 (sX10_emit hR_tt87  e88) (fun hh89 hR_tt90 => ?_)
                      obtain rfl := Option.some.inj H
                      exact ex.nd hR_tt90
                  · clear E91
                    have hR_tt51 : Rp hh50 tt51 := hq
                    obtain rfl := Option.some.inj H
                    exact ex.nd hR_tt51
                · rw [if_neg c44] at H
                  refine ex.f c44 ?_
                  obtain rfl := Option.some.inj H
                  exact ex.nd hR_tt13
          · rw [if_neg c2] at H
            refine ex.f c2 ?_
            obtain rfl := Option.some.inj H
            exact ex.nd hR_t
        · rw [if_neg kt2] at H
          refine ex.f kt2 ?_
          by_cases kt3 : tag = 3
          · rw [if_pos kt3] at H
            refine ex.t kt3 ?_
            refine ex.bd (r_isO hR_t lk9) ?_
            obtain ⟨tt3, e1, H⟩ := am_bd H
            refine ex.j1 (hrc _ _ _ _ _ hR_t  e1) (fun hh2 hR_tt3 => ?_)
            obtain ⟨x5, e4, H⟩ := am_bd H
            refine ex.j1 (sX10_isSign hR_tt3  e4) (fun z6 hz => ?_)
            obtain rfl : x5 = z6 := hz
            obtain ⟨x8, tt10, e7, H⟩ := am_bd2 H
            refine ex.j2 (sX10_hasSign hR_tt3  e7) (fun z11 hh9 hz => ?_)
            obtain ⟨rfl, hR_tt10⟩ : x8 = z11 ∧ Rp hh9 tt10 := hz
            obtain ⟨tt13, E41, H⟩ := am_bd H
            refine ex.j1 (Q := fun p => Rp p tt13) ?_ (fun hh12 hq => ?_)
            · clear H
              have H := E41
              clear E41
              by_cases c14 : ¬ x8 = 0
              · rw [if_pos c14] at H
                refine ex.t c14 ?_
                obtain ⟨tt17, e15, H⟩ := am_bd H
                refine ex.j1 (hrc _ _ _ _ _ hR_tt10  e15) (fun hh16 hR_tt17 => ?_)
                obtain ⟨js18, E23, H⟩ := am_bd H
                refine ex.j1 (Q := fun p => js18 = p) ?_ (fun z24 hq => ?_)
                · clear H
                  have H := E23
                  clear E23
                  by_cases c19 : x5 = 0
                  · rw [if_pos c19] at H
                    refine ex.t c19 ?_
                    obtain rfl := Option.some.inj H
                    exact ex.nd rfl
                  · rw [if_neg c19] at H
                    refine ex.f c19 ?_
                    obtain rfl := Option.some.inj H
                    exact ex.nd rfl
                · clear E23
                  obtain rfl : js18 = z24 := hq
                  obtain ⟨tt22, e20, H⟩ := am_bd H
                  refine ex.j1 (sX10_emit hR_tt17  e20) (fun hh21 hR_tt22 => ?_)
                  obtain rfl := Option.some.inj H
                  exact ex.nd hR_tt22
              · rw [if_neg c14] at H
                refine ex.f c14 ?_
                obtain ⟨x26, tt28, e25, H⟩ := am_bd2 H
                refine ex.j2 (sX10_hasSign hR_tt10  e25) (fun z29 hh27 hz => ?_)
                obtain ⟨rfl, hR_tt28⟩ : x26 = z29 ∧ Rp hh27 tt28 := hz
                by_cases c30 : x26 = 0
                · rw [if_pos c30] at H
                  refine ex.t c30 ?_
                  obtain rfl := Option.some.inj H
                  exact ex.nd hR_tt28
                · rw [if_neg c30] at H
                  refine ex.f c30 ?_
                  obtain ⟨tt33, e31, H⟩ := am_bd H
                  refine ex.j1 (hrc _ _ _ _ _ hR_tt28  e31) (fun hh32 hR_tt33 => ?_)
                  obtain ⟨js34, E39, H⟩ := am_bd H
                  refine ex.j1 (Q := fun p => js34 = p) ?_ (fun z40 hq => ?_)
                  · clear H
                    have H := E39
                    clear E39
                    by_cases c35 : x5 = 0
                    · rw [if_pos c35] at H
                      refine ex.t c35 ?_
                      obtain rfl := Option.some.inj H
                      exact ex.nd rfl
                    · rw [if_neg c35] at H
                      refine ex.f c35 ?_
                      obtain rfl := Option.some.inj H
                      exact ex.nd rfl
                  · clear E39
                    obtain rfl : js34 = z40 := hq
                    obtain ⟨tt38, e36, H⟩ := am_bd H
                    refine ex.j1 (sX10_emit hR_tt33  e36) (fun hh37 hR_tt38 => ?_)
                    obtain rfl := Option.some.inj H
                    exact ex.nd hR_tt38
            · clear E41
              have hR_tt13 : Rp hh12 tt13 := hq
              obtain rfl := Option.some.inj H
              exact ex.nd hR_tt13
          · rw [if_neg kt3] at H
            refine ex.f kt3 ?_
            by_cases kt4 : tag = 4
            · rw [if_pos kt4] at H
              refine ex.t kt4 ?_
              refine ex.bd (r_isO hR_t lk9) ?_
              obtain ⟨tt3, e1, H⟩ := am_bd H
              refine ex.j1 (hrc _ _ _ _ _ hR_t  e1) (fun hh2 hR_tt3 => ?_)
              obtain ⟨tt49, E50, H⟩ := am_bd H
              refine ex.j1 (sX10_whole_L5 hrc _ _ _ _ _ hR_tt3  E50) (fun hh48 hq => ?_)
              clear E50
              have hR_tt49 : Rp hh48 tt49 := hq
              obtain rfl := Option.some.inj H
              exact ex.nd hR_tt49
            · rw [if_neg kt4] at H
              refine ex.f kt4 ?_
              cases H
def tX10_products (n : Nat) (a1 : Int32) (t : tS) : Option (tS) := gtX10_products n 0 a1 t
theorem sX10_products {n : Nat} {a1 : Int32} {h : am_H} {t : tS} {t1 : tS} (hR : Rp h t)  (H : tX10_products n a1 t = some t1) : ex (fX10_products n 218 a1 h) (fun h1 => Rp h1 t1) := sgX10_products n 0 a1 h t t1 hR  H
def tX10_sums (n : Nat) (a1 : Int32) (t : tS) : Option (tS) := gtX10_products n 1 a1 t
theorem sX10_sums {n : Nat} {a1 : Int32} {h : am_H} {t : tS} {t1 : tS} (hR : Rp h t)  (H : tX10_sums n a1 t = some t1) : ex (fX10_sums n 218 a1 h) (fun h1 => Rp h1 t1) := sgX10_products n 1 a1 h t t1 hR  H
def tX10_takePart (n : Nat) (a1 : Int32) (t : tS) : Option (tS) := gtX10_products n 2 a1 t
theorem sX10_takePart {n : Nat} {a1 : Int32} {h : am_H} {t : tS} {t1 : tS} (hR : Rp h t)  (H : tX10_takePart n a1 t = some t1) : ex (fX10_takePart n 218 a1 h) (fun h1 => Rp h1 t1) := sgX10_products n 2 a1 h t t1 hR  H
def tX10_test (n : Nat) (a1 : Int32) (t : tS) : Option (tS) := gtX10_products n 3 a1 t
theorem sX10_test {n : Nat} {a1 : Int32} {h : am_H} {t : tS} {t1 : tS} (hR : Rp h t)  (H : tX10_test n a1 t = some t1) : ex (fX10_test n 218 a1 h) (fun h1 => Rp h1 t1) := sgX10_products n 3 a1 h t t1 hR  H
def tX10_whole (n : Nat) (a1 : Int32) (t : tS) : Option (tS) := gtX10_products n 4 a1 t
theorem sX10_whole {n : Nat} {a1 : Int32} {h : am_H} {t : tS} {t1 : tS} (hR : Rp h t)  (H : tX10_whole n a1 t = some t1) : ex (fX10_whole n 218 a1 h) (fun h1 => Rp h1 t1) := sgX10_products n 4 a1 h t t1 hR  H
def tX10_readOnce  (t : tS) : Option (tS) :=
  (tX10_wordHere ((8 : Int32)) ((2 : Int32)) t).bind fun x2 =>
  Option.bind (
    if 0 ≤ x2 then
      if ¬ (((t.1 218 20) >>> (x2 &&& 31)) &&& ((1 : Int32))) = ((1 : Int32)) then
        some t
      else
        (tX10_wrong ((3 : Int32)) t).bind fun tt11 =>
        some tt11
    else
      (tX10_wrong ((1 : Int32)) t).bind fun tt14 =>
      some tt14) fun tt5 =>
  if (tt5.1 218 8) ≤ 0 then
    (some (uI tt5 218 20 ((tt5.1 218 20) ||| (((1 : Int32)) <<< (x2 &&& 31))))).bind fun tt19 =>
    (some (uI tt19 218 7 ((tt19.1 218 7) + ((1 : Int32))))).bind fun tt24 =>
    Option.bind (
      if ¬ x2 = 0 then
        (tWA tt24 0 224 100 ((53 : Int32)) (tt24.1 218 13)).bind fun tt33 =>
        (tX10_whole 60 ((0 : Int32)) tt33).bind fun tt38 =>
        (tX10_emit ((0 : Int32)) ((0 : Int32)) tt38).bind fun tt41 =>
        some tt41
      else
        am_b2 (tX10_takeNumber ((1 : Int32)) ((4 : Int32)) tt24) fun x44 tt46 =>
        (tWA tt46 0 224 100 ((52 : Int32)) x44).bind fun tt49 =>
        some tt49) fun tt28 =>
    some tt28
  else
    some tt5
set_option maxHeartbeats 4000000 in
set_option maxRecDepth 100000 in
theorem sX10_readOnce  {h : am_H} {t : tS} {t1 : tS} (hR_t : Rp h t)  (H : tX10_readOnce  t = some t1) : ex (fX10_readOnce 218 h) (fun h1 => Rp h1 t1) := by
  unfold tX10_readOnce at H
  unfold fX10_readOnce
  refine ex.bd (r_isO hR_t lk9) ?_
  obtain ⟨x2, e1, H⟩ := am_bd H
  refine ex.j1 (sX10_wordHere hR_t  e1) (fun z3 hz => ?_)
  obtain rfl : x2 = z3 := hz
  obtain ⟨tt5, E53, H⟩ := am_bd H
  refine ex.j1 (Q := fun p => Rp p tt5) ?_ (fun hh4 hq => ?_)
  · clear H
    have H := E53
    clear E53
    by_cases c6 : 0 ≤ x2
    · rw [if_pos c6] at H
      refine ex.t c6 ?_
      refine ex.bd (r_gI hR_t lk9 rfl) ?_
      by_cases c8 : ¬ (((t.1 218 20) >>> (x2 &&& 31)) &&& ((1 : Int32))) = ((1 : Int32))
      · rw [if_pos c8] at H
        refine ex.t c8 ?_
        obtain rfl := Option.some.inj H
        exact ex.nd hR_t
      · rw [if_neg c8] at H
        refine ex.f c8 ?_
        obtain ⟨tt11, e9, H⟩ := am_bd H
        refine ex.j1 (sX10_wrong hR_t  e9) (fun hh10 hR_tt11 => ?_)
        obtain rfl := Option.some.inj H
        exact ex.nd hR_tt11
    · rw [if_neg c6] at H
      refine ex.f c6 ?_
      obtain ⟨tt14, e12, H⟩ := am_bd H
      refine ex.j1 (sX10_wrong hR_t  e12) (fun hh13 hR_tt14 => ?_)
      obtain rfl := Option.some.inj H
      exact ex.nd hR_tt14
  · clear E53
    have hR_tt5 : Rp hh4 tt5 := hq
    refine ex.bd (r_gI hR_tt5 lk9 rfl) ?_
    by_cases c16 : (tt5.1 218 8) ≤ 0
    · rw [if_pos c16] at H
      refine ex.t c16 ?_
      refine ex.bd (r_gI hR_tt5 lk9 rfl) ?_
      obtain ⟨tt19, et20, H⟩ := am_bd H
      obtain ⟨hh18, e21, hR_tt19⟩ := r_pI (k := 20) (x := (tt5.1 218 20) ||| (((1 : Int32)) <<< (x2 &&& 31))) hR_tt5 lk9 rfl rfl
      rw [Option.some.inj et20] at hR_tt19
      refine ex.bd e21 ?_
      refine ex.bd (r_gI hR_tt19 lk9 rfl) ?_
      obtain ⟨tt24, et25, H⟩ := am_bd H
      obtain ⟨hh23, e26, hR_tt24⟩ := r_pI (k := 7) (x := (tt19.1 218 7) + ((1 : Int32))) hR_tt19 lk9 rfl rfl
      rw [Option.some.inj et25] at hR_tt24
      refine ex.bd e26 ?_
      obtain ⟨tt28, E52, H⟩ := am_bd H
      refine ex.j1 (Q := fun p => Rp p tt28) ?_ (fun hh27 hq => ?_)
      · clear H
        have H := E52
        clear E52
        by_cases c29 : ¬ x2 = 0
        · rw [if_pos c29] at H
          refine ex.t c29 ?_
          refine ex.bd (r_gR hR_tt24 lk9 rfl) ?_
          refine ex.bd (r_gI hR_tt24 lk9 rfl) ?_
          obtain ⟨tt33, e34, H⟩ := am_bd H
          obtain ⟨hh32, e35, hR_tt33⟩ := r_sI hR_tt24 (la9_10 (a := 218) (by decide)) e34
          refine ex.bd e35 ?_
          obtain ⟨tt38, e36, H⟩ := am_bd H
          refine ex.j1 (sX10_whole hR_tt33  e36) (fun hh37 hR_tt38 => ?_)
          obtain ⟨tt41, e39, H⟩ := am_bd H
          refine ex.j1 (sX10_emit hR_tt38  e39) (fun hh40 hR_tt41 => ?_)
          obtain rfl := Option.some.inj H
          exact ex.nd hR_tt41
        · rw [if_neg c29] at H
          refine ex.f c29 ?_
          refine ex.bd (r_gR hR_tt24 lk9 rfl) ?_
          obtain ⟨x44, tt46, e43, H⟩ := am_bd2 H
          refine ex.j2 (sX10_takeNumber hR_tt24  e43) (fun z47 hh45 hz => ?_)
          obtain ⟨rfl, hR_tt46⟩ : x44 = z47 ∧ Rp hh45 tt46 := hz
          obtain ⟨tt49, e50, H⟩ := am_bd H
          obtain ⟨hh48, e51, hR_tt49⟩ := r_sI hR_tt46 (la9_10 (a := 218) (by decide)) e50
          refine ex.bd e51 ?_
          obtain rfl := Option.some.inj H
          exact ex.nd hR_tt49
      · clear E52
        have hR_tt28 : Rp hh27 tt28 := hq
        obtain rfl := Option.some.inj H
        exact ex.nd hR_tt28
    · rw [if_neg c16] at H
      refine ex.f c16 ?_
      obtain rfl := Option.some.inj H
      exact ex.nd hR_tt5
def tX10_readLine  (t : tS) : Option (tS) :=
  (tX10_isWord ((0 : Int32)) t).bind fun x2 =>
  Option.bind (
    if x2 = 0 then
      (tX10_isWord ((3 : Int32)) t).bind fun x8 =>
      if x8 = 0 then
        (tX10_isWord ((2 : Int32)) t).bind fun x12 =>
        if x12 = 0 then
          (tX10_isWord ((7 : Int32)) t).bind fun x16 =>
          if x16 = 0 then
            (tX10_readOnce  t).bind fun tt21 =>
            some tt21
          else
            (tX10_readPair ((20 : Int32)) ((16 : Int32)) ((5 : Int32)) t).bind fun tt24 =>
            some tt24
        else
          (tX10_readPair ((0 : Int32)) ((5 : Int32)) ((2 : Int32)) t).bind fun tt27 =>
          some tt27
      else
        (tX10_readDay  t).bind fun tt30 =>
        some tt30
    else
      (tA t 224 100 ((50 : Int32))).bind fun x32 =>
      (tX10_readName ((0 : Int32)) ((4 : Int32)) ((0 : Int32)) t).bind fun tt36 =>
      am_b2 (tX10_takeAfter ((1 : Int32)) ((1 : Int32)) ((6 : Int32)) tt36) fun x38 tt40 =>
      Option.bind (
        if ¬ (tt40.1 218 8) = 0 then
          some tt40
        else
          (tWA tt40 0 224 100 (((54 : Int32)) + (((2 : Int32)) * x32)) x38).bind fun tt48 =>
          some tt48) fun tt44 =>
      some tt44) fun tt5 =>
  some tt5
set_option maxHeartbeats 4000000 in
set_option maxRecDepth 100000 in
theorem sX10_readLine  {h : am_H} {t : tS} {t1 : tS} (hR_t : Rp h t)  (H : tX10_readLine  t = some t1) : ex (fX10_readLine 218 h) (fun h1 => Rp h1 t1) := by
  unfold tX10_readLine at H
  unfold fX10_readLine
  refine ex.bd (r_isO hR_t lk9) ?_
  obtain ⟨x2, e1, H⟩ := am_bd H
  refine ex.j1 (sX10_isWord hR_t  e1) (fun z3 hz => ?_)
  obtain rfl : x2 = z3 := hz
  obtain ⟨tt5, E52, H⟩ := am_bd H
  refine ex.j1 (Q := fun p => Rp p tt5) ?_ (fun hh4 hq => ?_)
  · clear H
    have H := E52
    clear E52
    by_cases c6 : x2 = 0
    · rw [if_pos c6] at H
      refine ex.t c6 ?_
      obtain ⟨x8, e7, H⟩ := am_bd H
      refine ex.j1 (sX10_isWord hR_t  e7) (fun z9 hz => ?_)
      obtain rfl : x8 = z9 := hz
      by_cases c10 : x8 = 0
      · rw [if_pos c10] at H
        refine ex.t c10 ?_
        obtain ⟨x12, e11, H⟩ := am_bd H
        refine ex.j1 (sX10_isWord hR_t  e11) (fun z13 hz => ?_)
        obtain rfl : x12 = z13 := hz
        by_cases c14 : x12 = 0
        · rw [if_pos c14] at H
          refine ex.t c14 ?_
          obtain ⟨x16, e15, H⟩ := am_bd H
          refine ex.j1 (sX10_isWord hR_t  e15) (fun z17 hz => ?_)
          obtain rfl : x16 = z17 := hz
          by_cases c18 : x16 = 0
          · rw [if_pos c18] at H
            refine ex.t c18 ?_
            obtain ⟨tt21, e19, H⟩ := am_bd H
            refine ex.j1 (sX10_readOnce hR_t  e19) (fun hh20 hR_tt21 => ?_)
            obtain rfl := Option.some.inj H
            exact ex.nd hR_tt21
          · rw [if_neg c18] at H
            refine ex.f c18 ?_
            obtain ⟨tt24, e22, H⟩ := am_bd H
            refine ex.j1 (sX10_readPair hR_t  e22) (fun hh23 hR_tt24 => ?_)
            obtain rfl := Option.some.inj H
            exact ex.nd hR_tt24
        · rw [if_neg c14] at H
          refine ex.f c14 ?_
          obtain ⟨tt27, e25, H⟩ := am_bd H
          refine ex.j1 (sX10_readPair hR_t  e25) (fun hh26 hR_tt27 => ?_)
          obtain rfl := Option.some.inj H
          exact ex.nd hR_tt27
      · rw [if_neg c10] at H
        refine ex.f c10 ?_
        obtain ⟨tt30, e28, H⟩ := am_bd H
        refine ex.j1 (sX10_readDay hR_t  e28) (fun hh29 hR_tt30 => ?_)
        obtain rfl := Option.some.inj H
        exact ex.nd hR_tt30
    · rw [if_neg c6] at H
      refine ex.f c6 ?_
      refine ex.bd (r_gR hR_t lk9 rfl) ?_
      obtain ⟨x32, e33, H⟩ := am_bd H
      refine ex.bd (r_aI hR_t (la9_10 (a := 218) (by decide)) e33) ?_
      obtain ⟨tt36, e34, H⟩ := am_bd H
      refine ex.j1 (sX10_readName hR_t  e34) (fun hh35 hR_tt36 => ?_)
      obtain ⟨x38, tt40, e37, H⟩ := am_bd2 H
      refine ex.j2 (sX10_takeAfter hR_tt36  e37) (fun z41 hh39 hz => ?_)
      obtain ⟨rfl, hR_tt40⟩ : x38 = z41 ∧ Rp hh39 tt40 := hz
      refine ex.bd (r_gI hR_tt40 lk9 rfl) ?_
      obtain ⟨tt44, E51, H⟩ := am_bd H
      refine ex.j1 (Q := fun p => Rp p tt44) ?_ (fun hh43 hq => ?_)
      · clear H
        have H := E51
        clear E51
        by_cases c45 : ¬ (tt40.1 218 8) = 0
        · rw [if_pos c45] at H
          refine ex.t c45 ?_
          obtain rfl := Option.some.inj H
          exact ex.nd hR_tt40
        · rw [if_neg c45] at H
          refine ex.f c45 ?_
          refine ex.bd (r_gR hR_tt40 lk9 rfl) ?_
          obtain ⟨tt48, e49, H⟩ := am_bd H
          obtain ⟨hh47, e50, hR_tt48⟩ := r_sI hR_tt40 (la9_10 (a := 218) (by decide)) e49
          refine ex.bd e50 ?_
          obtain rfl := Option.some.inj H
          exact ex.nd hR_tt48
      · clear E51
        have hR_tt44 : Rp hh43 tt44 := hq
        obtain rfl := Option.some.inj H
        exact ex.nd hR_tt44
  · clear E52
    have hR_tt5 : Rp hh4 tt5 := hq
    obtain rfl := Option.some.inj H
    exact ex.nd hR_tt5
def tX10_vale_L30 : Nat → tS → Option (tS)
  | 0, _ => none
  | n + 1, t =>
    if ¬ (t.1 218 8) = 0 then
      some t
    else
      (tA t 220 1002 (t.1 218 7)).bind fun x27 =>
      if x27 = 0 then
        some t
      else
        (tX10_readLine  t).bind fun tt32 =>
        (tX10_takeSign ((59 : Int32)) tt32).bind fun tt35 =>
        tX10_vale_L30 n  tt35
def tX10_vale_L76 : Nat → Int32 → tS → Option (tS)
  | 0, _, _ => none
  | n + 1, v1, t =>
    if ((50 : Int32)) ≤ v1 then
      some t
    else
      (tA t 224 100 (((50 : Int32)) + v1)).bind fun x44 =>
      (tWA t 0 224 100 v1 x44).bind fun tt47 =>
      tX10_vale_L76 n (v1 + (1 : Int32)) tt47
def tX10_vale_L105 : Nat → Int32 → tS → Option (tS)
  | 0, _, _ => none
  | n + 1, v1, t =>
    if (t.1 218 13) ≤ v1 then
      some t
    else
      (tA t 225 2200 (((1100 : Int32)) + v1)).bind fun x57 =>
      (tWA t 0 225 2200 v1 x57).bind fun tt60 =>
      (tA tt60 226 2200 (((1100 : Int32)) + v1)).bind fun x65 =>
      (tWA tt60 0 226 2200 v1 x65).bind fun tt68 =>
      tX10_vale_L105 n (v1 + (1 : Int32)) tt68
def tX10_vale_L153 : Nat → Int32 → tS → Option (tS)
  | 0, _, _ => none
  | n + 1, v1, t =>
    if (t.1 218 19) ≤ v1 then
      some t
    else
      (tB t 228 10 v1).bind fun x78 =>
      (tWB t 227 10 v1 x78).bind fun tt81 =>
      (tA tt81 230 10 v1).bind fun x86 =>
      (tWA tt81 0 229 10 v1 x86).bind fun tt89 =>
      tX10_vale_L153 n (v1 + (1 : Int32)) tt89
def tX10_vale  (t : tS) : Option (Int32 × tS) :=
  (some (uI t 218 0 ((0 : Int32)))).bind fun tt2 =>
  (tX10_cutAll  tt2).bind fun tt7 =>
  (some (uI tt7 218 13 ((0 : Int32)))).bind fun tt9 =>
  (some (uI tt9 218 19 ((0 : Int32)))).bind fun tt13 =>
  (some (uI tt13 218 20 ((0 : Int32)))).bind fun tt17 =>
  (tX10_standsAsAlways ((50 : Int32)) tt17).bind fun tt22 =>
  Option.bind (tX10_vale_L30 4000  tt22) fun tt37 =>
  if (tt37.1 218 8) ≤ 0 then
    Option.bind (tX10_vale_L76 4000 ((0 : Int32)) tt37) fun tt51 =>
    Option.bind (tX10_vale_L105 4000 ((0 : Int32)) tt51) fun tt72 =>
    Option.bind (tX10_vale_L153 4000 ((0 : Int32)) tt72) fun tt93 =>
    (some (uI tt93 218 18 (tt93.1 218 19))).bind fun tt97 =>
    (tX10_begins  tt97).bind fun tt102 =>
    some ((0 : Int32), tt102)
  else
    some (tt37.1 218 8, tt37)
set_option maxHeartbeats 4000000 in
set_option maxRecDepth 100000 in
theorem sX10_vale_L30 : ∀ (n : Nat)  (h : am_H) (t : tS) (t1 : tS), Rp h t → tX10_vale_L30 n  t = some t1 → ex (fX10_vale_L30 n 218 h) (fun p => Rp p t1) := by
  intro n
  induction n with
  | zero => intro _ _ _ _ H; cases H
  | succ n ih =>
    intro h t t1 hR_t H
    rw [tX10_vale_L30] at H
    rw [fX10_vale_L30]
    refine ex.bd (r_gI hR_t lk9 rfl) ?_
    by_cases c24 : ¬ (t.1 218 8) = 0
    · rw [if_pos c24] at H
      refine ex.t c24 ?_
      obtain rfl := Option.some.inj H
      exact ex.nd hR_t
    · rw [if_neg c24] at H
      refine ex.f c24 ?_
      refine ex.bd (r_gR hR_t lk9 rfl) ?_
      refine ex.bd (r_gI hR_t lk9 rfl) ?_
      obtain ⟨x27, e28, H⟩ := am_bd H
      refine ex.bd (r_aI hR_t (la9_4 (a := 218) (by decide)) e28) ?_
      by_cases c29 : x27 = 0
      · rw [if_pos c29] at H
        refine ex.t c29 ?_
        obtain rfl := Option.some.inj H
        exact ex.nd hR_t
      · rw [if_neg c29] at H
        refine ex.f c29 ?_
        obtain ⟨tt32, e30, H⟩ := am_bd H
        refine ex.j1 (sX10_readLine hR_t  e30) (fun hh31 hR_tt32 => ?_)
        obtain ⟨tt35, e33, H⟩ := am_bd H
        refine ex.j1 (sX10_takeSign hR_tt32  e33) (fun hh34 hR_tt35 => ?_)
        exact ih _ _ _ hR_tt35  H
set_option maxHeartbeats 4000000 in
set_option maxRecDepth 100000 in
theorem sX10_vale_L76 : ∀ (n : Nat) (v1 : Int32) (h : am_H) (t : tS) (t1 : tS), Rp h t → tX10_vale_L76 n v1 t = some t1 → ex (fX10_vale_L76 n 218 v1 h) (fun p => Rp p t1) := by
  intro n
  induction n with
  | zero => intro _ _ _ _ _ H; cases H
  | succ n ih =>
    intro v1 h t t1 hR_t H
    rw [tX10_vale_L76] at H
    rw [fX10_vale_L76]
    by_cases c41 : ((50 : Int32)) ≤ v1
    · rw [if_pos c41] at H
      refine ex.t c41 ?_
      obtain rfl := Option.some.inj H
      exact ex.nd hR_t
    · rw [if_neg c41] at H
      refine ex.f c41 ?_
      refine ex.bd (r_gR hR_t lk9 rfl) ?_
      refine ex.bd (r_gR hR_t lk9 rfl) ?_
      obtain ⟨x44, e45, H⟩ := am_bd H
      refine ex.bd (r_aI hR_t (la9_10 (a := 218) (by decide)) e45) ?_
      obtain ⟨tt47, e48, H⟩ := am_bd H
      obtain ⟨hh46, e49, hR_tt47⟩ := r_sI hR_t (la9_10 (a := 218) (by decide)) e48
      refine ex.bd e49 ?_
      exact ih _ _ _ _ hR_tt47  H
set_option maxHeartbeats 4000000 in
set_option maxRecDepth 100000 in
theorem sX10_vale_L105 : ∀ (n : Nat) (v1 : Int32) (h : am_H) (t : tS) (t1 : tS), Rp h t → tX10_vale_L105 n v1 t = some t1 → ex (fX10_vale_L105 n 218 v1 h) (fun p => Rp p t1) := by
  intro n
  induction n with
  | zero => intro _ _ _ _ _ H; cases H
  | succ n ih =>
    intro v1 h t t1 hR_t H
    rw [tX10_vale_L105] at H
    rw [fX10_vale_L105]
    refine ex.bd (r_gI hR_t lk9 rfl) ?_
    by_cases c54 : (t.1 218 13) ≤ v1
    · rw [if_pos c54] at H
      refine ex.t c54 ?_
      obtain rfl := Option.some.inj H
      exact ex.nd hR_t
    · rw [if_neg c54] at H
      refine ex.f c54 ?_
      refine ex.bd (r_gR hR_t lk9 rfl) ?_
      refine ex.bd (r_gR hR_t lk9 rfl) ?_
      obtain ⟨x57, e58, H⟩ := am_bd H
      refine ex.bd (r_aI hR_t (la9_11 (a := 218) (by decide)) e58) ?_
      obtain ⟨tt60, e61, H⟩ := am_bd H
      obtain ⟨hh59, e62, hR_tt60⟩ := r_sI hR_t (la9_11 (a := 218) (by decide)) e61
      refine ex.bd e62 ?_
      refine ex.bd (r_gR hR_tt60 lk9 rfl) ?_
      refine ex.bd (r_gR hR_tt60 lk9 rfl) ?_
      obtain ⟨x65, e66, H⟩ := am_bd H
      refine ex.bd (r_aI hR_tt60 (la9_12 (a := 218) (by decide)) e66) ?_
      obtain ⟨tt68, e69, H⟩ := am_bd H
      obtain ⟨hh67, e70, hR_tt68⟩ := r_sI hR_tt60 (la9_12 (a := 218) (by decide)) e69
      refine ex.bd e70 ?_
      exact ih _ _ _ _ hR_tt68  H
set_option maxHeartbeats 4000000 in
set_option maxRecDepth 100000 in
theorem sX10_vale_L153 : ∀ (n : Nat) (v1 : Int32) (h : am_H) (t : tS) (t1 : tS), Rp h t → tX10_vale_L153 n v1 t = some t1 → ex (fX10_vale_L153 n 218 v1 h) (fun p => Rp p t1) := by
  intro n
  induction n with
  | zero => intro _ _ _ _ _ H; cases H
  | succ n ih =>
    intro v1 h t t1 hR_t H
    rw [tX10_vale_L153] at H
    rw [fX10_vale_L153]
    refine ex.bd (r_gI hR_t lk9 rfl) ?_
    by_cases c75 : (t.1 218 19) ≤ v1
    · rw [if_pos c75] at H
      refine ex.t c75 ?_
      obtain rfl := Option.some.inj H
      exact ex.nd hR_t
    · rw [if_neg c75] at H
      refine ex.f c75 ?_
      refine ex.bd (r_gR hR_t lk9 rfl) ?_
      refine ex.bd (r_gR hR_t lk9 rfl) ?_
      obtain ⟨x78, e79, H⟩ := am_bd H
      refine ex.bd (r_aL hR_t (la9_15 (a := 218) (by decide)) e79) ?_
      obtain ⟨tt81, e82, H⟩ := am_bd H
      obtain ⟨hh80, e83, hR_tt81⟩ := r_sL hR_t (la9_14 (a := 218) (by decide)) e82
      refine ex.bd e83 ?_
      refine ex.bd (r_gR hR_tt81 lk9 rfl) ?_
      refine ex.bd (r_gR hR_tt81 lk9 rfl) ?_
      obtain ⟨x86, e87, H⟩ := am_bd H
      refine ex.bd (r_aI hR_tt81 (la9_17 (a := 218) (by decide)) e87) ?_
      obtain ⟨tt89, e90, H⟩ := am_bd H
      obtain ⟨hh88, e91, hR_tt89⟩ := r_sI hR_tt81 (la9_16 (a := 218) (by decide)) e90
      refine ex.bd e91 ?_
      exact ih _ _ _ _ hR_tt89  H
set_option maxHeartbeats 4000000 in
set_option maxRecDepth 100000 in
theorem sX10_vale  {h : am_H} {t : tS} {r : Int32} {t1 : tS} (hR_t : Rp h t)  (H : tX10_vale  t = some (r, t1)) : ex (fX10_vale 218 h) (fun p => r = p.1 ∧ Rp p.2 t1) := by
  unfold tX10_vale at H
  unfold fX10_vale
  refine ex.bd (r_isO hR_t lk9) ?_
  obtain ⟨tt2, et3, H⟩ := am_bd H
  obtain ⟨hh1, e4, hR_tt2⟩ := r_pI (k := 0) (x := (0 : Int32)) hR_t lk9 rfl rfl
  rw [Option.some.inj et3] at hR_tt2
  refine ex.bd e4 ?_
  obtain ⟨tt7, e5, H⟩ := am_bd H
  refine ex.j1 (sX10_cutAll hR_tt2  e5) (fun hh6 hR_tt7 => ?_)
  obtain ⟨tt9, et10, H⟩ := am_bd H
  obtain ⟨hh8, e11, hR_tt9⟩ := r_pI (k := 13) (x := (0 : Int32)) hR_tt7 lk9 rfl rfl
  rw [Option.some.inj et10] at hR_tt9
  refine ex.bd e11 ?_
  obtain ⟨tt13, et14, H⟩ := am_bd H
  obtain ⟨hh12, e15, hR_tt13⟩ := r_pI (k := 19) (x := (0 : Int32)) hR_tt9 lk9 rfl rfl
  rw [Option.some.inj et14] at hR_tt13
  refine ex.bd e15 ?_
  obtain ⟨tt17, et18, H⟩ := am_bd H
  obtain ⟨hh16, e19, hR_tt17⟩ := r_pI (k := 20) (x := (0 : Int32)) hR_tt13 lk9 rfl rfl
  rw [Option.some.inj et18] at hR_tt17
  refine ex.bd e19 ?_
  obtain ⟨tt22, e20, H⟩ := am_bd H
  refine ex.j1 (sX10_standsAsAlways hR_tt17  e20) (fun hh21 hR_tt22 => ?_)
  obtain ⟨tt37, E38, H⟩ := am_bd H
  refine ex.j1 (sX10_vale_L30 _ _ _ _ hR_tt22  E38) (fun hh36 hq => ?_)
  clear E38
  have hR_tt37 : Rp hh36 tt37 := hq
  refine ex.bd (r_gI hR_tt37 lk9 rfl) ?_
  by_cases c40 : (tt37.1 218 8) ≤ 0
  · rw [if_pos c40] at H
    refine ex.t c40 ?_
    obtain ⟨tt51, E52, H⟩ := am_bd H
    refine ex.j1 (sX10_vale_L76 _ _ _ _ _ hR_tt37  E52) (fun hh50 hq => ?_)
    clear E52
    have hR_tt51 : Rp hh50 tt51 := hq
    obtain ⟨tt72, E73, H⟩ := am_bd H
    refine ex.j1 (sX10_vale_L105 _ _ _ _ _ hR_tt51  E73) (fun hh71 hq => ?_)
    clear E73
    have hR_tt72 : Rp hh71 tt72 := hq
    obtain ⟨tt93, E94, H⟩ := am_bd H
    refine ex.j1 (sX10_vale_L153 _ _ _ _ _ hR_tt72  E94) (fun hh92 hq => ?_)
    clear E94
    have hR_tt93 : Rp hh92 tt93 := hq
    refine ex.bd (r_gI hR_tt93 lk9 rfl) ?_
    obtain ⟨tt97, et98, H⟩ := am_bd H
    obtain ⟨hh96, e99, hR_tt97⟩ := r_pI (k := 18) (x := tt93.1 218 19) hR_tt93 lk9 rfl rfl
    rw [Option.some.inj et98] at hR_tt97
    refine ex.bd e99 ?_
    obtain ⟨tt102, e100, H⟩ := am_bd H
    refine ex.j1 (sX10_begins hR_tt97  e100) (fun hh101 hR_tt102 => ?_)
    obtain ⟨rfl, rfl⟩ := am_inj2 H
    exact ex.nd ⟨rfl, hR_tt102⟩
  · rw [if_neg c40] at H
    refine ex.f c40 ?_
    refine ex.bd (r_gI hR_tt37 lk9 rfl) ?_
    obtain ⟨rfl, rfl⟩ := am_inj2 H
    exact ex.nd ⟨rfl, hR_tt37⟩
def am_TcX10_laysFrom (rc1 : Nat → Nat → Int32 → am_H → Option (Int32 × am_H)) (rc : Nat → Int32 → tS → Option (Int32 × tS)) : Prop := ∀ (tag : Nat) (a1 : Int32) (h : am_H) (t : tS) (r : Int32) (t1 : tS), Rp h t → rc tag a1 t = some (r, t1) → ex (rc1 tag 218 a1 h) (fun p => r = p.1 ∧ Rp p.2 t1)
def tX10_laysFrom_L34 (rc : Nat → Int32 → tS → Option (Int32 × tS)) : Nat → Int32 → Int32 → Int32 → tS → Option (Int32 × tS)
  | 0, _, _, _, _ => none
  | n + 1, v1, v2, v3, t =>
    (tX10_houses  t).bind fun x10 =>
    if x10 ≤ v3 then
      some (v2, t)
    else
      (tX10_doesHold ((987 : Int32)) v3 v1 t).bind fun x14 =>
      am_b2 (
        if x14 = 0 then
          some (v2, t)
        else
          (tWA t 0 234 1081 (((993 : Int32)) + v1) v3).bind fun tt22 =>
          am_b2 (rc 0 (v1 + ((1 : Int32))) tt22) fun x26 tt28 =>
          (tWA tt28 0 234 1081 (((993 : Int32)) + v1) ((-1 : Int32))).bind fun tt32 =>
          some (v2 + x26, tt32)) fun jv16 tt18 =>
      tX10_laysFrom_L34 rc n v1 jv16 (v3 + (1 : Int32)) tt18
def gtX10_laysFrom : Nat → Nat → Int32 → tS → Option (Int32 × tS)
  | 0, _, _, _ => none
  | n + 1, tag, a1, t =>
    if tag = 0 then
      (tX10_days  t).bind fun x2 =>
      if ¬ a1 = x2 then
        (tA t 234 1081 (((6 : Int32)) + a1)).bind fun x6 =>
        if 0 ≤ x6 then
          am_b2 (tX10_laysFrom_L34 (gtX10_laysFrom n) 4000 a1 ((0 : Int32)) ((0 : Int32)) t) fun lw37 tt39 =>
          some (lw37, tt39)
        else
          am_b2 (gtX10_laysFrom n 0 (a1 + ((1 : Int32))) t) fun x43 tt45 =>
          some (x43, tt45)
      else
        some ((1 : Int32), t)
    else none
set_option maxHeartbeats 4000000 in
set_option maxRecDepth 100000 in
theorem sX10_laysFrom_L34 {rc1 : Nat → Nat → Int32 → am_H → Option (Int32 × am_H)} {rc : Nat → Int32 → tS → Option (Int32 × tS)} (hrc : am_TcX10_laysFrom rc1 rc) : ∀ (n : Nat) (v1 : Int32) (v2 : Int32) (v3 : Int32) (h : am_H) (t : tS) (w2 : Int32) (t1 : tS), Rp h t → tX10_laysFrom_L34 rc n v1 v2 v3 t = some (w2, t1) → ex (fX10_laysFrom_L34 rc1 n 218 v1 v2 v3 h) (fun p => w2 = p.1 ∧ Rp p.2 t1) := by
  intro n
  induction n with
  | zero => intro _ _ _ _ _ _ _ _ H; cases H
  | succ n ih =>
    intro v1 v2 v3 h t w2 t1 hR_t H
    rw [tX10_laysFrom_L34] at H
    rw [fX10_laysFrom_L34]
    obtain ⟨x10, e9, H⟩ := am_bd H
    refine ex.j1 (sX10_houses hR_t  e9) (fun z11 hz => ?_)
    obtain rfl : x10 = z11 := hz
    by_cases c12 : x10 ≤ v3
    · rw [if_pos c12] at H
      refine ex.t c12 ?_
      obtain ⟨rfl, rfl⟩ := am_inj2 H
      exact ex.nd ⟨rfl, hR_t⟩
    · rw [if_neg c12] at H
      refine ex.f c12 ?_
      obtain ⟨x14, e13, H⟩ := am_bd H
      refine ex.j1 (sX10_doesHold hR_t  e13) (fun z15 hz => ?_)
      obtain rfl : x14 = z15 := hz
      obtain ⟨jv16, tt18, E35, H⟩ := am_bd2 H
      refine ex.j2 (Q := fun p => jv16 = p.1 ∧ Rp p.2 tt18) ?_ (fun z36 hh17 hq => ?_)
      · clear H
        have H := E35
        clear E35
        by_cases c19 : x14 = 0
        · rw [if_pos c19] at H
          refine ex.t c19 ?_
          obtain ⟨rfl, rfl⟩ := am_inj2 H
          exact ex.nd ⟨rfl, hR_t⟩
        · rw [if_neg c19] at H
          refine ex.f c19 ?_
          refine ex.bd (r_gR hR_t lk9 rfl) ?_
          obtain ⟨tt22, e23, H⟩ := am_bd H
          obtain ⟨hh21, e24, hR_tt22⟩ := r_sI hR_t (la9_24 (a := 218) (by decide)) e23
          refine ex.bd e24 ?_
          obtain ⟨x26, tt28, e25, H⟩ := am_bd2 H
          refine ex.j2 (hrc _ _ _ _ _ _ hR_tt22  e25) (fun z29 hh27 hz => ?_)
          obtain ⟨rfl, hR_tt28⟩ : x26 = z29 ∧ Rp hh27 tt28 := hz
          refine ex.bd (r_gR hR_tt28 lk9 rfl) ?_
          obtain ⟨tt32, e33, H⟩ := am_bd H
          obtain ⟨hh31, e34, hR_tt32⟩ := r_sI hR_tt28 (la9_24 (a := 218) (by decide)) e33
          refine ex.bd e34 ?_
          obtain ⟨rfl, rfl⟩ := am_inj2 H
          exact ex.nd ⟨rfl, hR_tt32⟩
      · clear E35
        obtain ⟨rfl, hR_tt18⟩ : jv16 = z36 ∧ Rp hh17 tt18 := hq
        exact ih _ _ _ _ _ _ _ hR_tt18  H
set_option maxHeartbeats 8000000 in
set_option maxRecDepth 100000 in
theorem sgX10_laysFrom : ∀ n, am_TcX10_laysFrom (gX10_laysFrom n) (gtX10_laysFrom n) := by
  intro n
  induction n with
  | zero => intro _ _ _ _ _ _ _ H; cases H
  | succ n hrc =>
    intro tag a1 h t r t1 hR_t  H
    rw [gtX10_laysFrom] at H
    rw [gX10_laysFrom]
    by_cases kt0 : tag = 0
    · rw [if_pos kt0] at H
      refine ex.t kt0 ?_
      refine ex.bd (r_isO hR_t lk9) ?_
      obtain ⟨x2, e1, H⟩ := am_bd H
      refine ex.j1 (sX10_days hR_t  e1) (fun z3 hz => ?_)
      obtain rfl : x2 = z3 := hz
      by_cases c4 : ¬ a1 = x2
      · rw [if_pos c4] at H
        refine ex.t c4 ?_
        refine ex.bd (r_gR hR_t lk9 rfl) ?_
        obtain ⟨x6, e7, H⟩ := am_bd H
        refine ex.bd (r_aI hR_t (la9_24 (a := 218) (by decide)) e7) ?_
        by_cases c8 : 0 ≤ x6
        · rw [if_pos c8] at H
          refine ex.t c8 ?_
          obtain ⟨lw37, tt39, E41, H⟩ := am_bd2 H
          refine ex.j2 (sX10_laysFrom_L34 hrc _ _ _ _ _ _ _ _ hR_t  E41) (fun z40 hh38 hq => ?_)
          clear E41
          obtain ⟨rfl, hR_tt39⟩ : lw37 = z40 ∧ Rp hh38 tt39 := hq
          obtain ⟨rfl, rfl⟩ := am_inj2 H
          exact ex.nd ⟨rfl, hR_tt39⟩
        · rw [if_neg c8] at H
          refine ex.f c8 ?_
          obtain ⟨x43, tt45, e42, H⟩ := am_bd2 H
          refine ex.j2 (hrc _ _ _ _ _ _ hR_t  e42) (fun z46 hh44 hz => ?_)
          obtain ⟨rfl, hR_tt45⟩ : x43 = z46 ∧ Rp hh44 tt45 := hz
          obtain ⟨rfl, rfl⟩ := am_inj2 H
          exact ex.nd ⟨rfl, hR_tt45⟩
      · rw [if_neg c4] at H
        refine ex.f c4 ?_
        obtain ⟨rfl, rfl⟩ := am_inj2 H
        exact ex.nd ⟨rfl, hR_t⟩
    · rw [if_neg kt0] at H
      refine ex.f kt0 ?_
      cases H
def tX10_laysFrom (n : Nat) (a1 : Int32) (t : tS) : Option (Int32 × tS) := gtX10_laysFrom n 0 a1 t
theorem sX10_laysFrom {n : Nat} {a1 : Int32} {h : am_H} {t : tS} {r : Int32} {t1 : tS} (hR : Rp h t)  (H : tX10_laysFrom n a1 t = some (r, t1)) : ex (fX10_laysFrom n 218 a1 h) (fun p => r = p.1 ∧ Rp p.2 t1) := sgX10_laysFrom n 0 a1 h t r t1 hR  H
def tX10_laying_L11 : Nat → Int32 → tS → Option (tS)
  | 0, _, _ => none
  | n + 1, v1, t =>
    if ((6 : Int32)) ≤ v1 then
      some t
    else
      (tWA t 0 234 1081 (((993 : Int32)) + v1) ((-1 : Int32))).bind fun tt11 =>
      tX10_laying_L11 n (v1 + (1 : Int32)) tt11
def tX10_laying  (t : tS) : Option (Int32 × tS) :=
  (some (uI t 218 0 ((0 : Int32)))).bind fun tt2 =>
  (tX10_triesNow  tt2).bind fun tt7 =>
  Option.bind (tX10_laying_L11 4000 ((0 : Int32)) tt7) fun tt15 =>
  am_b2 (tX10_laysFrom 60 ((0 : Int32)) tt15) fun x18 tt20 =>
  some (x18, tt20)
set_option maxHeartbeats 4000000 in
set_option maxRecDepth 100000 in
theorem sX10_laying_L11 : ∀ (n : Nat) (v1 : Int32) (h : am_H) (t : tS) (t1 : tS), Rp h t → tX10_laying_L11 n v1 t = some t1 → ex (fX10_laying_L11 n 218 v1 h) (fun p => Rp p t1) := by
  intro n
  induction n with
  | zero => intro _ _ _ _ _ H; cases H
  | succ n ih =>
    intro v1 h t t1 hR_t H
    rw [tX10_laying_L11] at H
    rw [fX10_laying_L11]
    by_cases c8 : ((6 : Int32)) ≤ v1
    · rw [if_pos c8] at H
      refine ex.t c8 ?_
      obtain rfl := Option.some.inj H
      exact ex.nd hR_t
    · rw [if_neg c8] at H
      refine ex.f c8 ?_
      refine ex.bd (r_gR hR_t lk9 rfl) ?_
      obtain ⟨tt11, e12, H⟩ := am_bd H
      obtain ⟨hh10, e13, hR_tt11⟩ := r_sI hR_t (la9_24 (a := 218) (by decide)) e12
      refine ex.bd e13 ?_
      exact ih _ _ _ _ hR_tt11  H
set_option maxHeartbeats 4000000 in
set_option maxRecDepth 100000 in
theorem sX10_laying  {h : am_H} {t : tS} {r : Int32} {t1 : tS} (hR_t : Rp h t)  (H : tX10_laying  t = some (r, t1)) : ex (fX10_laying 218 h) (fun p => r = p.1 ∧ Rp p.2 t1) := by
  unfold tX10_laying at H
  unfold fX10_laying
  refine ex.bd (r_isO hR_t lk9) ?_
  obtain ⟨tt2, et3, H⟩ := am_bd H
  obtain ⟨hh1, e4, hR_tt2⟩ := r_pI (k := 0) (x := (0 : Int32)) hR_t lk9 rfl rfl
  rw [Option.some.inj et3] at hR_tt2
  refine ex.bd e4 ?_
  obtain ⟨tt7, e5, H⟩ := am_bd H
  refine ex.j1 (sX10_triesNow hR_tt2  e5) (fun hh6 hR_tt7 => ?_)
  obtain ⟨tt15, E16, H⟩ := am_bd H
  refine ex.j1 (sX10_laying_L11 _ _ _ _ _ hR_tt7  E16) (fun hh14 hq => ?_)
  clear E16
  have hR_tt15 : Rp hh14 tt15 := hq
  obtain ⟨x18, tt20, e17, H⟩ := am_bd2 H
  refine ex.j2 (sX10_laysFrom hR_tt15  e17) (fun z21 hh19 hz => ?_)
  obtain ⟨rfl, hR_tt20⟩ : x18 = z21 ∧ Rp hh19 tt20 := hz
  obtain ⟨rfl, rfl⟩ := am_inj2 H
  exact ex.nd ⟨rfl, hR_tt20⟩
def am_TcX10_isApart (rc1 : Nat → Nat → Int32 → Int32 → am_H → Option (Int32 × am_H)) (rc : Nat → Int32 → Int32 → tS → Option (Int32 × tS)) : Prop := ∀ (tag : Nat) (a1 : Int32) (a2 : Int32) (h : am_H) (t : tS) (r : Int32) (t1 : tS), Rp h t → rc tag a1 a2 t = some (r, t1) → ex (rc1 tag 218 a1 a2 h) (fun p => r = p.1 ∧ Rp p.2 t1)
def tX10_isApart_L31 (rc : Nat → Int32 → Int32 → tS → Option (Int32 × tS)) : Nat → Int32 → Int32 → Int32 → Int32 → Int32 → tS → Option (Int32)
  | 0, _, _, _, _, _, _ => none
  | n + 1, v1, v2, v4, v5, v6, t =>
    if v1 ≤ v6 then
      some v5
    else
      Option.bind (
        if v5 = 0 then
          some ((0 : Int32))
        else
          (tA t 237 6 v6).bind fun x11 =>
          if ¬ x11 = v4 then
            some ((1 : Int32))
          else
            (tX10_dayOf v1 ((4 : Int32)) t).bind fun x15 =>
            if ¬ ((x15 >>> (v6 &&& 31)) &&& ((1 : Int32))) = 0 then
              some ((0 : Int32))
            else
              some ((1 : Int32))) fun js8 =>
      tX10_isApart_L31 rc n v1 v2 v4 js8 (v6 + (1 : Int32)) t
def tX10_isApart_L15 (rc : Nat → Int32 → Int32 → tS → Option (Int32 × tS)) : Nat → Int32 → Int32 → Int32 → Int32 → tS → Option (Int32 × tS)
  | 0, _, _, _, _, _ => none
  | n + 1, v1, v2, v3, v4, t =>
    if v2 ≤ v4 then
      some (v3, t)
    else
      if ¬ v3 = 0 then
        some (v3, t)
      else
        Option.bind (tX10_isApart_L31 (rc) 4000 v1 v2 v4 ((1 : Int32)) ((0 : Int32)) t) fun lw20 =>
        (tWA t 0 237 6 v1 v4).bind fun tt25 =>
        am_b2 (
          if lw20 = 0 then
            some ((0 : Int32), tt25)
          else
            am_b2 (rc 0 (v1 + ((1 : Int32))) v2 tt25) fun x33 tt35 =>
            if x33 = 0 then
              some ((0 : Int32), tt35)
            else
              some ((1 : Int32), tt35)) fun js28 tt30 =>
        tX10_isApart_L15 rc n v1 v2 js28 (v4 + (1 : Int32)) tt30
def gtX10_isApart : Nat → Nat → Int32 → Int32 → tS → Option (Int32 × tS)
  | 0, _, _, _, _ => none
  | n + 1, tag, a1, a2, t =>
    if tag = 0 then
      (tX10_days  t).bind fun x2 =>
      if ¬ a1 = x2 then
        am_b2 (tX10_isApart_L15 (gtX10_isApart n) 4000 a1 a2 ((0 : Int32)) ((0 : Int32)) t) fun lw40 tt42 =>
        (am_z01 lw40).bind fun b45 =>
        some (b45, tt42)
      else
        some ((1 : Int32), t)
    else none
set_option maxHeartbeats 4000000 in
set_option maxRecDepth 100000 in
theorem sX10_isApart_L31 {rc1 : Nat → Nat → Int32 → Int32 → am_H → Option (Int32 × am_H)} {rc : Nat → Int32 → Int32 → tS → Option (Int32 × tS)} (hrc : am_TcX10_isApart rc1 rc) : ∀ (n : Nat) (v1 : Int32) (v2 : Int32) (v4 : Int32) (v5 : Int32) (v6 : Int32) (h : am_H) (t : tS) (w5 : Int32), Rp h t → tX10_isApart_L31 rc n v1 v2 v4 v5 v6 t = some w5 → ex (fX10_isApart_L31 rc1 n 218 v1 v2 v4 v5 v6 h) (fun p => w5 = p) := by
  intro n
  induction n with
  | zero => intro _ _ _ _ _ _ _ _ _ H; cases H
  | succ n ih =>
    intro v1 v2 v4 v5 v6 h t w5 hR_t H
    rw [tX10_isApart_L31] at H
    rw [fX10_isApart_L31]
    by_cases c7 : v1 ≤ v6
    · rw [if_pos c7] at H
      refine ex.t c7 ?_
      obtain rfl := Option.some.inj H
      exact ex.nd rfl
    · rw [if_neg c7] at H
      refine ex.f c7 ?_
      obtain ⟨js8, E18, H⟩ := am_bd H
      refine ex.j1 (Q := fun p => js8 = p) ?_ (fun z19 hq => ?_)
      · clear H
        have H := E18
        clear E18
        by_cases c9 : v5 = 0
        · rw [if_pos c9] at H
          refine ex.t c9 ?_
          obtain rfl := Option.some.inj H
          exact ex.nd rfl
        · rw [if_neg c9] at H
          refine ex.f c9 ?_
          refine ex.bd (r_gR hR_t lk9 rfl) ?_
          obtain ⟨x11, e12, H⟩ := am_bd H
          refine ex.bd (r_aI hR_t (la9_30 (a := 218) (by decide)) e12) ?_
          by_cases c13 : ¬ x11 = v4
          · rw [if_pos c13] at H
            refine ex.t c13 ?_
            obtain rfl := Option.some.inj H
            exact ex.nd rfl
          · rw [if_neg c13] at H
            refine ex.f c13 ?_
            obtain ⟨x15, e14, H⟩ := am_bd H
            refine ex.j1 (sX10_dayOf hR_t  e14) (fun z16 hz => ?_)
            obtain rfl : x15 = z16 := hz
            by_cases c17 : ¬ ((x15 >>> (v6 &&& 31)) &&& ((1 : Int32))) = 0
            · rw [if_pos c17] at H
              refine ex.t c17 ?_
              obtain rfl := Option.some.inj H
              exact ex.nd rfl
            · rw [if_neg c17] at H
              refine ex.f c17 ?_
              obtain rfl := Option.some.inj H
              exact ex.nd rfl
      · clear E18
        obtain rfl : js8 = z19 := hq
        exact ih _ _ _ _ _ _ _ _ hR_t  H
set_option maxHeartbeats 4000000 in
set_option maxRecDepth 100000 in
theorem sX10_isApart_L15 {rc1 : Nat → Nat → Int32 → Int32 → am_H → Option (Int32 × am_H)} {rc : Nat → Int32 → Int32 → tS → Option (Int32 × tS)} (hrc : am_TcX10_isApart rc1 rc) : ∀ (n : Nat) (v1 : Int32) (v2 : Int32) (v3 : Int32) (v4 : Int32) (h : am_H) (t : tS) (w3 : Int32) (t1 : tS), Rp h t → tX10_isApart_L15 rc n v1 v2 v3 v4 t = some (w3, t1) → ex (fX10_isApart_L15 rc1 n 218 v1 v2 v3 v4 h) (fun p => w3 = p.1 ∧ Rp p.2 t1) := by
  intro n
  induction n with
  | zero => intro _ _ _ _ _ _ _ _ _ H; cases H
  | succ n ih =>
    intro v1 v2 v3 v4 h t w3 t1 hR_t H
    rw [tX10_isApart_L15] at H
    rw [fX10_isApart_L15]
    by_cases c5 : v2 ≤ v4
    · rw [if_pos c5] at H
      refine ex.t c5 ?_
      obtain ⟨rfl, rfl⟩ := am_inj2 H
      exact ex.nd ⟨rfl, hR_t⟩
    · rw [if_neg c5] at H
      refine ex.f c5 ?_
      by_cases c6 : ¬ v3 = 0
      · rw [if_pos c6] at H
        refine ex.t c6 ?_
        obtain ⟨rfl, rfl⟩ := am_inj2 H
        exact ex.nd ⟨rfl, hR_t⟩
      · rw [if_neg c6] at H
        refine ex.f c6 ?_
        obtain ⟨lw20, E22, H⟩ := am_bd H
        refine ex.j1 (sX10_isApart_L31 hrc _ _ _ _ _ _ _ _ _ hR_t  E22) (fun z21 hq => ?_)
        clear E22
        obtain rfl : lw20 = z21 := hq
        refine ex.bd (r_gR hR_t lk9 rfl) ?_
        obtain ⟨tt25, e26, H⟩ := am_bd H
        obtain ⟨hh24, e27, hR_tt25⟩ := r_sI hR_t (la9_30 (a := 218) (by decide)) e26
        refine ex.bd e27 ?_
        obtain ⟨js28, tt30, E38, H⟩ := am_bd2 H
        refine ex.j2 (Q := fun p => js28 = p.1 ∧ Rp p.2 tt30) ?_ (fun z39 hh29 hq => ?_)
        · clear H
          have H := E38
          clear E38
          by_cases c31 : lw20 = 0
          · rw [if_pos c31] at H
            refine ex.t c31 ?_
            obtain ⟨rfl, rfl⟩ := am_inj2 H
            exact ex.nd ⟨rfl, hR_tt25⟩
          · rw [if_neg c31] at H
            refine ex.f c31 ?_
            obtain ⟨x33, tt35, e32, H⟩ := am_bd2 H
            refine ex.j2 (hrc _ _ _ _ _ _ _ hR_tt25  e32) (fun z36 hh34 hz => ?_)
            obtain ⟨rfl, hR_tt35⟩ : x33 = z36 ∧ Rp hh34 tt35 := hz
            by_cases c37 : x33 = 0
            · rw [if_pos c37] at H
              refine ex.t c37 ?_
              obtain ⟨rfl, rfl⟩ := am_inj2 H
              exact ex.nd ⟨rfl, hR_tt35⟩
            · rw [if_neg c37] at H
              refine ex.f c37 ?_
              obtain ⟨rfl, rfl⟩ := am_inj2 H
              exact ex.nd ⟨rfl, hR_tt35⟩
        · clear E38
          obtain ⟨rfl, hR_tt30⟩ : js28 = z39 ∧ Rp hh29 tt30 := hq
          exact ih _ _ _ _ _ _ _ _ hR_tt30  H
set_option maxHeartbeats 8000000 in
set_option maxRecDepth 100000 in
theorem sgX10_isApart : ∀ n, am_TcX10_isApart (gX10_isApart n) (gtX10_isApart n) := by
  intro n
  induction n with
  | zero => intro _ _ _ _ _ _ _ _ H; cases H
  | succ n hrc =>
    intro tag a1 a2 h t r t1 hR_t  H
    rw [gtX10_isApart] at H
    rw [gX10_isApart]
    by_cases kt0 : tag = 0
    · rw [if_pos kt0] at H
      refine ex.t kt0 ?_
      refine ex.bd (r_isO hR_t lk9) ?_
      obtain ⟨x2, e1, H⟩ := am_bd H
      refine ex.j1 (sX10_days hR_t  e1) (fun z3 hz => ?_)
      obtain rfl : x2 = z3 := hz
      by_cases c4 : ¬ a1 = x2
      · rw [if_pos c4] at H
        refine ex.t c4 ?_
        obtain ⟨lw40, tt42, E44, H⟩ := am_bd2 H
        refine ex.j2 (sX10_isApart_L15 hrc _ _ _ _ _ _ _ _ _ hR_t  E44) (fun z43 hh41 hq => ?_)
        clear E44
        obtain ⟨rfl, hR_tt42⟩ : lw40 = z43 ∧ Rp hh41 tt42 := hq
        obtain ⟨b45, e46, H⟩ := am_bd H
        refine ex.bd e46 ?_
        obtain ⟨rfl, rfl⟩ := am_inj2 H
        exact ex.nd ⟨rfl, hR_tt42⟩
      · rw [if_neg c4] at H
        refine ex.f c4 ?_
        obtain ⟨rfl, rfl⟩ := am_inj2 H
        exact ex.nd ⟨rfl, hR_t⟩
    · rw [if_neg kt0] at H
      refine ex.f kt0 ?_
      cases H
def tX10_isApart (n : Nat) (a1 : Int32) (a2 : Int32) (t : tS) : Option (Int32 × tS) := gtX10_isApart n 0 a1 a2 t
theorem sX10_isApart {n : Nat} {a1 : Int32} {a2 : Int32} {h : am_H} {t : tS} {r : Int32} {t1 : tS} (hR : Rp h t)  (H : tX10_isApart n a1 a2 t = some (r, t1)) : ex (fX10_isApart n 218 a1 a2 h) (fun p => r = p.1 ∧ Rp p.2 t1) := sgX10_isApart n 0 a1 a2 h t r t1 hR  H
def tX10_apart_L7 : Nat → Int32 → tS → Option (Int32 × tS)
  | 0, _, _ => none
  | n + 1, v1, t =>
    am_b2 (tX10_isApart 60 ((0 : Int32)) v1 t) fun x6 tt8 =>
    if ¬ x6 = 0 then
      some (v1, tt8)
    else
      tX10_apart_L7 n (v1 + (1 : Int32)) tt8
def tX10_apart  (t : tS) : Option (Int32 × tS) :=
  (some (uI t 218 0 ((0 : Int32)))).bind fun tt2 =>
  am_b2 (tX10_apart_L7 4000 ((0 : Int32)) tt2) fun lw11 tt13 =>
  some (lw11, tt13)
set_option maxHeartbeats 4000000 in
set_option maxRecDepth 100000 in
theorem sX10_apart_L7 : ∀ (n : Nat) (v1 : Int32) (h : am_H) (t : tS) (w1 : Int32) (t1 : tS), Rp h t → tX10_apart_L7 n v1 t = some (w1, t1) → ex (fX10_apart_L7 n 218 v1 h) (fun p => w1 = p.1 ∧ Rp p.2 t1) := by
  intro n
  induction n with
  | zero => intro _ _ _ _ _ _ H; cases H
  | succ n ih =>
    intro v1 h t w1 t1 hR_t H
    rw [tX10_apart_L7] at H
    rw [fX10_apart_L7]
    obtain ⟨x6, tt8, e5, H⟩ := am_bd2 H
    refine ex.j2 (sX10_isApart hR_t  e5) (fun z9 hh7 hz => ?_)
    obtain ⟨rfl, hR_tt8⟩ : x6 = z9 ∧ Rp hh7 tt8 := hz
    by_cases c10 : ¬ x6 = 0
    · rw [if_pos c10] at H
      refine ex.t c10 ?_
      obtain ⟨rfl, rfl⟩ := am_inj2 H
      exact ex.nd ⟨rfl, hR_tt8⟩
    · rw [if_neg c10] at H
      refine ex.f c10 ?_
      exact ih _ _ _ _ _ hR_tt8  H
set_option maxHeartbeats 4000000 in
set_option maxRecDepth 100000 in
theorem sX10_apart  {h : am_H} {t : tS} {r : Int32} {t1 : tS} (hR_t : Rp h t)  (H : tX10_apart  t = some (r, t1)) : ex (fX10_apart 218 h) (fun p => r = p.1 ∧ Rp p.2 t1) := by
  unfold tX10_apart at H
  unfold fX10_apart
  refine ex.bd (r_isO hR_t lk9) ?_
  obtain ⟨tt2, et3, H⟩ := am_bd H
  obtain ⟨hh1, e4, hR_tt2⟩ := r_pI (k := 0) (x := (0 : Int32)) hR_t lk9 rfl rfl
  rw [Option.some.inj et3] at hR_tt2
  refine ex.bd e4 ?_
  obtain ⟨lw11, tt13, E15, H⟩ := am_bd2 H
  refine ex.j2 (sX10_apart_L7 _ _ _ _ _ _ hR_tt2  E15) (fun z14 hh12 hq => ?_)
  clear E15
  obtain ⟨rfl, hR_tt13⟩ : lw11 = z14 ∧ Rp hh12 tt13 := hq
  obtain ⟨rfl, rfl⟩ := am_inj2 H
  exact ex.nd ⟨rfl, hR_tt13⟩
