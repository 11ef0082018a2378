/-! typed functions -/
def tX10_mark (a1 : Int32) (a2 : Int32) (t : tS) : Option (Int32 × tS) :=
  (some (uI t 218 0 ((0 : Int32)))).bind fun tt2 =>
  (tX10_within a1 ((0 : Int32)) ((3 : Int32)) tt2).bind fun x6 =>
  if x6 = 0 then
    some ((0 : Int32), tt2)
  else
    if a2 = 0 then
      (tWA tt2 3 235 4 a1 ((1 : Int32))).bind fun tt12 =>
      Option.bind (
        if a2 = 0 then
          some ((0 : Int32))
        else
          some (((47 : Int32)) * (((1 : Int32)) + a1))) fun js15 =>
      Option.bind (
        if a2 = 0 then
          some (((47 : Int32)) * (((1 : Int32)) + a1))
        else
          some ((0 : Int32))) fun js17 =>
      (tX10_copies js15 js17 ((47 : Int32)) tt12).bind fun tt21 =>
      Option.bind (
        if a2 = 0 then
          some (tt21.1 218 25)
        else
          some ((0 : Int32))) fun js22 =>
      (some (uI tt21 218 25 js22)).bind fun tt26 =>
      some ((1 : Int32), tt26)
    else
      (tA tt2 235 4 a1).bind fun x36 =>
      if ¬ x36 = 0 then
        (tWA tt2 3 235 4 a1 ((1 : Int32))).bind fun tt41 =>
        Option.bind (
          if a2 = 0 then
            some ((0 : Int32))
          else
            some (((47 : Int32)) * (((1 : Int32)) + a1))) fun js44 =>
        Option.bind (
          if a2 = 0 then
            some (((47 : Int32)) * (((1 : Int32)) + a1))
          else
            some ((0 : Int32))) fun js46 =>
        (tX10_copies js44 js46 ((47 : Int32)) tt41).bind fun tt50 =>
        Option.bind (
          if a2 = 0 then
            some (tt50.1 218 25)
          else
            some ((0 : Int32))) fun js51 =>
        (some (uI tt50 218 25 js51)).bind fun tt55 =>
        some ((1 : Int32), tt55)
      else
        some ((0 : Int32), tt2)
set_option maxHeartbeats 4000000 in
set_option maxRecDepth 100000 in
theorem sX10_mark {a1 : Int32} {a2 : Int32} {h : am_H} {t : tS} {r : Int32} {t1 : tS} (hR_t : Rp h t)  (H : tX10_mark a1 a2 t = some (r, t1)) : ex (fX10_mark 218 a1 a2 h) (fun p => r = p.1 ∧ Rp p.2 t1) := by
  unfold tX10_mark at H
  unfold fX10_mark
  refine ex.bd (r_isO hR_t lk9) ?_
  obtain ⟨tt2, et3, H⟩ := am_bd H
  obtain ⟨hh1, e4, hR_tt2⟩ := r_pI (k := 0) (x := (0 : Int32)) hR_t lk9 rfl rfl
  rw [Option.some.inj et3] at hR_tt2
  refine ex.bd e4 ?_
  obtain ⟨x6, e5, H⟩ := am_bd H
  refine ex.j1 (sX10_within hR_tt2  e5) (fun z7 hz => ?_)
  obtain rfl : x6 = z7 := hz
  by_cases c8 : x6 = 0
  · rw [if_pos c8] at H
    refine ex.t c8 ?_
    obtain ⟨rfl, rfl⟩ := am_inj2 H
    exact ex.nd ⟨rfl, hR_tt2⟩
  · rw [if_neg c8] at H
    refine ex.f c8 ?_
    by_cases c9 : a2 = 0
    · rw [if_pos c9] at H
      refine ex.t c9 ?_
      refine ex.bd (r_gR hR_tt2 lk9 rfl) ?_
      obtain ⟨tt12, e13, H⟩ := am_bd H
      obtain ⟨hh11, e14, hR_tt12⟩ := r_sI hR_tt2 (la9_26 (a := 218) (by decide)) e13
      refine ex.bd e14 ?_
      obtain ⟨js15, E33, H⟩ := am_bd H
      refine ex.j1 (Q := fun p => js15 = p) ?_ (fun z34 hq => ?_)
      · clear H
        have H := E33
        clear E33
        by_cases c16 : a2 = 0
        · rw [if_pos c16] at H
          refine ex.t c16 ?_
          obtain rfl := Option.some.inj H
          exact ex.nd rfl
        · rw [if_neg c16] at H
          refine ex.f c16 ?_
          obtain rfl := Option.some.inj H
          exact ex.nd rfl
      · clear E33
        obtain rfl : js15 = z34 := hq
        obtain ⟨js17, E31, H⟩ := am_bd H
        refine ex.j1 (Q := fun p => js17 = p) ?_ (fun z32 hq => ?_)
        · clear H
          have H := E31
          clear E31
          by_cases c18 : a2 = 0
          · rw [if_pos c18] at H
            refine ex.t c18 ?_
            obtain rfl := Option.some.inj H
            exact ex.nd rfl
          · rw [if_neg c18] at H
            refine ex.f c18 ?_
            obtain rfl := Option.some.inj H
            exact ex.nd rfl
        · clear E31
          obtain rfl : js17 = z32 := hq
          obtain ⟨tt21, e19, H⟩ := am_bd H
          refine ex.j1 (sX10_copies hR_tt12  e19) (fun hh20 hR_tt21 => ?_)
          obtain ⟨js22, E29, H⟩ := am_bd H
          refine ex.j1 (Q := fun p => js22 = p) ?_ (fun z30 hq => ?_)
          · clear H
            have H := E29
            clear E29
            by_cases c23 : a2 = 0
            · rw [if_pos c23] at H
              refine ex.t c23 ?_
              refine ex.bd (r_gI hR_tt21 lk9 rfl) ?_
              obtain rfl := Option.some.inj H
              exact ex.nd rfl
            · rw [if_neg c23] at H
              refine ex.f c23 ?_
              obtain rfl := Option.some.inj H
              exact ex.nd rfl
          · clear E29
            obtain rfl : js22 = z30 := hq
            obtain ⟨tt26, et27, H⟩ := am_bd H
            obtain ⟨hh25, e28, hR_tt26⟩ := r_pI (k := 25) (x := js22) hR_tt21 lk9 rfl rfl
            rw [Option.some.inj et27] at hR_tt26
            refine ex.bd e28 ?_
            obtain ⟨rfl, rfl⟩ := am_inj2 H
            exact ex.nd ⟨rfl, hR_tt26⟩
    · rw [if_neg c9] at H
      refine ex.f c9 ?_
      refine ex.bd (r_gR hR_tt2 lk9 rfl) ?_
      obtain ⟨x36, e37, H⟩ := am_bd H
      refine ex.bd (r_aI hR_tt2 (la9_26 (a := 218) (by decide)) e37) ?_
      by_cases c38 : ¬ x36 = 0
      · rw [if_pos c38] at H
        refine ex.t c38 ?_
        refine ex.bd (r_gR hR_tt2 lk9 rfl) ?_
        obtain ⟨tt41, e42, H⟩ := am_bd H
        obtain ⟨hh40, e43, hR_tt41⟩ := r_sI hR_tt2 (la9_26 (a := 218) (by decide)) e42
        refine ex.bd e43 ?_
        obtain ⟨js44, E62, H⟩ := am_bd H
        refine ex.j1 (Q := fun p => js44 = p) ?_ (fun z63 hq => ?_)
        · clear H
          have H := E62
          clear E62
          by_cases c45 : a2 = 0
          · rw [if_pos c45] at H
            refine ex.t c45 ?_
            obtain rfl := Option.some.inj H
            exact ex.nd rfl
          · rw [if_neg c45] at H
            refine ex.f c45 ?_
            obtain rfl := Option.some.inj H
            exact ex.nd rfl
        · clear E62
          obtain rfl : js44 = z63 := hq
          obtain ⟨js46, E60, H⟩ := am_bd H
          refine ex.j1 (Q := fun p => js46 = p) ?_ (fun z61 hq => ?_)
          · clear H
            have H := E60
            clear E60
            by_cases c47 : a2 = 0
            · rw [if_pos c47] at H
              refine ex.t c47 ?_
              obtain rfl := Option.some.inj H
              exact ex.nd rfl
            · rw [if_neg c47] at H
              refine ex.f c47 ?_
              obtain rfl := Option.some.inj H
              exact ex.nd rfl
          · clear E60
            obtain rfl : js46 = z61 := hq
            obtain ⟨tt50, e48, H⟩ := am_bd H
            refine ex.j1 (sX10_copies hR_tt41  e48) (fun hh49 hR_tt50 => ?_)
            obtain ⟨js51, E58, H⟩ := am_bd H
            refine ex.j1 (Q := fun p => js51 = p) ?_ (fun z59 hq => ?_)
            · clear H
              have H := E58
              clear E58
              by_cases c52 : a2 = 0
              · rw [if_pos c52] at H
                refine ex.t c52 ?_
                refine ex.bd (r_gI hR_tt50 lk9 rfl) ?_
                obtain rfl := Option.some.inj H
                exact ex.nd rfl
              · rw [if_neg c52] at H
                refine ex.f c52 ?_
                obtain rfl := Option.some.inj H
                exact ex.nd rfl
            · clear E58
              obtain rfl : js51 = z59 := hq
              obtain ⟨tt55, et56, H⟩ := am_bd H
              obtain ⟨hh54, e57, hR_tt55⟩ := r_pI (k := 25) (x := js51) hR_tt50 lk9 rfl rfl
              rw [Option.some.inj et56] at hR_tt55
              refine ex.bd e57 ?_
              obtain ⟨rfl, rfl⟩ := am_inj2 H
              exact ex.nd ⟨rfl, hR_tt55⟩
      · rw [if_neg c38] at H
        refine ex.f c38 ?_
        obtain ⟨rfl, rfl⟩ := am_inj2 H
        exact ex.nd ⟨rfl, hR_tt2⟩
def tX10_fadedNow_L4 : Nat → Int32 → Int32 → tS → Option (Int32)
  | 0, _, _, _ => none
  | n + 1, v1, v2, t =>
    (tX10_days  t).bind fun x2 =>
    if x2 ≤ v2 then
      some v1
    else
      (tA t 234 1081 (((18 : Int32)) + v2)).bind fun x6 =>
      Option.bind (
        if ¬ x6 = 0 then
          some ((0 : Int32))
        else
          some (((1 : Int32)) <<< (v2 &&& 31))) fun js8 =>
      tX10_fadedNow_L4 n (v1 ||| js8) (v2 + (1 : Int32)) t
def tX10_fadedNow  (t : tS) : Option (Int32) :=
  Option.bind (tX10_fadedNow_L4 4000 ((0 : Int32)) ((0 : Int32)) t) fun lw12 =>
  some lw12
set_option maxHeartbeats 4000000 in
set_option maxRecDepth 100000 in
theorem sX10_fadedNow_L4 : ∀ (n : Nat) (v1 : Int32) (v2 : Int32) (h : am_H) (t : tS) (w1 : Int32), Rp h t → tX10_fadedNow_L4 n v1 v2 t = some w1 → ex (fX10_fadedNow_L4 n 218 v1 v2 h) (fun p => w1 = p) := by
  intro n
  induction n with
  | zero => intro _ _ _ _ _ _ H; cases H
  | succ n ih =>
    intro v1 v2 h t w1 hR_t H
    rw [tX10_fadedNow_L4] at H
    rw [fX10_fadedNow_L4]
    obtain ⟨x2, e1, H⟩ := am_bd H
    refine ex.j1 (sX10_days hR_t  e1) (fun z3 hz => ?_)
    obtain rfl : x2 = z3 := hz
    by_cases c4 : x2 ≤ v2
    · rw [if_pos c4] at H
      refine ex.t c4 ?_
      obtain rfl := Option.some.inj H
      exact ex.nd rfl
    · rw [if_neg c4] at H
      refine ex.f c4 ?_
      refine ex.bd (r_gR hR_t lk9 rfl) ?_
      obtain ⟨x6, e7, H⟩ := am_bd H
      refine ex.bd (r_aI hR_t (la9_24 (a := 218) (by decide)) e7) ?_
      obtain ⟨js8, E10, H⟩ := am_bd H
      refine ex.j1 (Q := fun p => js8 = p) ?_ (fun z11 hq => ?_)
      · clear H
        have H := E10
        clear E10
        by_cases c9 : ¬ x6 = 0
        · rw [if_pos c9] at H
          refine ex.t c9 ?_
          obtain rfl := Option.some.inj H
          exact ex.nd rfl
        · rw [if_neg c9] at H
          refine ex.f c9 ?_
          obtain rfl := Option.some.inj H
          exact ex.nd rfl
      · clear E10
        obtain rfl : js8 = z11 := hq
        exact ih _ _ _ _ _ hR_t  H
set_option maxHeartbeats 4000000 in
set_option maxRecDepth 100000 in
theorem sX10_fadedNow  {h : am_H} {t : tS} {r : Int32} (hR_t : Rp h t)  (H : tX10_fadedNow  t = some r) : ex (fX10_fadedNow 218 h) (fun x => r = x) := by
  unfold tX10_fadedNow at H
  unfold fX10_fadedNow
  refine ex.bd (r_isO hR_t lk9) ?_
  obtain ⟨lw12, E14, H⟩ := am_bd H
  refine ex.j1 (sX10_fadedNow_L4 _ _ _ _ _ _ hR_t  E14) (fun z13 hq => ?_)
  clear E14
  obtain rfl : lw12 = z13 := hq
  obtain rfl := Option.some.inj H
  exact ex.nd rfl
def tX10_bedsOfAll_L4 : Nat → Int32 → Int32 → tS → Option (Int32)
  | 0, _, _, _ => none
  | n + 1, v1, v2, t =>
    (tX10_houses  t).bind fun x2 =>
    if x2 ≤ v2 then
      some v1
    else
      (tA t 234 1081 (((2 : Int32)) + v2)).bind fun x6 =>
      tX10_bedsOfAll_L4 n (v1 + x6) (v2 + (1 : Int32)) t
def tX10_bedsOfAll  (t : tS) : Option (Int32) :=
  Option.bind (tX10_bedsOfAll_L4 4000 ((0 : Int32)) ((0 : Int32)) t) fun lw8 =>
  some lw8
set_option maxHeartbeats 4000000 in
set_option maxRecDepth 100000 in
theorem sX10_bedsOfAll_L4 : ∀ (n : Nat) (v1 : Int32) (v2 : Int32) (h : am_H) (t : tS) (w1 : Int32), Rp h t → tX10_bedsOfAll_L4 n v1 v2 t = some w1 → ex (fX10_bedsOfAll_L4 n 218 v1 v2 h) (fun p => w1 = p) := by
  intro n
  induction n with
  | zero => intro _ _ _ _ _ _ H; cases H
  | succ n ih =>
    intro v1 v2 h t w1 hR_t H
    rw [tX10_bedsOfAll_L4] at H
    rw [fX10_bedsOfAll_L4]
    obtain ⟨x2, e1, H⟩ := am_bd H
    refine ex.j1 (sX10_houses hR_t  e1) (fun z3 hz => ?_)
    obtain rfl : x2 = z3 := hz
    by_cases c4 : x2 ≤ v2
    · rw [if_pos c4] at H
      refine ex.t c4 ?_
      obtain rfl := Option.some.inj H
      exact ex.nd rfl
    · rw [if_neg c4] at H
      refine ex.f c4 ?_
      refine ex.bd (r_gR hR_t lk9 rfl) ?_
      obtain ⟨x6, e7, H⟩ := am_bd H
      refine ex.bd (r_aI hR_t (la9_24 (a := 218) (by decide)) e7) ?_
      exact ih _ _ _ _ _ hR_t  H
set_option maxHeartbeats 4000000 in
set_option maxRecDepth 100000 in
theorem sX10_bedsOfAll  {h : am_H} {t : tS} {r : Int32} (hR_t : Rp h t)  (H : tX10_bedsOfAll  t = some r) : ex (fX10_bedsOfAll 218 h) (fun x => r = x) := by
  unfold tX10_bedsOfAll at H
  unfold fX10_bedsOfAll
  refine ex.bd (r_isO hR_t lk9) ?_
  obtain ⟨lw8, E10, H⟩ := am_bd H
  refine ex.j1 (sX10_bedsOfAll_L4 _ _ _ _ _ _ hR_t  E10) (fun z9 hq => ?_)
  clear E10
  obtain rfl : lw8 = z9 := hq
  obtain rfl := Option.some.inj H
  exact ex.nd rfl
def tX10_count (a1 : Int32) (t : tS) : Option (Int32 × tS) :=
  (some (uI t 218 0 ((0 : Int32)))).bind fun tt2 =>
  if a1.toInt < 0 ∨ 12 < a1.toInt then
    some ((-1 : Int32), tt2)
  else (some (a1.toInt - 0).toNat).bind fun k6 =>
  if k6 = 0 then
    (tA tt2 224 100 a1).bind fun x9 =>
    some (x9, tt2)
  else if k6 = 1 then
    (tA tt2 224 100 a1).bind fun x13 =>
    some (x13, tt2)
  else if k6 = 2 then
    (tA tt2 224 100 a1).bind fun x17 =>
    some (x17, tt2)
  else if k6 = 3 then
    (tA tt2 234 1081 ((0 : Int32))).bind fun x21 =>
    (am_dv x21 ((12 : Int32))).bind fun q23 =>
    some (q23, tt2)
  else if k6 = 4 then
    (tA tt2 234 1081 ((0 : Int32))).bind fun x27 =>
    (am_rm' x27 ((12 : Int32))).bind fun q29 =>
    some (q29, tt2)
  else if k6 = 5 then
    (tX10_somewhere ((0 : Int32)) tt2).bind fun x33 =>
    some (x33, tt2)
  else if k6 = 6 then
    (tX10_bedsOfAll  tt2).bind fun x37 =>
    some (x37, tt2)
  else if k6 = 7 then
    (tA tt2 234 1081 ((1 : Int32))).bind fun x41 =>
    some (x41, tt2)
  else if k6 = 8 then
    (tX10_fadedNow  tt2).bind fun x45 =>
    some (x45, tt2)
  else if k6 = 9 then
    (tA tt2 231 250 ((0 : Int32))).bind fun x49 =>
    some (x49, tt2)
  else if k6 = 10 then
    (tA tt2 234 1081 ((30 : Int32))).bind fun x53 =>
    some (x53, tt2)
  else if k6 = 11 then
    some (tt2.1 218 25, tt2)
  else if k6 = 12 then
    some (tt2.1 218 2, tt2)
  else none
set_option maxHeartbeats 4000000 in
set_option maxRecDepth 100000 in
theorem sX10_count {a1 : Int32} {h : am_H} {t : tS} {r : Int32} {t1 : tS} (hR_t : Rp h t)  (H : tX10_count a1 t = some (r, t1)) : ex (fX10_count 218 a1 h) (fun p => r = p.1 ∧ Rp p.2 t1) := by
  unfold tX10_count at H
  unfold fX10_count
  refine ex.bd (r_isO hR_t lk9) ?_
  obtain ⟨tt2, et3, H⟩ := am_bd H
  obtain ⟨hh1, e4, hR_tt2⟩ := r_pI (k := 0) (x := (0 : Int32)) hR_t lk9 rfl rfl
  rw [Option.some.inj et3] at hR_tt2
  refine ex.bd e4 ?_
  by_cases c5 : a1.toInt < 0 ∨ 12 < a1.toInt
  · rw [if_pos c5] at H
    refine ex.t c5 ?_
    obtain ⟨rfl, rfl⟩ := am_inj2 H
    exact ex.nd ⟨rfl, hR_tt2⟩
  · rw [if_neg c5] at H
    refine ex.f c5 ?_
    obtain ⟨k6, e7, H⟩ := am_bd H
    refine ex.bd e7 ?_
    by_cases c11 : k6 = 0
    · rw [if_pos c11] at H
      refine ex.t c11 ?_
      refine ex.bd (r_gR hR_tt2 lk9 rfl) ?_
      obtain ⟨x9, e10, H⟩ := am_bd H
      refine ex.bd (r_aI hR_tt2 (la9_10 (a := 218) (by decide)) e10) ?_
      obtain ⟨rfl, rfl⟩ := am_inj2 H
      exact ex.nd ⟨rfl, hR_tt2⟩
    · rw [if_neg c11] at H
      refine ex.f c11 ?_
      by_cases c15 : k6 = 1
      · rw [if_pos c15] at H
        refine ex.t c15 ?_
        refine ex.bd (r_gR hR_tt2 lk9 rfl) ?_
        obtain ⟨x13, e14, H⟩ := am_bd H
        refine ex.bd (r_aI hR_tt2 (la9_10 (a := 218) (by decide)) e14) ?_
        obtain ⟨rfl, rfl⟩ := am_inj2 H
        exact ex.nd ⟨rfl, hR_tt2⟩
      · rw [if_neg c15] at H
        refine ex.f c15 ?_
        by_cases c19 : k6 = 2
        · rw [if_pos c19] at H
          refine ex.t c19 ?_
          refine ex.bd (r_gR hR_tt2 lk9 rfl) ?_
          obtain ⟨x17, e18, H⟩ := am_bd H
          refine ex.bd (r_aI hR_tt2 (la9_10 (a := 218) (by decide)) e18) ?_
          obtain ⟨rfl, rfl⟩ := am_inj2 H
          exact ex.nd ⟨rfl, hR_tt2⟩
        · rw [if_neg c19] at H
          refine ex.f c19 ?_
          by_cases c25 : k6 = 3
          · rw [if_pos c25] at H
            refine ex.t c25 ?_
            refine ex.bd (r_gR hR_tt2 lk9 rfl) ?_
            obtain ⟨x21, e22, H⟩ := am_bd H
            refine ex.bd (r_aI hR_tt2 (la9_24 (a := 218) (by decide)) e22) ?_
            obtain ⟨q23, e24, H⟩ := am_bd H
            refine ex.bd e24 ?_
            obtain ⟨rfl, rfl⟩ := am_inj2 H
            exact ex.nd ⟨rfl, hR_tt2⟩
          · rw [if_neg c25] at H
            refine ex.f c25 ?_
            by_cases c31 : k6 = 4
            · rw [if_pos c31] at H
              refine ex.t c31 ?_
              refine ex.bd (r_gR hR_tt2 lk9 rfl) ?_
              obtain ⟨x27, e28, H⟩ := am_bd H
              refine ex.bd (r_aI hR_tt2 (la9_24 (a := 218) (by decide)) e28) ?_
              obtain ⟨q29, e30, H⟩ := am_bd H
              refine ex.bd e30 ?_
              obtain ⟨rfl, rfl⟩ := am_inj2 H
              exact ex.nd ⟨rfl, hR_tt2⟩
            · rw [if_neg c31] at H
              refine ex.f c31 ?_
              by_cases c35 : k6 = 5
              · rw [if_pos c35] at H
                refine ex.t c35 ?_
                obtain ⟨x33, e32, H⟩ := am_bd H
                refine ex.j1 (sX10_somewhere hR_tt2  e32) (fun z34 hz => ?_)
                obtain rfl : x33 = z34 := hz
                obtain ⟨rfl, rfl⟩ := am_inj2 H
                exact ex.nd ⟨rfl, hR_tt2⟩
              · rw [if_neg c35] at H
                refine ex.f c35 ?_
                by_cases c39 : k6 = 6
                · rw [if_pos c39] at H
                  refine ex.t c39 ?_
                  obtain ⟨x37, e36, H⟩ := am_bd H
                  refine ex.j1 (sX10_bedsOfAll hR_tt2  e36) (fun z38 hz => ?_)
                  obtain rfl : x37 = z38 := hz
                  obtain ⟨rfl, rfl⟩ := am_inj2 H
                  exact ex.nd ⟨rfl, hR_tt2⟩
                · rw [if_neg c39] at H
                  refine ex.f c39 ?_
                  by_cases c43 : k6 = 7
                  · rw [if_pos c43] at H
                    refine ex.t c43 ?_
                    refine ex.bd (r_gR hR_tt2 lk9 rfl) ?_
                    obtain ⟨x41, e42, H⟩ := am_bd H
                    refine ex.bd (r_aI hR_tt2 (la9_24 (a := 218) (by decide)) e42) ?_
                    obtain ⟨rfl, rfl⟩ := am_inj2 H
                    exact ex.nd ⟨rfl, hR_tt2⟩
                  · rw [if_neg c43] at H
                    refine ex.f c43 ?_
                    by_cases c47 : k6 = 8
                    · rw [if_pos c47] at H
                      refine ex.t c47 ?_
                      obtain ⟨x45, e44, H⟩ := am_bd H
                      refine ex.j1 (sX10_fadedNow hR_tt2  e44) (fun z46 hz => ?_)
                      obtain rfl : x45 = z46 := hz
                      obtain ⟨rfl, rfl⟩ := am_inj2 H
                      exact ex.nd ⟨rfl, hR_tt2⟩
                    · rw [if_neg c47] at H
                      refine ex.f c47 ?_
                      by_cases c51 : k6 = 9
                      · rw [if_pos c51] at H
                        refine ex.t c51 ?_
                        refine ex.bd (r_gR hR_tt2 lk9 rfl) ?_
                        obtain ⟨x49, e50, H⟩ := am_bd H
                        refine ex.bd (r_aI hR_tt2 (la9_21 (a := 218) (by decide)) e50) ?_
                        obtain ⟨rfl, rfl⟩ := am_inj2 H
                        exact ex.nd ⟨rfl, hR_tt2⟩
                      · rw [if_neg c51] at H
                        refine ex.f c51 ?_
                        by_cases c55 : k6 = 10
                        · rw [if_pos c55] at H
                          refine ex.t c55 ?_
                          refine ex.bd (r_gR hR_tt2 lk9 rfl) ?_
                          obtain ⟨x53, e54, H⟩ := am_bd H
                          refine ex.bd (r_aI hR_tt2 (la9_24 (a := 218) (by decide)) e54) ?_
                          obtain ⟨rfl, rfl⟩ := am_inj2 H
                          exact ex.nd ⟨rfl, hR_tt2⟩
                        · rw [if_neg c55] at H
                          refine ex.f c55 ?_
                          by_cases c57 : k6 = 11
                          · rw [if_pos c57] at H
                            refine ex.t c57 ?_
                            refine ex.bd (r_gI hR_tt2 lk9 rfl) ?_
                            obtain ⟨rfl, rfl⟩ := am_inj2 H
                            exact ex.nd ⟨rfl, hR_tt2⟩
                          · rw [if_neg c57] at H
                            refine ex.f c57 ?_
                            by_cases c59 : k6 = 12
                            · rw [if_pos c59] at H
                              refine ex.t c59 ?_
                              refine ex.bd (r_gI hR_tt2 lk9 rfl) ?_
                              obtain ⟨rfl, rfl⟩ := am_inj2 H
                              exact ex.nd ⟨rfl, hR_tt2⟩
                            · rw [if_neg c59] at H
                              refine ex.f c59 ?_
                              cases H
