/-! typed functions -/
def tX10_doesHold (a1 : Int32) (a2 : Int32) (a3 : Int32) (t : tS) : Option (Int32) :=
  (tX10_freeOf a1 a2 t).bind fun x2 =>
  (tX10_widthOf a3 t).bind fun x5 =>
  Option.bind (
    if x2 < x5 then
      some ((0 : Int32))
    else
      (tX10_inHouse a1 a2 t).bind fun x10 =>
      (tX10_dayOf a3 ((4 : Int32)) t).bind fun x13 =>
      if ¬ (x10 &&& x13) = 0 then
        some ((0 : Int32))
      else
        some ((1 : Int32))) fun js7 =>
  (am_z01 js7).bind fun b16 =>
  some b16
set_option maxHeartbeats 4000000 in
set_option maxRecDepth 100000 in
theorem sX10_doesHold {a1 : Int32} {a2 : Int32} {a3 : Int32} {h : am_H} {t : tS} {r : Int32} (hR_t : Rp h t)  (H : tX10_doesHold a1 a2 a3 t = some r) : ex (fX10_doesHold 218 a1 a2 a3 h) (fun x => r = x) := by
  unfold tX10_doesHold at H
  unfold fX10_doesHold
  refine ex.bd (r_isO hR_t lk9) ?_
  obtain ⟨x2, e1, H⟩ := am_bd H
  refine ex.j1 (sX10_freeOf hR_t  e1) (fun z3 hz => ?_)
  obtain rfl : x2 = z3 := hz
  obtain ⟨x5, e4, H⟩ := am_bd H
  refine ex.j1 (sX10_widthOf hR_t  e4) (fun z6 hz => ?_)
  obtain rfl : x5 = z6 := hz
  obtain ⟨js7, E18, H⟩ := am_bd H
  refine ex.j1 (Q := fun p => js7 = p) ?_ (fun z19 hq => ?_)
  · clear H
    have H := E18
    clear E18
    by_cases c8 : x2 < x5
    · rw [if_pos c8] at H
      refine ex.t c8 ?_
      obtain rfl := Option.some.inj H
      exact ex.nd rfl
    · rw [if_neg c8] at H
      refine ex.f c8 ?_
      obtain ⟨x10, e9, H⟩ := am_bd H
      refine ex.j1 (sX10_inHouse hR_t  e9) (fun z11 hz => ?_)
      obtain rfl : x10 = z11 := hz
      obtain ⟨x13, e12, H⟩ := am_bd H
      refine ex.j1 (sX10_dayOf hR_t  e12) (fun z14 hz => ?_)
      obtain rfl : x13 = z14 := hz
      by_cases c15 : ¬ (x10 &&& x13) = 0
      · rw [if_pos c15] at H
        refine ex.t c15 ?_
        obtain rfl := Option.some.inj H
        exact ex.nd rfl
      · rw [if_neg c15] at H
        refine ex.f c15 ?_
        obtain rfl := Option.some.inj H
        exact ex.nd rfl
  · clear E18
    obtain rfl : js7 = z19 := hq
    obtain ⟨b16, e17, H⟩ := am_bd H
    refine ex.bd e17 ?_
    obtain rfl := Option.some.inj H
    exact ex.nd rfl
def tX10_bits_L4 : Nat → Int32 → Int32 → Int32 → tS → Option (Int32)
  | 0, _, _, _, _ => none
  | n + 1, v0, v1, v2, t =>
    if ((30 : Int32)) ≤ v2 then
      some v1
    else
      tX10_bits_L4 n v0 (v1 + ((v0 >>> (v2 &&& 31)) &&& ((1 : Int32)))) (v2 + (1 : Int32)) t
def tX10_bits (a0 : Int32) (t : tS) : Option (Int32) :=
  Option.bind (tX10_bits_L4 4000 a0 ((0 : Int32)) ((0 : Int32)) t) fun lw2 =>
  some lw2
set_option maxHeartbeats 4000000 in
set_option maxRecDepth 100000 in
theorem sX10_bits_L4 : ∀ (n : Nat) (v0 : Int32) (v1 : Int32) (v2 : Int32) (h : am_H) (t : tS) (w1 : Int32), Rp h t → tX10_bits_L4 n v0 v1 v2 t = some w1 → ex (fX10_bits_L4 n v0 v1 v2 h) (fun p => w1 = p) := by
  intro n
  induction n with
  | zero => intro _ _ _ _ _ _ _ H; cases H
  | succ n ih =>
    intro v0 v1 v2 h t w1 hR_t H
    rw [tX10_bits_L4] at H
    rw [fX10_bits_L4]
    by_cases c1 : ((30 : Int32)) ≤ v2
    · rw [if_pos c1] at H
      refine ex.t c1 ?_
      obtain rfl := Option.some.inj H
      exact ex.nd rfl
    · rw [if_neg c1] at H
      refine ex.f c1 ?_
      exact ih _ _ _ _ _ _ hR_t  H
set_option maxHeartbeats 4000000 in
set_option maxRecDepth 100000 in
theorem sX10_bits {a0 : Int32} {h : am_H} {t : tS} {r : Int32} (hR_t : Rp h t)  (H : tX10_bits a0 t = some r) : ex (fX10_bits a0 h) (fun x => r = x) := by
  unfold tX10_bits at H
  unfold fX10_bits
  obtain ⟨lw2, E4, H⟩ := am_bd H
  refine ex.j1 (sX10_bits_L4 _ _ _ _ _ _ _ hR_t  E4) (fun z3 hq => ?_)
  clear E4
  obtain rfl : lw2 = z3 := hq
  obtain rfl := Option.some.inj H
  exact ex.nd rfl
def tX10_somewhere_L4 : Nat → Int32 → Int32 → Int32 → tS → Option (Int32)
  | 0, _, _, _, _ => none
  | n + 1, v1, v2, v3, t =>
    (tX10_days  t).bind fun x2 =>
    if x2 ≤ v3 then
      some v2
    else
      (tA t 234 1081 ((v1 + ((6 : Int32))) + v3)).bind fun x6 =>
      Option.bind (
        if x6 < 0 then
          some ((0 : Int32))
        else
          some (((1 : Int32)) <<< (v3 &&& 31))) fun js8 =>
      tX10_somewhere_L4 n v1 (v2 ||| js8) (v3 + (1 : Int32)) t
def tX10_somewhere (a1 : Int32) (t : tS) : Option (Int32) :=
  Option.bind (tX10_somewhere_L4 4000 a1 ((0 : Int32)) ((0 : Int32)) t) fun lw12 =>
  some lw12
set_option maxHeartbeats 4000000 in
set_option maxRecDepth 100000 in
theorem sX10_somewhere_L4 : ∀ (n : Nat) (v1 : Int32) (v2 : Int32) (v3 : Int32) (h : am_H) (t : tS) (w2 : Int32), Rp h t → tX10_somewhere_L4 n v1 v2 v3 t = some w2 → ex (fX10_somewhere_L4 n 218 v1 v2 v3 h) (fun p => w2 = p) := by
  intro n
  induction n with
  | zero => intro _ _ _ _ _ _ _ H; cases H
  | succ n ih =>
    intro v1 v2 v3 h t w2 hR_t H
    rw [tX10_somewhere_L4] at H
    rw [fX10_somewhere_L4]
    obtain ⟨x2, e1, H⟩ := am_bd H
    refine ex.j1 (sX10_days hR_t  e1) (fun z3 hz => ?_)
    obtain rfl : x2 = z3 := hz
    by_cases c4 : x2 ≤ v3
    · rw [if_pos c4] at H
      refine ex.t c4 ?_
      obtain rfl := Option.some.inj H
      exact ex.nd rfl
    · rw [if_neg c4] at H
      refine ex.f c4 ?_
      refine ex.bd (r_gR hR_t lk9 rfl) ?_
      obtain ⟨x6, e7, H⟩ := am_bd H
      refine ex.bd (r_aI hR_t (la9_24 (a := 218) (by decide)) e7) ?_
      obtain ⟨js8, E10, H⟩ := am_bd H
      refine ex.j1 (Q := fun p => js8 = p) ?_ (fun z11 hq => ?_)
      · clear H
        have H := E10
        clear E10
        by_cases c9 : x6 < 0
        · rw [if_pos c9] at H
          refine ex.t c9 ?_
          obtain rfl := Option.some.inj H
          exact ex.nd rfl
        · rw [if_neg c9] at H
          refine ex.f c9 ?_
          obtain rfl := Option.some.inj H
          exact ex.nd rfl
      · clear E10
        obtain rfl : js8 = z11 := hq
        exact ih _ _ _ _ _ _ hR_t  H
set_option maxHeartbeats 4000000 in
set_option maxRecDepth 100000 in
theorem sX10_somewhere {a1 : Int32} {h : am_H} {t : tS} {r : Int32} (hR_t : Rp h t)  (H : tX10_somewhere a1 t = some r) : ex (fX10_somewhere 218 a1 h) (fun x => r = x) := by
  unfold tX10_somewhere at H
  unfold fX10_somewhere
  refine ex.bd (r_isO hR_t lk9) ?_
  obtain ⟨lw12, E14, H⟩ := am_bd H
  refine ex.j1 (sX10_somewhere_L4 _ _ _ _ _ _ _ hR_t  E14) (fun z13 hq => ?_)
  clear E14
  obtain rfl : lw12 = z13 := hq
  obtain rfl := Option.some.inj H
  exact ex.nd rfl
def tX10_leaves (a1 : Int32) (a2 : Int32) (t : tS) : Option (tS) :=
  (tWA t 0 234 1081 ((a1 + ((6 : Int32))) + a2) ((-1 : Int32))).bind fun tt3 =>
  (tWA tt3 0 234 1081 ((a1 + ((12 : Int32))) + a2) ((0 : Int32))).bind fun tt8 =>
  some tt8
set_option maxHeartbeats 4000000 in
set_option maxRecDepth 100000 in
theorem sX10_leaves {a1 : Int32} {a2 : Int32} {h : am_H} {t : tS} {t1 : tS} (hR_t : Rp h t)  (H : tX10_leaves a1 a2 t = some t1) : ex (fX10_leaves 218 a1 a2 h) (fun h1 => Rp h1 t1) := by
  unfold tX10_leaves at H
  unfold fX10_leaves
  refine ex.bd (r_isO hR_t lk9) ?_
  refine ex.bd (r_gR hR_t lk9 rfl) ?_
  obtain ⟨tt3, e4, H⟩ := am_bd H
  obtain ⟨hh2, e5, hR_tt3⟩ := r_sI hR_t (la9_24 (a := 218) (by decide)) e4
  refine ex.bd e5 ?_
  refine ex.bd (r_gR hR_tt3 lk9 rfl) ?_
  obtain ⟨tt8, e9, H⟩ := am_bd H
  obtain ⟨hh7, e10, hR_tt8⟩ := r_sI hR_tt3 (la9_24 (a := 218) (by decide)) e9
  refine ex.bd e10 ?_
  obtain rfl := Option.some.inj H
  exact ex.nd hR_tt8
def tX10_isDate (a1 : Int32) (a2 : Int32) (t : tS) : Option (Int32) :=
  (tX10_dayOf a2 ((0 : Int32)) t).bind fun x2 =>
  (tA t 234 1081 (a1 + ((0 : Int32)))).bind fun x5 =>
  (am_rm' x5 ((12 : Int32))).bind fun q7 =>
  Option.bind (
    if ¬ x2 = ((2 : Int32)) then
      (tA t 236 6 a2).bind fun x12 =>
      if ¬ q7 = x12 then
        some ((0 : Int32))
      else
        if ¬ x2 = ((3 : Int32)) then
          some ((1 : Int32))
        else
          (tA t 234 1081 (a1 + ((0 : Int32)))).bind fun x17 =>
          (am_dv x17 ((12 : Int32))).bind fun q19 =>
          (am_rm' q19 ((4 : Int32))).bind fun q21 =>
          if ¬ q21 = 0 then
            some ((0 : Int32))
          else
            some ((1 : Int32))
    else
      (am_rm' (q7 + ((1 : Int32))) ((12 : Int32))).bind fun q24 =>
      (tA t 236 6 a2).bind fun x27 =>
      if ¬ q24 = x27 then
        some ((0 : Int32))
      else
        some ((1 : Int32))) fun js9 =>
  (am_z01 js9).bind fun b30 =>
  some b30
set_option maxHeartbeats 4000000 in
set_option maxRecDepth 100000 in
theorem sX10_isDate {a1 : Int32} {a2 : Int32} {h : am_H} {t : tS} {r : Int32} (hR_t : Rp h t)  (H : tX10_isDate a1 a2 t = some r) : ex (fX10_isDate 218 a1 a2 h) (fun x => r = x) := by
  unfold tX10_isDate at H
  unfold fX10_isDate
  refine ex.bd (r_isO hR_t lk9) ?_
  obtain ⟨x2, e1, H⟩ := am_bd H
  refine ex.j1 (sX10_dayOf hR_t  e1) (fun z3 hz => ?_)
  obtain rfl : x2 = z3 := hz
  refine ex.bd (r_gR hR_t lk9 rfl) ?_
  obtain ⟨x5, e6, H⟩ := am_bd H
  refine ex.bd (r_aI hR_t (la9_24 (a := 218) (by decide)) e6) ?_
  obtain ⟨q7, e8, H⟩ := am_bd H
  refine ex.bd e8 ?_
  obtain ⟨js9, E32, H⟩ := am_bd H
  refine ex.j1 (Q := fun p => js9 = p) ?_ (fun z33 hq => ?_)
  · clear H
    have H := E32
    clear E32
    by_cases c10 : ¬ x2 = ((2 : Int32))
    · rw [if_pos c10] at H
      refine ex.t c10 ?_
      refine ex.bd (r_gR hR_t lk9 rfl) ?_
      obtain ⟨x12, e13, H⟩ := am_bd H
      refine ex.bd (r_aI hR_t (la9_27 (a := 218) (by decide)) e13) ?_
      by_cases c14 : ¬ q7 = x12
      · rw [if_pos c14] at H
        refine ex.t c14 ?_
        obtain rfl := Option.some.inj H
        exact ex.nd rfl
      · rw [if_neg c14] at H
        refine ex.f c14 ?_
        by_cases c15 : ¬ x2 = ((3 : Int32))
        · rw [if_pos c15] at H
          refine ex.t c15 ?_
          obtain rfl := Option.some.inj H
          exact ex.nd rfl
        · rw [if_neg c15] at H
          refine ex.f c15 ?_
          refine ex.bd (r_gR hR_t lk9 rfl) ?_
          obtain ⟨x17, e18, H⟩ := am_bd H
          refine ex.bd (r_aI hR_t (la9_24 (a := 218) (by decide)) e18) ?_
          obtain ⟨q19, e20, H⟩ := am_bd H
          refine ex.bd e20 ?_
          obtain ⟨q21, e22, H⟩ := am_bd H
          refine ex.bd e22 ?_
          by_cases c23 : ¬ q21 = 0
          · rw [if_pos c23] at H
            refine ex.t c23 ?_
            obtain rfl := Option.some.inj H
            exact ex.nd rfl
          · rw [if_neg c23] at H
            refine ex.f c23 ?_
            obtain rfl := Option.some.inj H
            exact ex.nd rfl
    · rw [if_neg c10] at H
      refine ex.f c10 ?_
      obtain ⟨q24, e25, H⟩ := am_bd H
      refine ex.bd e25 ?_
      refine ex.bd (r_gR hR_t lk9 rfl) ?_
      obtain ⟨x27, e28, H⟩ := am_bd H
      refine ex.bd (r_aI hR_t (la9_27 (a := 218) (by decide)) e28) ?_
      by_cases c29 : ¬ q24 = x27
      · rw [if_pos c29] at H
        refine ex.t c29 ?_
        obtain rfl := Option.some.inj H
        exact ex.nd rfl
      · rw [if_neg c29] at H
        refine ex.f c29 ?_
        obtain rfl := Option.some.inj H
        exact ex.nd rfl
  · clear E32
    obtain rfl : js9 = z33 := hq
    obtain ⟨b30, e31, H⟩ := am_bd H
    refine ex.bd e31 ?_
    obtain rfl := Option.some.inj H
    exact ex.nd rfl
def tX10_bedFor_L22 : Nat → Int32 → Int32 → Int32 → Int32 → tS → Option ((Unit) ⊕ (Int32))
  | 0, _, _, _, _, _ => none
  | n + 1, v1, v2, v3, v4, t =>
    (tX10_houses  t).bind fun x9 =>
    if x9 ≤ v4 then
      some (.inl ())
    else
      (tX10_houseOf v3 ((1 : Int32)) t).bind fun x13 =>
      if ¬ ((x13 >>> (v4 &&& 31)) &&& ((1 : Int32))) = ((1 : Int32)) then
        tX10_bedFor_L22 n v1 v2 v3 (v4 + (1 : Int32)) t
      else
        (tX10_doesHold v1 v4 v2 t).bind fun x17 =>
        if x17 = 0 then
          tX10_bedFor_L22 n v1 v2 v3 (v4 + (1 : Int32)) t
        else
          some (.inr v4)
def tX10_bedFor (a1 : Int32) (a2 : Int32) (t : tS) : Option (Int32) :=
  (tX10_dayOf a2 ((1 : Int32)) t).bind fun x2 =>
  (tX10_doesHold a1 x2 a2 t).bind fun x5 =>
  if x5 = 0 then
    (tX10_bedFor_L22 4000 a1 a2 x2 ((0 : Int32)) t).bind fun o21 => match o21 with
      | .inl _ =>
        some ((-1 : Int32))
      | .inr y22 => some y22
  else
    some x2
set_option maxHeartbeats 4000000 in
set_option maxRecDepth 100000 in
theorem sX10_bedFor_L22 : ∀ (n : Nat) (v1 : Int32) (v2 : Int32) (v3 : Int32) (v4 : Int32) (h : am_H) (t : tS) (o : (Unit) ⊕ (Int32)), Rp h t → tX10_bedFor_L22 n v1 v2 v3 v4 t = some o → ex (fX10_bedFor_L22 n 218 v1 v2 v3 v4 h) (fun p => match o, p with
    | .inl _, .inl _ => True
    | .inr y, .inr z => y = z
    | _, _ => False) := by
  intro n
  induction n with
  | zero => intro _ _ _ _ _ _ _ _ H; cases H
  | succ n ih =>
    intro v1 v2 v3 v4 h t o hR_t H
    rw [tX10_bedFor_L22] at H
    rw [fX10_bedFor_L22]
    obtain ⟨x9, e8, H⟩ := am_bd H
    refine ex.j1 (sX10_houses hR_t  e8) (fun z10 hz => ?_)
    obtain rfl : x9 = z10 := hz
    by_cases c11 : x9 ≤ v4
    · rw [if_pos c11] at H
      refine ex.t c11 ?_
      obtain rfl := Option.some.inj H
      exact ex.nd trivial
    · rw [if_neg c11] at H
      refine ex.f c11 ?_
      obtain ⟨x13, e12, H⟩ := am_bd H
      refine ex.j1 (sX10_houseOf hR_t  e12) (fun z14 hz => ?_)
      obtain rfl : x13 = z14 := hz
      by_cases c15 : ¬ ((x13 >>> (v4 &&& 31)) &&& ((1 : Int32))) = ((1 : Int32))
      · rw [if_pos c15] at H
        refine ex.t c15 ?_
        exact ih _ _ _ _ _ _ _ hR_t  H
      · rw [if_neg c15] at H
        refine ex.f c15 ?_
        obtain ⟨x17, e16, H⟩ := am_bd H
        refine ex.j1 (sX10_doesHold hR_t  e16) (fun z18 hz => ?_)
        obtain rfl : x17 = z18 := hz
        by_cases c19 : x17 = 0
        · rw [if_pos c19] at H
          refine ex.t c19 ?_
          exact ih _ _ _ _ _ _ _ hR_t  H
        · rw [if_neg c19] at H
          refine ex.f c19 ?_
          obtain rfl := Option.some.inj H
          exact ex.nd rfl
set_option maxHeartbeats 4000000 in
set_option maxRecDepth 100000 in
theorem sX10_bedFor {a1 : Int32} {a2 : Int32} {h : am_H} {t : tS} {r : Int32} (hR_t : Rp h t)  (H : tX10_bedFor a1 a2 t = some r) : ex (fX10_bedFor 218 a1 a2 h) (fun x => r = x) := by
  unfold tX10_bedFor at H
  unfold fX10_bedFor
  refine ex.bd (r_isO hR_t lk9) ?_
  obtain ⟨x2, e1, H⟩ := am_bd H
  refine ex.j1 (sX10_dayOf hR_t  e1) (fun z3 hz => ?_)
  obtain rfl : x2 = z3 := hz
  obtain ⟨x5, e4, H⟩ := am_bd H
  refine ex.j1 (sX10_doesHold hR_t  e4) (fun z6 hz => ?_)
  obtain rfl : x5 = z6 := hz
  by_cases c7 : x5 = 0
  · rw [if_pos c7] at H
    refine ex.t c7 ?_
    obtain ⟨o21, E20, H⟩ := am_bd H
    refine ex.j1 (sX10_bedFor_L22 _ _ _ _ _ _ _ _ hR_t  E20) (fun p23 hq => ?_)
    clear E20
    rcases o21 with _ | y22
    · rcases p23 with _ | z24
      · dsimp only at H hq ⊢
        obtain rfl := Option.some.inj H
        exact ex.nd rfl
      · exact hq.elim
    · rcases p23 with _ | z24
      · exact hq.elim
      · dsimp only at H ⊢
        obtain rfl := Option.some.inj H
        exact ex.nd hq
  · rw [if_neg c7] at H
    refine ex.f c7 ?_
    obtain rfl := Option.some.inj H
    exact ex.nd rfl
def tX10_comes (a1 : Int32) (a2 : Int32) (t : tS) : Option (tS) :=
  (tX10_bedFor a1 a2 t).bind fun x2 =>
  if 0 ≤ x2 then
    (some (uI t 218 28 ((t.1 218 28) ||| (((1 : Int32)) <<< (a2 &&& 31))))).bind fun tt7 =>
    (tWA tt7 0 234 1081 ((a1 + ((6 : Int32))) + a2) x2).bind fun tt12 =>
    (tWA tt12 0 234 1081 ((a1 + ((12 : Int32))) + a2) ((0 : Int32))).bind fun tt17 =>
    (tA tt17 234 1081 ((a1 + ((24 : Int32))) + a2)).bind fun x21 =>
    (tWA tt17 0 234 1081 ((a1 + ((24 : Int32))) + a2) (x21 + ((1 : Int32)))).bind fun tt24 =>
    (tA tt24 234 1081 ((a1 + ((18 : Int32))) + a2)).bind fun x28 =>
    (tWA tt24 0 232 4 ((0 : Int32)) x28).bind fun tt32 =>
    (tX10_inHouse a1 x2 tt32).bind fun x37 =>
    (tX10_bits x37 tt32).bind fun x40 =>
    (tWA tt32 0 232 4 ((1 : Int32)) x40).bind fun tt43 =>
    (tA tt43 234 1081 (a1 + ((0 : Int32)))).bind fun x48 =>
    (am_rm' x48 ((12 : Int32))).bind fun q50 =>
    (tWA tt43 0 232 4 ((2 : Int32)) q50).bind fun tt53 =>
    (tA tt53 234 1081 ((a1 + ((24 : Int32))) + a2)).bind fun x58 =>
    (tWA tt53 0 232 4 ((3 : Int32)) x58).bind fun tt61 =>
    (tA tt61 224 100 ((3 : Int32))).bind fun x65 =>
    am_b2 (
      if 0 ≤ x65 then
        (tA tt61 224 100 ((3 : Int32))).bind fun x72 =>
        am_b2 (tX10_worthAt x72 tt61) fun x75 tt77 =>
        some (x75, tt77)
      else
        some ((-1 : Int32), tt61)) fun js67 tt69 =>
    Option.bind (
      if ((-9 : Int32)) ≤ js67 then
        if js67 ≤ ((9 : Int32)) then
          some js67
        else
          some ((9 : Int32))
      else
        some ((-9 : Int32))) fun js79 =>
    Option.bind (
      if 0 ≤ (x28 + js79) then
        if (x28 + js79) ≤ ((99 : Int32)) then
          some (x28 + js79)
        else
          some ((99 : Int32))
      else
        some ((0 : Int32))) fun js83 =>
    (tWA tt69 0 234 1081 ((a1 + ((18 : Int32))) + a2) js83).bind fun tt87 =>
    some tt87
  else
    (some (uI t 218 29 ((t.1 218 29) ||| (((1 : Int32)) <<< (a2 &&& 31))))).bind fun tt98 =>
    (tA tt98 234 1081 (a1 + ((1 : Int32)))).bind fun x102 =>
    (tWA tt98 0 234 1081 (a1 + ((1 : Int32))) (x102 + ((1 : Int32)))).bind fun tt105 =>
    some tt105
set_option maxHeartbeats 4000000 in
set_option maxRecDepth 100000 in
theorem sX10_comes {a1 : Int32} {a2 : Int32} {h : am_H} {t : tS} {t1 : tS} (hR_t : Rp h t)  (H : tX10_comes a1 a2 t = some t1) : ex (fX10_comes 218 a1 a2 h) (fun h1 => Rp h1 t1) := by
  unfold tX10_comes at H
  unfold fX10_comes
  refine ex.bd (r_isO hR_t lk9) ?_
  obtain ⟨x2, e1, H⟩ := am_bd H
  refine ex.j1 (sX10_bedFor hR_t  e1) (fun z3 hz => ?_)
  obtain rfl : x2 = z3 := hz
  by_cases c4 : 0 ≤ x2
  · rw [if_pos c4] at H
    refine ex.t c4 ?_
    refine ex.bd (r_gI hR_t lk9 rfl) ?_
    obtain ⟨tt7, et8, H⟩ := am_bd H
    obtain ⟨hh6, e9, hR_tt7⟩ := r_pI (k := 28) (x := (t.1 218 28) ||| (((1 : Int32)) <<< (a2 &&& 31))) hR_t lk9 rfl rfl
    rw [Option.some.inj et8] at hR_tt7
    refine ex.bd e9 ?_
    refine ex.bd (r_gR hR_tt7 lk9 rfl) ?_
    obtain ⟨tt12, e13, H⟩ := am_bd H
    obtain ⟨hh11, e14, hR_tt12⟩ := r_sI hR_tt7 (la9_24 (a := 218) (by decide)) e13
    refine ex.bd e14 ?_
    refine ex.bd (r_gR hR_tt12 lk9 rfl) ?_
    obtain ⟨tt17, e18, H⟩ := am_bd H
    obtain ⟨hh16, e19, hR_tt17⟩ := r_sI hR_tt12 (la9_24 (a := 218) (by decide)) e18
    refine ex.bd e19 ?_
    refine ex.bd (r_gR hR_tt17 lk9 rfl) ?_
    obtain ⟨x21, e22, H⟩ := am_bd H
    refine ex.bd (r_aI hR_tt17 (la9_24 (a := 218) (by decide)) e22) ?_
    obtain ⟨tt24, e25, H⟩ := am_bd H
    obtain ⟨hh23, e26, hR_tt24⟩ := r_sI hR_tt17 (la9_24 (a := 218) (by decide)) e25
    refine ex.bd e26 ?_
    refine ex.bd (r_gR hR_tt24 lk9 rfl) ?_
    obtain ⟨x28, e29, H⟩ := am_bd H
    refine ex.bd (r_aI hR_tt24 (la9_24 (a := 218) (by decide)) e29) ?_
    refine ex.bd (r_gR hR_tt24 lk9 rfl) ?_
    obtain ⟨tt32, e33, H⟩ := am_bd H
    obtain ⟨hh31, e34, hR_tt32⟩ := r_sI hR_tt24 (la9_22 (a := 218) (by decide)) e33
    refine ex.bd e34 ?_
    refine ex.bd (r_gR hR_tt32 lk9 rfl) ?_
    obtain ⟨x37, e36, H⟩ := am_bd H
    refine ex.j1 (sX10_inHouse hR_tt32  e36) (fun z38 hz => ?_)
    obtain rfl : x37 = z38 := hz
    obtain ⟨x40, e39, H⟩ := am_bd H
    refine ex.j1 (sX10_bits hR_tt32  e39) (fun z41 hz => ?_)
    obtain rfl : x40 = z41 := hz
    obtain ⟨tt43, e44, H⟩ := am_bd H
    obtain ⟨hh42, e45, hR_tt43⟩ := r_sI hR_tt32 (la9_22 (a := 218) (by decide)) e44
    refine ex.bd e45 ?_
    refine ex.bd (r_gR hR_tt43 lk9 rfl) ?_
    refine ex.bd (r_gR hR_tt43 lk9 rfl) ?_
    obtain ⟨x48, e49, H⟩ := am_bd H
    refine ex.bd (r_aI hR_tt43 (la9_24 (a := 218) (by decide)) e49) ?_
    obtain ⟨q50, e51, H⟩ := am_bd H
    refine ex.bd e51 ?_
    obtain ⟨tt53, e54, H⟩ := am_bd H
    obtain ⟨hh52, e55, hR_tt53⟩ := r_sI hR_tt43 (la9_22 (a := 218) (by decide)) e54
    refine ex.bd e55 ?_
    refine ex.bd (r_gR hR_tt53 lk9 rfl) ?_
    refine ex.bd (r_gR hR_tt53 lk9 rfl) ?_
    obtain ⟨x58, e59, H⟩ := am_bd H
    refine ex.bd (r_aI hR_tt53 (la9_24 (a := 218) (by decide)) e59) ?_
    obtain ⟨tt61, e62, H⟩ := am_bd H
    obtain ⟨hh60, e63, hR_tt61⟩ := r_sI hR_tt53 (la9_22 (a := 218) (by decide)) e62
    refine ex.bd e63 ?_
    refine ex.bd (r_gR hR_tt61 lk9 rfl) ?_
    obtain ⟨x65, e66, H⟩ := am_bd H
    refine ex.bd (r_aI hR_tt61 (la9_10 (a := 218) (by decide)) e66) ?_
    obtain ⟨js67, tt69, E94, H⟩ := am_bd2 H
    refine ex.j2 (Q := fun p => js67 = p.1 ∧ Rp p.2 tt69) ?_ (fun z95 hh68 hq => ?_)
    · clear H
      have H := E94
      clear E94
      by_cases c70 : 0 ≤ x65
      · rw [if_pos c70] at H
        refine ex.t c70 ?_
        refine ex.bd (r_gR hR_tt61 lk9 rfl) ?_
        obtain ⟨x72, e73, H⟩ := am_bd H
        refine ex.bd (r_aI hR_tt61 (la9_10 (a := 218) (by decide)) e73) ?_
        obtain ⟨x75, tt77, e74, H⟩ := am_bd2 H
        refine ex.j2 (sX10_worthAt hR_tt61  e74) (fun z78 hh76 hz => ?_)
        obtain ⟨rfl, hR_tt77⟩ : x75 = z78 ∧ Rp hh76 tt77 := hz
        obtain ⟨rfl, rfl⟩ := am_inj2 H
        exact ex.nd ⟨rfl, hR_tt77⟩
      · rw [if_neg c70] at H
        refine ex.f c70 ?_
        obtain ⟨rfl, rfl⟩ := am_inj2 H
        exact ex.nd ⟨rfl, hR_tt61⟩
    · clear E94
      obtain ⟨rfl, hR_tt69⟩ : js67 = z95 ∧ Rp hh68 tt69 := hq
      obtain ⟨js79, E92, H⟩ := am_bd H
      refine ex.j1 (Q := fun p => js79 = p) ?_ (fun z93 hq => ?_)
      · clear H
        have H := E92
        clear E92
        by_cases c80 : ((-9 : Int32)) ≤ js67
        · rw [if_pos c80] at H
          refine ex.t c80 ?_
          by_cases c81 : js67 ≤ ((9 : Int32))
          · rw [if_pos c81] at H
            refine ex.t c81 ?_
            obtain rfl := Option.some.inj H
            exact ex.nd rfl
          · rw [if_neg c81] at H
            refine ex.f c81 ?_
            obtain rfl := Option.some.inj H
            exact ex.nd rfl
        · rw [if_neg c80] at H
          refine ex.f c80 ?_
          obtain rfl := Option.some.inj H
          exact ex.nd rfl
      · clear E92
        obtain rfl : js79 = z93 := hq
        refine ex.bd (r_gR hR_tt69 lk9 rfl) ?_
        obtain ⟨js83, E90, H⟩ := am_bd H
        refine ex.j1 (Q := fun p => js83 = p) ?_ (fun z91 hq => ?_)
        · clear H
          have H := E90
          clear E90
          by_cases c84 : 0 ≤ (x28 + js79)
          · rw [if_pos c84] at H
            refine ex.t c84 ?_
            by_cases c85 : (x28 + js79) ≤ ((99 : Int32))
            · rw [if_pos c85] at H
              refine ex.t c85 ?_
              obtain rfl := Option.some.inj H
              exact ex.nd rfl
            · rw [if_neg c85] at H
              refine ex.f c85 ?_
              obtain rfl := Option.some.inj H
              exact ex.nd rfl
          · rw [if_neg c84] at H
            refine ex.f c84 ?_
            obtain rfl := Option.some.inj H
            exact ex.nd rfl
        · clear E90
          obtain rfl : js83 = z91 := hq
          obtain ⟨tt87, e88, H⟩ := am_bd H
          obtain ⟨hh86, e89, hR_tt87⟩ := r_sI hR_tt69 (la9_24 (a := 218) (by decide)) e88
          refine ex.bd e89 ?_
          obtain rfl := Option.some.inj H
          exact ex.nd hR_tt87
  · rw [if_neg c4] at H
    refine ex.f c4 ?_
    refine ex.bd (r_gI hR_t lk9 rfl) ?_
    obtain ⟨tt98, et99, H⟩ := am_bd H
    obtain ⟨hh97, e100, hR_tt98⟩ := r_pI (k := 29) (x := (t.1 218 29) ||| (((1 : Int32)) <<< (a2 &&& 31))) hR_t lk9 rfl rfl
    rw [Option.some.inj et99] at hR_tt98
    refine ex.bd e100 ?_
    refine ex.bd (r_gR hR_tt98 lk9 rfl) ?_
    obtain ⟨x102, e103, H⟩ := am_bd H
    refine ex.bd (r_aI hR_tt98 (la9_24 (a := 218) (by decide)) e103) ?_
    obtain ⟨tt105, e106, H⟩ := am_bd H
    obtain ⟨hh104, e107, hR_tt105⟩ := r_sI hR_tt98 (la9_24 (a := 218) (by decide)) e106
    refine ex.bd e107 ?_
    obtain rfl := Option.some.inj H
    exact ex.nd hR_tt105
def tX10_passes_L24 : Nat → Int32 → Int32 → tS → Option (tS)
  | 0, _, _, _ => none
  | n + 1, v1, v2, t =>
    (tX10_days  t).bind fun x17 =>
    if x17 ≤ v2 then
      some t
    else
      (tA t 234 1081 ((v1 + ((6 : Int32))) + v2)).bind fun x21 =>
      Option.bind (
        if x21 < 0 then
          some t
        else
          (tA t 234 1081 ((v1 + ((12 : Int32))) + v2)).bind fun x27 =>
          (tWA t 0 234 1081 ((v1 + ((12 : Int32))) + v2) (x27 + ((1 : Int32)))).bind fun tt30 =>
          (tA tt30 234 1081 ((v1 + ((12 : Int32))) + v2)).bind fun x34 =>
          (tA tt30 224 100 ((2 : Int32))).bind fun x37 =>
          if ¬ x34 = x37 then
            some tt30
          else
            (tX10_leaves v1 v2 tt30).bind fun tt42 =>
            some tt42) fun tt24 =>
      tX10_passes_L24 n v1 (v2 + (1 : Int32)) tt24
def tX10_passes_L95 : Nat → Int32 → Int32 → tS → Option (tS)
  | 0, _, _, _ => none
  | n + 1, v1, v2, t =>
    (tX10_days  t).bind fun x48 =>
    if x48 ≤ v2 then
      some t
    else
      (tA t 234 1081 ((v1 + ((6 : Int32))) + v2)).bind fun x52 =>
      Option.bind (
        if 0 ≤ x52 then
          some t
        else
          (tA t 234 1081 ((v1 + ((18 : Int32))) + v2)).bind fun x58 =>
          if x58 ≤ 0 then
            some t
          else
            (tX10_isDate v1 v2 t).bind fun x62 =>
            if x62 = 0 then
              some t
            else
              (tX10_comes v1 v2 t).bind fun tt67 =>
              some tt67) fun tt55 =>
      tX10_passes_L95 n v1 (v2 + (1 : Int32)) tt55
def tX10_passes (a1 : Int32) (t : tS) : Option (tS) :=
  (tA t 234 1081 (a1 + ((0 : Int32)))).bind fun x2 =>
  (tWA t 0 234 1081 (a1 + ((0 : Int32))) (x2 + ((1 : Int32)))).bind fun tt5 =>
  (some (uI tt5 218 28 ((0 : Int32)))).bind fun tt9 =>
  (some (uI tt9 218 29 ((0 : Int32)))).bind fun tt13 =>
  Option.bind (tX10_passes_L24 4000 a1 ((0 : Int32)) tt13) fun tt45 =>
  Option.bind (tX10_passes_L95 4000 a1 ((0 : Int32)) tt45) fun tt70 =>
  some tt70
set_option maxHeartbeats 4000000 in
set_option maxRecDepth 100000 in
theorem sX10_passes_L24 : ∀ (n : Nat) (v1 : Int32) (v2 : Int32) (h : am_H) (t : tS) (t1 : tS), Rp h t → tX10_passes_L24 n v1 v2 t = some t1 → ex (fX10_passes_L24 n 218 v1 v2 h) (fun p => Rp p t1) := by
  intro n
  induction n with
  | zero => intro _ _ _ _ _ _ H; cases H
  | succ n ih =>
    intro v1 v2 h t t1 hR_t H
    rw [tX10_passes_L24] at H
    rw [fX10_passes_L24]
    obtain ⟨x17, e16, H⟩ := am_bd H
    refine ex.j1 (sX10_days hR_t  e16) (fun z18 hz => ?_)
    obtain rfl : x17 = z18 := hz
    by_cases c19 : x17 ≤ v2
    · rw [if_pos c19] at H
      refine ex.t c19 ?_
      obtain rfl := Option.some.inj H
      exact ex.nd hR_t
    · rw [if_neg c19] at H
      refine ex.f c19 ?_
      refine ex.bd (r_gR hR_t lk9 rfl) ?_
      obtain ⟨x21, e22, H⟩ := am_bd H
      refine ex.bd (r_aI hR_t (la9_24 (a := 218) (by decide)) e22) ?_
      obtain ⟨tt24, E43, H⟩ := am_bd H
      refine ex.j1 (Q := fun p => Rp p tt24) ?_ (fun hh23 hq => ?_)
      · clear H
        have H := E43
        clear E43
        by_cases c25 : x21 < 0
        · rw [if_pos c25] at H
          refine ex.t c25 ?_
          obtain rfl := Option.some.inj H
          exact ex.nd hR_t
        · rw [if_neg c25] at H
          refine ex.f c25 ?_
          refine ex.bd (r_gR hR_t lk9 rfl) ?_
          obtain ⟨x27, e28, H⟩ := am_bd H
          refine ex.bd (r_aI hR_t (la9_24 (a := 218) (by decide)) e28) ?_
          obtain ⟨tt30, e31, H⟩ := am_bd H
          obtain ⟨hh29, e32, hR_tt30⟩ := r_sI hR_t (la9_24 (a := 218) (by decide)) e31
          refine ex.bd e32 ?_
          refine ex.bd (r_gR hR_tt30 lk9 rfl) ?_
          obtain ⟨x34, e35, H⟩ := am_bd H
          refine ex.bd (r_aI hR_tt30 (la9_24 (a := 218) (by decide)) e35) ?_
          refine ex.bd (r_gR hR_tt30 lk9 rfl) ?_
          obtain ⟨x37, e38, H⟩ := am_bd H
          refine ex.bd (r_aI hR_tt30 (la9_10 (a := 218) (by decide)) e38) ?_
          by_cases c39 : ¬ x34 = x37
          · rw [if_pos c39] at H
            refine ex.t c39 ?_
            obtain rfl := Option.some.inj H
            exact ex.nd hR_tt30
          · rw [if_neg c39] at H
            refine ex.f c39 ?_
            obtain ⟨tt42, e40, H⟩ := am_bd H
            refine ex.j1 (sX10_leaves hR_tt30  e40) (fun hh41 hR_tt42 => ?_)
            obtain rfl := Option.some.inj H
            exact ex.nd hR_tt42
      · clear E43
        have hR_tt24 : Rp hh23 tt24 := hq
        exact ih _ _ _ _ _ hR_tt24  H
set_option maxHeartbeats 4000000 in
set_option maxRecDepth 100000 in
theorem sX10_passes_L95 : ∀ (n : Nat) (v1 : Int32) (v2 : Int32) (h : am_H) (t : tS) (t1 : tS), Rp h t → tX10_passes_L95 n v1 v2 t = some t1 → ex (fX10_passes_L95 n 218 v1 v2 h) (fun p => Rp p t1) := by
  intro n
  induction n with
  | zero => intro _ _ _ _ _ _ H; cases H
  | succ n ih =>
    intro v1 v2 h t t1 hR_t H
    rw [tX10_passes_L95] at H
    rw [fX10_passes_L95]
    obtain ⟨x48, e47, H⟩ := am_bd H
    refine ex.j1 (sX10_days hR_t  e47) (fun z49 hz => ?_)
    obtain rfl : x48 = z49 := hz
    by_cases c50 : x48 ≤ v2
    · rw [if_pos c50] at H
      refine ex.t c50 ?_
      obtain rfl := Option.some.inj H
      exact ex.nd hR_t
    · rw [if_neg c50] at H
      refine ex.f c50 ?_
      refine ex.bd (r_gR hR_t lk9 rfl) ?_
      obtain ⟨x52, e53, H⟩ := am_bd H
      refine ex.bd (r_aI hR_t (la9_24 (a := 218) (by decide)) e53) ?_
      obtain ⟨tt55, E68, H⟩ := am_bd H
      refine ex.j1 (Q := fun p => Rp p tt55) ?_ (fun hh54 hq => ?_)
      · clear H
        have H := E68
        clear E68
        by_cases c56 : 0 ≤ x52
        · rw [if_pos c56] at H
          refine ex.t c56 ?_
          obtain rfl := Option.some.inj H
          exact ex.nd hR_t
        · rw [if_neg c56] at H
          refine ex.f c56 ?_
          refine ex.bd (r_gR hR_t lk9 rfl) ?_
          obtain ⟨x58, e59, H⟩ := am_bd H
          refine ex.bd (r_aI hR_t (la9_24 (a := 218) (by decide)) e59) ?_
          by_cases c60 : x58 ≤ 0
          · rw [if_pos c60] at H
            refine ex.t c60 ?_
            obtain rfl := Option.some.inj H
            exact ex.nd hR_t
          · rw [if_neg c60] at H
            refine ex.f c60 ?_
            obtain ⟨x62, e61, H⟩ := am_bd H
            refine ex.j1 (sX10_isDate hR_t  e61) (fun z63 hz => ?_)
            obtain rfl : x62 = z63 := hz
            by_cases c64 : x62 = 0
            · rw [if_pos c64] at H
              refine ex.t c64 ?_
              obtain rfl := Option.some.inj H
              exact ex.nd hR_t
            · rw [if_neg c64] at H
              refine ex.f c64 ?_
              obtain ⟨tt67, e65, H⟩ := am_bd H
              refine ex.j1 (sX10_comes hR_t  e65) (fun hh66 hR_tt67 => ?_)
              obtain rfl := Option.some.inj H
              exact ex.nd hR_tt67
      · clear E68
        have hR_tt55 : Rp hh54 tt55 := hq
        exact ih _ _ _ _ _ hR_tt55  H
set_option maxHeartbeats 4000000 in
set_option maxRecDepth 100000 in
theorem sX10_passes {a1 : Int32} {h : am_H} {t : tS} {t1 : tS} (hR_t : Rp h t)  (H : tX10_passes a1 t = some t1) : ex (fX10_passes 218 a1 h) (fun h1 => Rp h1 t1) := by
  unfold tX10_passes at H
  unfold fX10_passes
  refine ex.bd (r_isO hR_t lk9) ?_
  refine ex.bd (r_gR hR_t lk9 rfl) ?_
  obtain ⟨x2, e3, H⟩ := am_bd H
  refine ex.bd (r_aI hR_t (la9_24 (a := 218) (by decide)) e3) ?_
  obtain ⟨tt5, e6, H⟩ := am_bd H
  obtain ⟨hh4, e7, hR_tt5⟩ := r_sI hR_t (la9_24 (a := 218) (by decide)) e6
  refine ex.bd e7 ?_
  obtain ⟨tt9, et10, H⟩ := am_bd H
  obtain ⟨hh8, e11, hR_tt9⟩ := r_pI (k := 28) (x := (0 : Int32)) hR_tt5 lk9 rfl rfl
  rw [Option.some.inj et10] at hR_tt9
  refine ex.bd e11 ?_
  obtain ⟨tt13, et14, H⟩ := am_bd H
  obtain ⟨hh12, e15, hR_tt13⟩ := r_pI (k := 29) (x := (0 : Int32)) hR_tt9 lk9 rfl rfl
  rw [Option.some.inj et14] at hR_tt13
  refine ex.bd e15 ?_
  obtain ⟨tt45, E46, H⟩ := am_bd H
  refine ex.j1 (sX10_passes_L24 _ _ _ _ _ _ hR_tt13  E46) (fun hh44 hq => ?_)
  clear E46
  have hR_tt45 : Rp hh44 tt45 := hq
  obtain ⟨tt70, E71, H⟩ := am_bd H
  refine ex.j1 (sX10_passes_L95 _ _ _ _ _ _ hR_tt45  E71) (fun hh69 hq => ?_)
  clear E71
  have hR_tt70 : Rp hh69 tt70 := hq
  obtain rfl := Option.some.inj H
  exact ex.nd hR_tt70
def tX10_talkIn_L5 : Nat → Int32 → Int32 → Int32 → Int32 → tS → Option (Int32)
  | 0, _, _, _, _, _ => none
  | n + 1, v1, v2, v3, v4, t =>
    (tX10_days  t).bind fun x2 =>
    if x2 ≤ v4 then
      some v3
    else
      (tA t 234 1081 ((v1 + ((6 : Int32))) + v4)).bind fun x6 =>
      Option.bind (
        if ¬ x6 = v2 then
          some ((0 : Int32))
        else
          (tA t 234 1081 ((v1 + ((18 : Int32))) + v4)).bind fun x11 =>
          some x11) fun js8 =>
      tX10_talkIn_L5 n v1 v2 (v3 + js8) (v4 + (1 : Int32)) t
def tX10_talkIn (a1 : Int32) (a2 : Int32) (t : tS) : Option (Int32) :=
  Option.bind (tX10_talkIn_L5 4000 a1 a2 ((0 : Int32)) ((0 : Int32)) t) fun lw15 =>
  some lw15
set_option maxHeartbeats 4000000 in
set_option maxRecDepth 100000 in
theorem sX10_talkIn_L5 : ∀ (n : Nat) (v1 : Int32) (v2 : Int32) (v3 : Int32) (v4 : Int32) (h : am_H) (t : tS) (w3 : Int32), Rp h t → tX10_talkIn_L5 n v1 v2 v3 v4 t = some w3 → ex (fX10_talkIn_L5 n 218 v1 v2 v3 v4 h) (fun p => w3 = p) := by
  intro n
  induction n with
  | zero => intro _ _ _ _ _ _ _ _ H; cases H
  | succ n ih =>
    intro v1 v2 v3 v4 h t w3 hR_t H
    rw [tX10_talkIn_L5] at H
    rw [fX10_talkIn_L5]
    obtain ⟨x2, e1, H⟩ := am_bd H
    refine ex.j1 (sX10_days hR_t  e1) (fun z3 hz => ?_)
    obtain rfl : x2 = z3 := hz
    by_cases c4 : x2 ≤ v4
    · rw [if_pos c4] at H
      refine ex.t c4 ?_
      obtain rfl := Option.some.inj H
      exact ex.nd rfl
    · rw [if_neg c4] at H
      refine ex.f c4 ?_
      refine ex.bd (r_gR hR_t lk9 rfl) ?_
      obtain ⟨x6, e7, H⟩ := am_bd H
      refine ex.bd (r_aI hR_t (la9_24 (a := 218) (by decide)) e7) ?_
      obtain ⟨js8, E13, H⟩ := am_bd H
      refine ex.j1 (Q := fun p => js8 = p) ?_ (fun z14 hq => ?_)
      · clear H
        have H := E13
        clear E13
        by_cases c9 : ¬ x6 = v2
        · rw [if_pos c9] at H
          refine ex.t c9 ?_
          obtain rfl := Option.some.inj H
          exact ex.nd rfl
        · rw [if_neg c9] at H
          refine ex.f c9 ?_
          refine ex.bd (r_gR hR_t lk9 rfl) ?_
          obtain ⟨x11, e12, H⟩ := am_bd H
          refine ex.bd (r_aI hR_t (la9_24 (a := 218) (by decide)) e12) ?_
          obtain rfl := Option.some.inj H
          exact ex.nd rfl
      · clear E13
        obtain rfl : js8 = z14 := hq
        exact ih _ _ _ _ _ _ _ hR_t  H
set_option maxHeartbeats 4000000 in
set_option maxRecDepth 100000 in
theorem sX10_talkIn {a1 : Int32} {a2 : Int32} {h : am_H} {t : tS} {r : Int32} (hR_t : Rp h t)  (H : tX10_talkIn a1 a2 t = some r) : ex (fX10_talkIn 218 a1 a2 h) (fun x => r = x) := by
  unfold tX10_talkIn at H
  unfold fX10_talkIn
  refine ex.bd (r_isO hR_t lk9) ?_
  obtain ⟨lw15, E17, H⟩ := am_bd H
  refine ex.j1 (sX10_talkIn_L5 _ _ _ _ _ _ _ _ hR_t  E17) (fun z16 hq => ?_)
  clear E17
  obtain rfl : lw15 = z16 := hq
  obtain rfl := Option.some.inj H
  exact ex.nd rfl
def tX10_house (a1 : Int32) (a2 : Int32) (t : tS) : Option (Int32 × tS) :=
  (some (uI t 218 0 ((0 : Int32)))).bind fun tt2 =>
  (tX10_isHouse a1 tt2).bind fun x6 =>
  if x6 = 0 then
    some ((-2 : Int32), tt2)
  else
    (tX10_within a2 ((0 : Int32)) ((4 : Int32)) tt2).bind fun x10 =>
    if ¬ x10 = 0 then
      if a2.toInt < 0 ∨ 3 < a2.toInt then
        (tX10_talkIn ((0 : Int32)) a1 tt2).bind fun x17 =>
        some (x17, tt2)
      else (some (a2.toInt - 0).toNat).bind fun k14 =>
      if k14 = 0 then
        (tA tt2 234 1081 (((2 : Int32)) + a1)).bind fun x20 =>
        some (x20, tt2)
      else if k14 = 1 then
        (tX10_freeOf ((0 : Int32)) a1 tt2).bind fun x24 =>
        some (x24, tt2)
      else if k14 = 2 then
        (tX10_inHouse ((0 : Int32)) a1 tt2).bind fun x28 =>
        some (x28, tt2)
      else if k14 = 3 then
        (tX10_houseOf a1 ((1 : Int32)) tt2).bind fun x32 =>
        some (x32, tt2)
      else none
    else
      some ((-2 : Int32), tt2)
set_option maxHeartbeats 4000000 in
set_option maxRecDepth 100000 in
theorem sX10_house {a1 : Int32} {a2 : Int32} {h : am_H} {t : tS} {r : Int32} {t1 : tS} (hR_t : Rp h t)  (H : tX10_house a1 a2 t = some (r, t1)) : ex (fX10_house 218 a1 a2 h) (fun p => r = p.1 ∧ Rp p.2 t1) := by
  unfold tX10_house at H
  unfold fX10_house
  refine ex.bd (r_isO hR_t lk9) ?_
  obtain ⟨tt2, et3, H⟩ := am_bd H
  obtain ⟨hh1, e4, hR_tt2⟩ := r_pI (k := 0) (x := (0 : Int32)) hR_t lk9 rfl rfl
  rw [Option.some.inj et3] at hR_tt2
  refine ex.bd e4 ?_
  obtain ⟨x6, e5, H⟩ := am_bd H
  refine ex.j1 (sX10_isHouse hR_tt2  e5) (fun z7 hz => ?_)
  obtain rfl : x6 = z7 := hz
  by_cases c8 : x6 = 0
  · rw [if_pos c8] at H
    refine ex.t c8 ?_
    obtain ⟨rfl, rfl⟩ := am_inj2 H
    exact ex.nd ⟨rfl, hR_tt2⟩
  · rw [if_neg c8] at H
    refine ex.f c8 ?_
    obtain ⟨x10, e9, H⟩ := am_bd H
    refine ex.j1 (sX10_within hR_tt2  e9) (fun z11 hz => ?_)
    obtain rfl : x10 = z11 := hz
    by_cases c12 : ¬ x10 = 0
    · rw [if_pos c12] at H
      refine ex.t c12 ?_
      by_cases c13 : a2.toInt < 0 ∨ 3 < a2.toInt
      · rw [if_pos c13] at H
        refine ex.t c13 ?_
        obtain ⟨x17, e16, H⟩ := am_bd H
        refine ex.j1 (sX10_talkIn hR_tt2  e16) (fun z18 hz => ?_)
        obtain rfl : x17 = z18 := hz
        obtain ⟨rfl, rfl⟩ := am_inj2 H
        exact ex.nd ⟨rfl, hR_tt2⟩
      · rw [if_neg c13] at H
        refine ex.f c13 ?_
        obtain ⟨k14, e15, H⟩ := am_bd H
        refine ex.bd e15 ?_
        by_cases c22 : k14 = 0
        · rw [if_pos c22] at H
          refine ex.t c22 ?_
          refine ex.bd (r_gR hR_tt2 lk9 rfl) ?_
          obtain ⟨x20, e21, H⟩ := am_bd H
          refine ex.bd (r_aI hR_tt2 (la9_24 (a := 218) (by decide)) e21) ?_
          obtain ⟨rfl, rfl⟩ := am_inj2 H
          exact ex.nd ⟨rfl, hR_tt2⟩
        · rw [if_neg c22] at H
          refine ex.f c22 ?_
          by_cases c26 : k14 = 1
          · rw [if_pos c26] at H
            refine ex.t c26 ?_
            obtain ⟨x24, e23, H⟩ := am_bd H
            refine ex.j1 (sX10_freeOf hR_tt2  e23) (fun z25 hz => ?_)
            obtain rfl : x24 = z25 := hz
            obtain ⟨rfl, rfl⟩ := am_inj2 H
            exact ex.nd ⟨rfl, hR_tt2⟩
          · rw [if_neg c26] at H
            refine ex.f c26 ?_
            by_cases c30 : k14 = 2
            · rw [if_pos c30] at H
              refine ex.t c30 ?_
              obtain ⟨x28, e27, H⟩ := am_bd H
              refine ex.j1 (sX10_inHouse hR_tt2  e27) (fun z29 hz => ?_)
              obtain rfl : x28 = z29 := hz
              obtain ⟨rfl, rfl⟩ := am_inj2 H
              exact ex.nd ⟨rfl, hR_tt2⟩
            · rw [if_neg c30] at H
              refine ex.f c30 ?_
              by_cases c34 : k14 = 3
              · rw [if_pos c34] at H
                refine ex.t c34 ?_
                obtain ⟨x32, e31, H⟩ := am_bd H
                refine ex.j1 (sX10_houseOf hR_tt2  e31) (fun z33 hz => ?_)
                obtain rfl : x32 = z33 := hz
                obtain ⟨rfl, rfl⟩ := am_inj2 H
                exact ex.nd ⟨rfl, hR_tt2⟩
              · rw [if_neg c34] at H
                refine ex.f c34 ?_
                cases H
    · rw [if_neg c12] at H
      refine ex.f c12 ?_
      obtain ⟨rfl, rfl⟩ := am_inj2 H
      exact ex.nd ⟨rfl, hR_tt2⟩
def tX10_day (a1 : Int32) (a2 : Int32) (t : tS) : Option (Int32 × tS) :=
  (some (uI t 218 0 ((0 : Int32)))).bind fun tt2 =>
  (tX10_isDay a1 tt2).bind fun x6 =>
  if x6 = 0 then
    some ((-2 : Int32), tt2)
  else
    (tX10_within a2 ((0 : Int32)) ((7 : Int32)) tt2).bind fun x10 =>
    if ¬ x10 = 0 then
      if a2.toInt < 3 ∨ 7 < a2.toInt then
        (tX10_dayOf a1 a2 tt2).bind fun x17 =>
        some (x17, tt2)
      else (some (a2.toInt - 3).toNat).bind fun k14 =>
      if k14 = 0 then
        (tA tt2 234 1081 (((18 : Int32)) + a1)).bind fun x20 =>
        some (x20, tt2)
      else if k14 = 1 then
        (tA tt2 234 1081 (((6 : Int32)) + a1)).bind fun x24 =>
        some (x24, tt2)
      else if k14 = 2 then
        (tA tt2 234 1081 (((12 : Int32)) + a1)).bind fun x28 =>
        some (x28, tt2)
      else if k14 = 3 then
        (tA tt2 234 1081 (((24 : Int32)) + a1)).bind fun x32 =>
        some (x32, tt2)
      else if k14 = 4 then
        (tX10_dayOf a1 ((4 : Int32)) tt2).bind fun x36 =>
        some (x36, tt2)
      else none
    else
      some ((-2 : Int32), tt2)
set_option maxHeartbeats 4000000 in
set_option maxRecDepth 100000 in
theorem sX10_day {a1 : Int32} {a2 : Int32} {h : am_H} {t : tS} {r : Int32} {t1 : tS} (hR_t : Rp h t)  (H : tX10_day a1 a2 t = some (r, t1)) : ex (fX10_day 218 a1 a2 h) (fun p => r = p.1 ∧ Rp p.2 t1) := by
  unfold tX10_day at H
  unfold fX10_day
  refine ex.bd (r_isO hR_t lk9) ?_
  obtain ⟨tt2, et3, H⟩ := am_bd H
  obtain ⟨hh1, e4, hR_tt2⟩ := r_pI (k := 0) (x := (0 : Int32)) hR_t lk9 rfl rfl
  rw [Option.some.inj et3] at hR_tt2
  refine ex.bd e4 ?_
  obtain ⟨x6, e5, H⟩ := am_bd H
  refine ex.j1 (sX10_isDay hR_tt2  e5) (fun z7 hz => ?_)
  obtain rfl : x6 = z7 := hz
  by_cases c8 : x6 = 0
  · rw [if_pos c8] at H
    refine ex.t c8 ?_
    obtain ⟨rfl, rfl⟩ := am_inj2 H
    exact ex.nd ⟨rfl, hR_tt2⟩
  · rw [if_neg c8] at H
    refine ex.f c8 ?_
    obtain ⟨x10, e9, H⟩ := am_bd H
    refine ex.j1 (sX10_within hR_tt2  e9) (fun z11 hz => ?_)
    obtain rfl : x10 = z11 := hz
    by_cases c12 : ¬ x10 = 0
    · rw [if_pos c12] at H
      refine ex.t c12 ?_
      by_cases c13 : a2.toInt < 3 ∨ 7 < a2.toInt
      · rw [if_pos c13] at H
        refine ex.t c13 ?_
        obtain ⟨x17, e16, H⟩ := am_bd H
        refine ex.j1 (sX10_dayOf hR_tt2  e16) (fun z18 hz => ?_)
        obtain rfl : x17 = z18 := hz
        obtain ⟨rfl, rfl⟩ := am_inj2 H
        exact ex.nd ⟨rfl, hR_tt2⟩
      · rw [if_neg c13] at H
        refine ex.f c13 ?_
        obtain ⟨k14, e15, H⟩ := am_bd H
        refine ex.bd e15 ?_
        by_cases c22 : k14 = 0
        · rw [if_pos c22] at H
          refine ex.t c22 ?_
          refine ex.bd (r_gR hR_tt2 lk9 rfl) ?_
          obtain ⟨x20, e21, H⟩ := am_bd H
          refine ex.bd (r_aI hR_tt2 (la9_24 (a := 218) (by decide)) e21) ?_
          obtain ⟨rfl, rfl⟩ := am_inj2 H
          exact ex.nd ⟨rfl, hR_tt2⟩
        · rw [if_neg c22] at H
          refine ex.f c22 ?_
          by_cases c26 : k14 = 1
          · rw [if_pos c26] at H
            refine ex.t c26 ?_
            refine ex.bd (r_gR hR_tt2 lk9 rfl) ?_
            obtain ⟨x24, e25, H⟩ := am_bd H
            refine ex.bd (r_aI hR_tt2 (la9_24 (a := 218) (by decide)) e25) ?_
            obtain ⟨rfl, rfl⟩ := am_inj2 H
            exact ex.nd ⟨rfl, hR_tt2⟩
          · rw [if_neg c26] at H
            refine ex.f c26 ?_
            by_cases c30 : k14 = 2
            · rw [if_pos c30] at H
              refine ex.t c30 ?_
              refine ex.bd (r_gR hR_tt2 lk9 rfl) ?_
              obtain ⟨x28, e29, H⟩ := am_bd H
              refine ex.bd (r_aI hR_tt2 (la9_24 (a := 218) (by decide)) e29) ?_
              obtain ⟨rfl, rfl⟩ := am_inj2 H
              exact ex.nd ⟨rfl, hR_tt2⟩
            · rw [if_neg c30] at H
              refine ex.f c30 ?_
              by_cases c34 : k14 = 3
              · rw [if_pos c34] at H
                refine ex.t c34 ?_
                refine ex.bd (r_gR hR_tt2 lk9 rfl) ?_
                obtain ⟨x32, e33, H⟩ := am_bd H
                refine ex.bd (r_aI hR_tt2 (la9_24 (a := 218) (by decide)) e33) ?_
                obtain ⟨rfl, rfl⟩ := am_inj2 H
                exact ex.nd ⟨rfl, hR_tt2⟩
              · rw [if_neg c34] at H
                refine ex.f c34 ?_
                by_cases c38 : k14 = 4
                · rw [if_pos c38] at H
                  refine ex.t c38 ?_
                  obtain ⟨x36, e35, H⟩ := am_bd H
                  refine ex.j1 (sX10_dayOf hR_tt2  e35) (fun z37 hz => ?_)
                  obtain rfl : x36 = z37 := hz
                  obtain ⟨rfl, rfl⟩ := am_inj2 H
                  exact ex.nd ⟨rfl, hR_tt2⟩
                · rw [if_neg c38] at H
                  refine ex.f c38 ?_
                  cases H
    · rw [if_neg c12] at H
      refine ex.f c12 ?_
      obtain ⟨rfl, rfl⟩ := am_inj2 H
      exact ex.nd ⟨rfl, hR_tt2⟩
def tX10_date  (t : tS) : Option (Int32 × tS) :=
  (some (uI t 218 0 ((0 : Int32)))).bind fun tt2 =>
  (tX10_keeps  tt2).bind fun tt7 =>
  (tX10_passes ((0 : Int32)) tt7).bind fun tt10 =>
  some (tt10.1 218 28, tt10)
set_option maxHeartbeats 4000000 in
set_option maxRecDepth 100000 in
theorem sX10_date  {h : am_H} {t : tS} {r : Int32} {t1 : tS} (hR_t : Rp h t)  (H : tX10_date  t = some (r, t1)) : ex (fX10_date 218 h) (fun p => r = p.1 ∧ Rp p.2 t1) := by
  unfold tX10_date at H
  unfold fX10_date
  refine ex.bd (r_isO hR_t lk9) ?_
  obtain ⟨tt2, et3, H⟩ := am_bd H
  obtain ⟨hh1, e4, hR_tt2⟩ := r_pI (k := 0) (x := (0 : Int32)) hR_t lk9 rfl rfl
  rw [Option.some.inj et3] at hR_tt2
  refine ex.bd e4 ?_
  obtain ⟨tt7, e5, H⟩ := am_bd H
  refine ex.j1 (sX10_keeps hR_tt2  e5) (fun hh6 hR_tt7 => ?_)
  obtain ⟨tt10, e8, H⟩ := am_bd H
  refine ex.j1 (sX10_passes hR_tt7  e8) (fun hh9 hR_tt10 => ?_)
  refine ex.bd (r_gI hR_tt10 lk9 rfl) ?_
  obtain ⟨rfl, rfl⟩ := am_inj2 H
  exact ex.nd ⟨rfl, hR_tt10⟩
def tX10_mayMove (a1 : Int32) (a2 : Int32) (a3 : Int32) (t : tS) : Option (Int32) :=
  (tA t 234 1081 ((a1 + ((6 : Int32))) + a2)).bind fun x2 =>
  Option.bind (
    if x2 < 0 then
      some ((0 : Int32))
    else
      (tA t 234 1081 ((a1 + ((6 : Int32))) + a2)).bind fun x7 =>
      if x7 = a3 then
        some ((0 : Int32))
      else
        (tX10_doesHold a1 a3 a2 t).bind fun x11 =>
        if x11 = 0 then
          some ((0 : Int32))
        else
          some ((1 : Int32))) fun js4 =>
  (am_z01 js4).bind fun b14 =>
  some b14
set_option maxHeartbeats 4000000 in
set_option maxRecDepth 100000 in
theorem sX10_mayMove {a1 : Int32} {a2 : Int32} {a3 : Int32} {h : am_H} {t : tS} {r : Int32} (hR_t : Rp h t)  (H : tX10_mayMove a1 a2 a3 t = some r) : ex (fX10_mayMove 218 a1 a2 a3 h) (fun x => r = x) := by
  unfold tX10_mayMove at H
  unfold fX10_mayMove
  refine ex.bd (r_isO hR_t lk9) ?_
  refine ex.bd (r_gR hR_t lk9 rfl) ?_
  obtain ⟨x2, e3, H⟩ := am_bd H
  refine ex.bd (r_aI hR_t (la9_24 (a := 218) (by decide)) e3) ?_
  obtain ⟨js4, E16, H⟩ := am_bd H
  refine ex.j1 (Q := fun p => js4 = p) ?_ (fun z17 hq => ?_)
  · clear H
    have H := E16
    clear E16
    by_cases c5 : x2 < 0
    · rw [if_pos c5] at H
      refine ex.t c5 ?_
      obtain rfl := Option.some.inj H
      exact ex.nd rfl
    · rw [if_neg c5] at H
      refine ex.f c5 ?_
      refine ex.bd (r_gR hR_t lk9 rfl) ?_
      obtain ⟨x7, e8, H⟩ := am_bd H
      refine ex.bd (r_aI hR_t (la9_24 (a := 218) (by decide)) e8) ?_
      by_cases c9 : x7 = a3
      · rw [if_pos c9] at H
        refine ex.t c9 ?_
        obtain rfl := Option.some.inj H
        exact ex.nd rfl
      · rw [if_neg c9] at H
        refine ex.f c9 ?_
        obtain ⟨x11, e10, H⟩ := am_bd H
        refine ex.j1 (sX10_doesHold hR_t  e10) (fun z12 hz => ?_)
        obtain rfl : x11 = z12 := hz
        by_cases c13 : x11 = 0
        · rw [if_pos c13] at H
          refine ex.t c13 ?_
          obtain rfl := Option.some.inj H
          exact ex.nd rfl
        · rw [if_neg c13] at H
          refine ex.f c13 ?_
          obtain rfl := Option.some.inj H
          exact ex.nd rfl
  · clear E16
    obtain rfl : js4 = z17 := hq
    obtain ⟨b14, e15, H⟩ := am_bd H
    refine ex.bd e15 ?_
    obtain rfl := Option.some.inj H
    exact ex.nd rfl
def tX10_move (a1 : Int32) (a2 : Int32) (t : tS) : Option (Int32 × tS) :=
  (some (uI t 218 0 ((0 : Int32)))).bind fun tt2 =>
  (tX10_isDay a1 tt2).bind fun x6 =>
  if x6 = 0 then
    some ((0 : Int32), tt2)
  else
    (tX10_isHouse a2 tt2).bind fun x10 =>
    if x10 = 0 then
      some ((0 : Int32), tt2)
    else
      (tX10_mayMove ((0 : Int32)) a1 a2 tt2).bind fun x14 =>
      if ¬ x14 = 0 then
        (tX10_keeps  tt2).bind fun tt19 =>
        (tWA tt19 0 234 1081 (((6 : Int32)) + a1) a2).bind fun tt22 =>
        some ((1 : Int32), tt22)
      else
        some ((0 : Int32), tt2)
set_option maxHeartbeats 4000000 in
set_option maxRecDepth 100000 in
theorem sX10_move {a1 : Int32} {a2 : Int32} {h : am_H} {t : tS} {r : Int32} {t1 : tS} (hR_t : Rp h t)  (H : tX10_move a1 a2 t = some (r, t1)) : ex (fX10_move 218 a1 a2 h) (fun p => r = p.1 ∧ Rp p.2 t1) := by
  unfold tX10_move at H
  unfold fX10_move
  refine ex.bd (r_isO hR_t lk9) ?_
  obtain ⟨tt2, et3, H⟩ := am_bd H
  obtain ⟨hh1, e4, hR_tt2⟩ := r_pI (k := 0) (x := (0 : Int32)) hR_t lk9 rfl rfl
  rw [Option.some.inj et3] at hR_tt2
  refine ex.bd e4 ?_
  obtain ⟨x6, e5, H⟩ := am_bd H
  refine ex.j1 (sX10_isDay hR_tt2  e5) (fun z7 hz => ?_)
  obtain rfl : x6 = z7 := hz
  by_cases c8 : x6 = 0
  · rw [if_pos c8] at H
    refine ex.t c8 ?_
    obtain ⟨rfl, rfl⟩ := am_inj2 H
    exact ex.nd ⟨rfl, hR_tt2⟩
  · rw [if_neg c8] at H
    refine ex.f c8 ?_
    obtain ⟨x10, e9, H⟩ := am_bd H
    refine ex.j1 (sX10_isHouse hR_tt2  e9) (fun z11 hz => ?_)
    obtain rfl : x10 = z11 := hz
    by_cases c12 : x10 = 0
    · rw [if_pos c12] at H
      refine ex.t c12 ?_
      obtain ⟨rfl, rfl⟩ := am_inj2 H
      exact ex.nd ⟨rfl, hR_tt2⟩
    · rw [if_neg c12] at H
      refine ex.f c12 ?_
      obtain ⟨x14, e13, H⟩ := am_bd H
      refine ex.j1 (sX10_mayMove hR_tt2  e13) (fun z15 hz => ?_)
      obtain rfl : x14 = z15 := hz
      by_cases c16 : ¬ x14 = 0
      · rw [if_pos c16] at H
        refine ex.t c16 ?_
        obtain ⟨tt19, e17, H⟩ := am_bd H
        refine ex.j1 (sX10_keeps hR_tt2  e17) (fun hh18 hR_tt19 => ?_)
        refine ex.bd (r_gR hR_tt19 lk9 rfl) ?_
        obtain ⟨tt22, e23, H⟩ := am_bd H
        obtain ⟨hh21, e24, hR_tt22⟩ := r_sI hR_tt19 (la9_24 (a := 218) (by decide)) e23
        refine ex.bd e24 ?_
        obtain ⟨rfl, rfl⟩ := am_inj2 H
        exact ex.nd ⟨rfl, hR_tt22⟩
      · rw [if_neg c16] at H
        refine ex.f c16 ?_
        obtain ⟨rfl, rfl⟩ := am_inj2 H
        exact ex.nd ⟨rfl, hR_tt2⟩
def tX10_send (a1 : Int32) (t : tS) : Option (Int32 × tS) :=
  (some (uI t 218 0 ((0 : Int32)))).bind fun tt2 =>
  (tX10_isDay a1 tt2).bind fun x6 =>
  if x6 = 0 then
    some ((0 : Int32), tt2)
  else
    (tA tt2 234 1081 (((6 : Int32)) + a1)).bind fun x10 =>
    if 0 ≤ x10 then
      (tX10_keeps  tt2).bind fun tt15 =>
      (tX10_leaves ((0 : Int32)) a1 tt15).bind fun tt18 =>
      some ((1 : Int32), tt18)
    else
      some ((0 : Int32), tt2)
set_option maxHeartbeats 4000000 in
set_option maxRecDepth 100000 in
theorem sX10_send {a1 : Int32} {h : am_H} {t : tS} {r : Int32} {t1 : tS} (hR_t : Rp h t)  (H : tX10_send a1 t = some (r, t1)) : ex (fX10_send 218 a1 h) (fun p => r = p.1 ∧ Rp p.2 t1) := by
  unfold tX10_send at H
  unfold fX10_send
  refine ex.bd (r_isO hR_t lk9) ?_
  obtain ⟨tt2, et3, H⟩ := am_bd H
  obtain ⟨hh1, e4, hR_tt2⟩ := r_pI (k := 0) (x := (0 : Int32)) hR_t lk9 rfl rfl
  rw [Option.some.inj et3] at hR_tt2
  refine ex.bd e4 ?_
  obtain ⟨x6, e5, H⟩ := am_bd H
  refine ex.j1 (sX10_isDay hR_tt2  e5) (fun z7 hz => ?_)
  obtain rfl : x6 = z7 := hz
  by_cases c8 : x6 = 0
  · rw [if_pos c8] at H
    refine ex.t c8 ?_
    obtain ⟨rfl, rfl⟩ := am_inj2 H
    exact ex.nd ⟨rfl, hR_tt2⟩
  · rw [if_neg c8] at H
    refine ex.f c8 ?_
    refine ex.bd (r_gR hR_tt2 lk9 rfl) ?_
    obtain ⟨x10, e11, H⟩ := am_bd H
    refine ex.bd (r_aI hR_tt2 (la9_24 (a := 218) (by decide)) e11) ?_
    by_cases c12 : 0 ≤ x10
    · rw [if_pos c12] at H
      refine ex.t c12 ?_
      obtain ⟨tt15, e13, H⟩ := am_bd H
      refine ex.j1 (sX10_keeps hR_tt2  e13) (fun hh14 hR_tt15 => ?_)
      obtain ⟨tt18, e16, H⟩ := am_bd H
      refine ex.j1 (sX10_leaves hR_tt15  e16) (fun hh17 hR_tt18 => ?_)
      obtain ⟨rfl, rfl⟩ := am_inj2 H
      exact ex.nd ⟨rfl, hR_tt18⟩
    · rw [if_neg c12] at H
      refine ex.f c12 ?_
      obtain ⟨rfl, rfl⟩ := am_inj2 H
      exact ex.nd ⟨rfl, hR_tt2⟩
def tX10_build (a1 : Int32) (t : tS) : Option (Int32 × tS) :=
  (some (uI t 218 0 ((0 : Int32)))).bind fun tt2 =>
  (tX10_isHouse a1 tt2).bind fun x6 =>
  if x6 = 0 then
    some ((-1 : Int32), tt2)
  else
    (tA tt2 234 1081 (((2 : Int32)) + a1)).bind fun x10 =>
    if ¬ x10 = ((9 : Int32)) then
      (tX10_keeps  tt2).bind fun tt15 =>
      (tA tt15 234 1081 (((2 : Int32)) + a1)).bind fun x17 =>
      (tWA tt15 0 234 1081 (((2 : Int32)) + a1) (x17 + ((1 : Int32)))).bind fun tt20 =>
      (tA tt20 234 1081 (((2 : Int32)) + a1)).bind fun x24 =>
      some (x24, tt20)
    else
      some ((-1 : Int32), tt2)
set_option maxHeartbeats 4000000 in
set_option maxRecDepth 100000 in
theorem sX10_build {a1 : Int32} {h : am_H} {t : tS} {r : Int32} {t1 : tS} (hR_t : Rp h t)  (H : tX10_build a1 t = some (r, t1)) : ex (fX10_build 218 a1 h) (fun p => r = p.1 ∧ Rp p.2 t1) := by
  unfold tX10_build at H
  unfold fX10_build
  refine ex.bd (r_isO hR_t lk9) ?_
  obtain ⟨tt2, et3, H⟩ := am_bd H
  obtain ⟨hh1, e4, hR_tt2⟩ := r_pI (k := 0) (x := (0 : Int32)) hR_t lk9 rfl rfl
  rw [Option.some.inj et3] at hR_tt2
  refine ex.bd e4 ?_
  obtain ⟨x6, e5, H⟩ := am_bd H
  refine ex.j1 (sX10_isHouse hR_tt2  e5) (fun z7 hz => ?_)
  obtain rfl : x6 = z7 := hz
  by_cases c8 : x6 = 0
  · rw [if_pos c8] at H
    refine ex.t c8 ?_
    obtain ⟨rfl, rfl⟩ := am_inj2 H
    exact ex.nd ⟨rfl, hR_tt2⟩
  · rw [if_neg c8] at H
    refine ex.f c8 ?_
    refine ex.bd (r_gR hR_tt2 lk9 rfl) ?_
    obtain ⟨x10, e11, H⟩ := am_bd H
    refine ex.bd (r_aI hR_tt2 (la9_24 (a := 218) (by decide)) e11) ?_
    by_cases c12 : ¬ x10 = ((9 : Int32))
    · rw [if_pos c12] at H
      refine ex.t c12 ?_
      obtain ⟨tt15, e13, H⟩ := am_bd H
      refine ex.j1 (sX10_keeps hR_tt2  e13) (fun hh14 hR_tt15 => ?_)
      refine ex.bd (r_gR hR_tt15 lk9 rfl) ?_
      obtain ⟨x17, e18, H⟩ := am_bd H
      refine ex.bd (r_aI hR_tt15 (la9_24 (a := 218) (by decide)) e18) ?_
      obtain ⟨tt20, e21, H⟩ := am_bd H
      obtain ⟨hh19, e22, hR_tt20⟩ := r_sI hR_tt15 (la9_24 (a := 218) (by decide)) e21
      refine ex.bd e22 ?_
      refine ex.bd (r_gR hR_tt20 lk9 rfl) ?_
      obtain ⟨x24, e25, H⟩ := am_bd H
      refine ex.bd (r_aI hR_tt20 (la9_24 (a := 218) (by decide)) e25) ?_
      obtain ⟨rfl, rfl⟩ := am_inj2 H
      exact ex.nd ⟨rfl, hR_tt20⟩
    · rw [if_neg c12] at H
      refine ex.f c12 ?_
      obtain ⟨rfl, rfl⟩ := am_inj2 H
      exact ex.nd ⟨rfl, hR_tt2⟩
def tX10_undo  (t : tS) : Option (Int32 × tS) :=
  (some (uI t 218 0 ((0 : Int32)))).bind fun tt2 =>
  if ¬ (tt2.1 218 25) = 0 then
    (some (uI tt2 218 25 ((tt2.1 218 25) - ((1 : Int32))))).bind fun tt9 =>
    (tX10_copies (((47 : Int32)) * (((5 : Int32)) + (tt9.1 218 25))) ((0 : Int32)) ((30 : Int32)) tt9).bind fun tt15 =>
    some ((1 : Int32), tt15)
  else
    some ((0 : Int32), tt2)
set_option maxHeartbeats 4000000 in
set_option maxRecDepth 100000 in
theorem sX10_undo  {h : am_H} {t : tS} {r : Int32} {t1 : tS} (hR_t : Rp h t)  (H : tX10_undo  t = some (r, t1)) : ex (fX10_undo 218 h) (fun p => r = p.1 ∧ Rp p.2 t1) := by
  unfold tX10_undo at H
  unfold fX10_undo
  refine ex.bd (r_isO hR_t lk9) ?_
  obtain ⟨tt2, et3, H⟩ := am_bd H
  obtain ⟨hh1, e4, hR_tt2⟩ := r_pI (k := 0) (x := (0 : Int32)) hR_t lk9 rfl rfl
  rw [Option.some.inj et3] at hR_tt2
  refine ex.bd e4 ?_
  refine ex.bd (r_gI hR_tt2 lk9 rfl) ?_
  by_cases c6 : ¬ (tt2.1 218 25) = 0
  · rw [if_pos c6] at H
    refine ex.t c6 ?_
    refine ex.bd (r_gI hR_tt2 lk9 rfl) ?_
    obtain ⟨tt9, et10, H⟩ := am_bd H
    obtain ⟨hh8, e11, hR_tt9⟩ := r_pI (k := 25) (x := (tt2.1 218 25) - ((1 : Int32))) hR_tt2 lk9 rfl rfl
    rw [Option.some.inj et10] at hR_tt9
    refine ex.bd e11 ?_
    refine ex.bd (r_gI hR_tt9 lk9 rfl) ?_
    obtain ⟨tt15, e13, H⟩ := am_bd H
    refine ex.j1 (sX10_copies hR_tt9  e13) (fun hh14 hR_tt15 => ?_)
    obtain ⟨rfl, rfl⟩ := am_inj2 H
    exact ex.nd ⟨rfl, hR_tt15⟩
  · rw [if_neg c6] at H
    refine ex.f c6 ?_
    obtain ⟨rfl, rfl⟩ := am_inj2 H
    exact ex.nd ⟨rfl, hR_tt2⟩
def tX10_judged_L31 : Nat → Int32 → Int32 → Int32 → Int32 → tS → Option (Int32 × Int32 × tS)
  | 0, _, _, _, _, _ => none
  | n + 1, v1, v2, v3, v4, t =>
    (tA t 231 250 ((0 : Int32))).bind fun x13 =>
    if x13 ≤ v4 then
      some (v2, v3, t)
    else
      (tA t 231 250 (((1 : Int32)) + (((3 : Int32)) * v4))).bind fun x17 =>
      (tA t 231 250 (((2 : Int32)) + (((3 : Int32)) * v4))).bind fun x20 =>
      (tA t 231 250 (((3 : Int32)) + (((3 : Int32)) * v4))).bind fun x23 =>
      Option.bind (
        if x17 = 0 then
          some ((1 : Int32))
        else
          if ¬ x17 = ((1 : Int32)) then
            if ¬ x17 = ((2 : Int32)) then
              (tA t 234 1081 (((989 : Int32)) + x20)).bind fun x30 =>
              if ((9 : Int32)) ≤ x30 then
                some ((0 : Int32))
              else
                some ((1 : Int32))
            else
              (tA t 234 1081 (((993 : Int32)) + x20)).bind fun x34 =>
              if x34 < 0 then
                some ((0 : Int32))
              else
                some ((1 : Int32))
          else
            (tX10_mayMove ((987 : Int32)) x20 x23 t).bind fun x38 =>
            if x38 = 0 then
              some ((0 : Int32))
            else
              some ((1 : Int32))) fun js25 =>
      Option.bind (
        if ¬ js25 = 0 then
          some v2
        else
          if 0 ≤ v2 then
            some v2
          else
            some v4) fun js41 =>
      am_b2 (
        if ¬ x17 = 0 then
          if js25 = 0 then
            if js25 = 0 then
              if js25 = 0 then
                some (v3, t)
              else
                (tA t 234 1081 (((989 : Int32)) + x20)).bind fun x52 =>
                (tWA t 0 234 1081 (((989 : Int32)) + x20) (x52 + ((1 : Int32)))).bind fun tt55 =>
                some (v3, tt55)
            else
              if ¬ x17 = ((2 : Int32)) then
                if js25 = 0 then
                  some (v3, t)
                else
                  (tA t 234 1081 (((989 : Int32)) + x20)).bind fun x61 =>
                  (tWA t 0 234 1081 (((989 : Int32)) + x20) (x61 + ((1 : Int32)))).bind fun tt64 =>
                  some (v3, tt64)
              else
                (tX10_leaves ((987 : Int32)) x20 t).bind fun tt69 =>
                some (v3, tt69)
          else
            if ¬ x17 = ((1 : Int32)) then
              if js25 = 0 then
                if js25 = 0 then
                  some (v3, t)
                else
                  (tA t 234 1081 (((989 : Int32)) + x20)).bind fun x74 =>
                  (tWA t 0 234 1081 (((989 : Int32)) + x20) (x74 + ((1 : Int32)))).bind fun tt77 =>
                  some (v3, tt77)
              else
                if ¬ x17 = ((2 : Int32)) then
                  if js25 = 0 then
                    some (v3, t)
                  else
                    (tA t 234 1081 (((989 : Int32)) + x20)).bind fun x83 =>
                    (tWA t 0 234 1081 (((989 : Int32)) + x20) (x83 + ((1 : Int32)))).bind fun tt86 =>
                    some (v3, tt86)
                else
                  (tX10_leaves ((987 : Int32)) x20 t).bind fun tt91 =>
                  some (v3, tt91)
            else
              (tWA t 0 234 1081 (((993 : Int32)) + x20) x23).bind fun tt94 =>
              some (v3, tt94)
        else
          (tX10_passes ((987 : Int32)) t).bind fun tt99 =>
          Option.bind (
            if (tt99.1 218 29) = 0 then
              some v3
            else
              if 0 ≤ v3 then
                some v3
              else
                some v4) fun js101 =>
          some (js101, tt99)) fun jv44 tt46 =>
      tX10_judged_L31 n v1 js41 jv44 (v4 + (1 : Int32)) tt46
def tX10_judged (a1 : Int32) (t : tS) : Option (Int32 × tS) :=
  (some (uI t 218 0 ((0 : Int32)))).bind fun tt2 =>
  (tX10_within a1 ((0 : Int32)) ((2 : Int32)) tt2).bind fun x6 =>
  if ¬ x6 = 0 then
    (tX10_starts ((987 : Int32)) tt2).bind fun tt11 =>
    am_b3 (tX10_judged_L31 4000 a1 ((-1 : Int32)) ((-1 : Int32)) ((0 : Int32)) tt11) fun lw112 lw113 tt115 =>
    Option.bind (
      if ¬ a1 = 0 then
        if ¬ a1 = ((1 : Int32)) then
          (tA tt115 234 1081 ((988 : Int32))).bind fun x123 =>
          some x123
        else
          some lw113
      else
        some lw112) fun js119 =>
    some (js119, tt115)
  else
    some ((-2 : Int32), tt2)
set_option maxHeartbeats 4000000 in
set_option maxRecDepth 100000 in
theorem sX10_judged_L31 : ∀ (n : Nat) (v1 : Int32) (v2 : Int32) (v3 : Int32) (v4 : Int32) (h : am_H) (t : tS) (w2 : Int32) (w3 : Int32) (t1 : tS), Rp h t → tX10_judged_L31 n v1 v2 v3 v4 t = some (w2, w3, t1) → ex (fX10_judged_L31 n 218 v1 v2 v3 v4 h) (fun p => w2 = p.1 ∧ w3 = p.2.1 ∧ Rp p.2.2 t1) := by
  intro n
  induction n with
  | zero => intro _ _ _ _ _ _ _ _ _ _ H; cases H
  | succ n ih =>
    intro v1 v2 v3 v4 h t w2 w3 t1 hR_t H
    rw [tX10_judged_L31] at H
    rw [fX10_judged_L31]
    refine ex.bd (r_gR hR_t lk9 rfl) ?_
    obtain ⟨x13, e14, H⟩ := am_bd H
    refine ex.bd (r_aI hR_t (la9_21 (a := 218) (by decide)) e14) ?_
    by_cases c15 : x13 ≤ v4
    · rw [if_pos c15] at H
      refine ex.t c15 ?_
      obtain ⟨rfl, rfl, rfl⟩ := am_inj3 H
      exact ex.nd ⟨rfl, rfl, hR_t⟩
    · rw [if_neg c15] at H
      refine ex.f c15 ?_
      refine ex.bd (r_gR hR_t lk9 rfl) ?_
      obtain ⟨x17, e18, H⟩ := am_bd H
      refine ex.bd (r_aI hR_t (la9_21 (a := 218) (by decide)) e18) ?_
      refine ex.bd (r_gR hR_t lk9 rfl) ?_
      obtain ⟨x20, e21, H⟩ := am_bd H
      refine ex.bd (r_aI hR_t (la9_21 (a := 218) (by decide)) e21) ?_
      refine ex.bd (r_gR hR_t lk9 rfl) ?_
      obtain ⟨x23, e24, H⟩ := am_bd H
      refine ex.bd (r_aI hR_t (la9_21 (a := 218) (by decide)) e24) ?_
      obtain ⟨js25, E110, H⟩ := am_bd H
      refine ex.j1 (Q := fun p => js25 = p) ?_ (fun z111 hq => ?_)
      · clear H
        have H := E110
        clear E110
        by_cases c26 : x17 = 0
        · rw [if_pos c26] at H
          refine ex.t c26 ?_
          obtain rfl := Option.some.inj H
          exact ex.nd rfl
        · rw [if_neg c26] at H
          refine ex.f c26 ?_
          by_cases c27 : ¬ x17 = ((1 : Int32))
          · rw [if_pos c27] at H
            refine ex.t c27 ?_
            by_cases c28 : ¬ x17 = ((2 : Int32))
            · rw [if_pos c28] at H
              refine ex.t c28 ?_
              refine ex.bd (r_gR hR_t lk9 rfl) ?_
              obtain ⟨x30, e31, H⟩ := am_bd H
              refine ex.bd (r_aI hR_t (la9_24 (a := 218) (by decide)) e31) ?_
              by_cases c32 : ((9 : Int32)) ≤ x30
              · rw [if_pos c32] at H
                refine ex.t c32 ?_
                obtain rfl := Option.some.inj H
                exact ex.nd rfl
              · rw [if_neg c32] at H
                refine ex.f c32 ?_
                obtain rfl := Option.some.inj H
                exact ex.nd rfl
            · rw [if_neg c28] at H
              refine ex.f c28 ?_
              refine ex.bd (r_gR hR_t lk9 rfl) ?_
              obtain ⟨x34, e35, H⟩ := am_bd H
              refine ex.bd (r_aI hR_t (la9_24 (a := 218) (by decide)) e35) ?_
              by_cases c36 : x34 < 0
              · rw [if_pos c36] at H
                refine ex.t c36 ?_
                obtain rfl := Option.some.inj H
                exact ex.nd rfl
              · rw [if_neg c36] at H
                refine ex.f c36 ?_
                obtain rfl := Option.some.inj H
                exact ex.nd rfl
          · rw [if_neg c27] at H
            refine ex.f c27 ?_
            obtain ⟨x38, e37, H⟩ := am_bd H
            refine ex.j1 (sX10_mayMove hR_t  e37) (fun z39 hz => ?_)
            obtain rfl : x38 = z39 := hz
            by_cases c40 : x38 = 0
            · rw [if_pos c40] at H
              refine ex.t c40 ?_
              obtain rfl := Option.some.inj H
              exact ex.nd rfl
            · rw [if_neg c40] at H
              refine ex.f c40 ?_
              obtain rfl := Option.some.inj H
              exact ex.nd rfl
      · clear E110
        obtain rfl : js25 = z111 := hq
        obtain ⟨js41, E108, H⟩ := am_bd H
        refine ex.j1 (Q := fun p => js41 = p) ?_ (fun z109 hq => ?_)
        · clear H
          have H := E108
          clear E108
          by_cases c42 : ¬ js25 = 0
          · rw [if_pos c42] at H
            refine ex.t c42 ?_
            obtain rfl := Option.some.inj H
            exact ex.nd rfl
          · rw [if_neg c42] at H
            refine ex.f c42 ?_
            by_cases c43 : 0 ≤ v2
            · rw [if_pos c43] at H
              refine ex.t c43 ?_
              obtain rfl := Option.some.inj H
              exact ex.nd rfl
            · rw [if_neg c43] at H
              refine ex.f c43 ?_
              obtain rfl := Option.some.inj H
              exact ex.nd rfl
        · clear E108
          obtain rfl : js41 = z109 := hq
          obtain ⟨jv44, tt46, E106, H⟩ := am_bd2 H
          refine ex.j2 (Q := fun p => jv44 = p.1 ∧ Rp p.2 tt46) ?_ (fun z107 hh45 hq => ?_)
          · clear H
            have H := E106
            clear E106
            by_cases c47 : ¬ x17 = 0
            · rw [if_pos c47] at H
              refine ex.t c47 ?_
              by_cases c48 : js25 = 0
              · rw [if_pos c48] at H
                refine ex.t c48 ?_
                by_cases c49 : js25 = 0
                · rw [if_pos c49] at H
                  refine ex.t c49 ?_
                  by_cases c50 : js25 = 0
                  · rw [if_pos c50] at H
                    refine ex.t c50 ?_
                    obtain ⟨rfl, rfl⟩ := am_inj2 H
                    exact ex.nd ⟨rfl, hR_t⟩
                  · rw [if_neg c50] at H
                    refine ex.f c50 ?_
                    refine ex.bd (r_gR hR_t lk9 rfl) ?_
                    obtain ⟨x52, e53, H⟩ := am_bd H
                    refine ex.bd (r_aI hR_t (la9_24 (a := 218) (by decide)) e53) ?_
                    obtain ⟨tt55, e56, H⟩ := am_bd H
                    obtain ⟨hh54, e57, hR_tt55⟩ := r_sI hR_t (la9_24 (a := 218) (by decide)) e56
                    refine ex.bd e57 ?_
                    obtain ⟨rfl, rfl⟩ := am_inj2 H
                    exact ex.nd ⟨rfl, hR_tt55⟩
                · rw [if_neg c49] at H
                  refine ex.f c49 ?_
                  by_cases c58 : ¬ x17 = ((2 : Int32))
                  · rw [if_pos c58] at H
                    refine ex.t c58 ?_
                    by_cases c59 : js25 = 0
                    · rw [if_pos c59] at H
                      refine ex.t c59 ?_
                      obtain ⟨rfl, rfl⟩ := am_inj2 H
                      exact ex.nd ⟨rfl, hR_t⟩
                    · rw [if_neg c59] at H
                      refine ex.f c59 ?_
                      refine ex.bd (r_gR hR_t lk9 rfl) ?_
                      obtain ⟨x61, e62, H⟩ := am_bd H
                      refine ex.bd (r_aI hR_t (la9_24 (a := 218) (by decide)) e62) ?_
                      obtain ⟨tt64, e65, H⟩ := am_bd H
                      obtain ⟨hh63, e66, hR_tt64⟩ := r_sI hR_t (la9_24 (a := 218) (by decide)) e65
                      refine ex.bd e66 ?_
                      obtain ⟨rfl, rfl⟩ := am_inj2 H
                      exact ex.nd ⟨rfl, hR_tt64⟩
                  · rw [if_neg c58] at H
                    refine ex.f c58 ?_
                    obtain ⟨tt69, e67, H⟩ := am_bd H
                    refine ex.j1 (sX10_leaves hR_t  e67) (fun hh68 hR_tt69 => ?_)
                    obtain ⟨rfl, rfl⟩ := am_inj2 H
                    exact ex.nd ⟨rfl, hR_tt69⟩
              · rw [if_neg c48] at H
                refine ex.f c48 ?_
                by_cases c70 : ¬ x17 = ((1 : Int32))
                · rw [if_pos c70] at H
                  refine ex.t c70 ?_
                  by_cases c71 : js25 = 0
                  · rw [if_pos c71] at H
                    refine ex.t c71 ?_
                    by_cases c72 : js25 = 0
                    · rw [if_pos c72] at H
                      refine ex.t c72 ?_
                      obtain ⟨rfl, rfl⟩ := am_inj2 H
                      exact ex.nd ⟨rfl, hR_t⟩
                    · rw [if_neg c72] at H
                      refine ex.f c72 ?_
                      refine ex.bd (r_gR hR_t lk9 rfl) ?_
                      obtain ⟨x74, e75, H⟩ := am_bd H
                      refine ex.bd (r_aI hR_t (la9_24 (a := 218) (by decide)) e75) ?_
                      obtain ⟨tt77, e78, H⟩ := am_bd H
                      obtain ⟨hh76, e79, hR_tt77⟩ := r_sI hR_t (la9_24 (a := 218) (by decide)) e78
                      refine ex.bd e79 ?_
                      obtain ⟨rfl, rfl⟩ := am_inj2 H
                      exact ex.nd ⟨rfl, hR_tt77⟩
                  · rw [if_neg c71] at H
                    refine ex.f c71 ?_
                    by_cases c80 : ¬ x17 = ((2 : Int32))
                    · rw [if_pos c80] at H
                      refine ex.t c80 ?_
                      by_cases c81 : js25 = 0
                      · rw [if_pos c81] at H
                        refine ex.t c81 ?_
                        obtain ⟨rfl, rfl⟩ := am_inj2 H
                        exact ex.nd ⟨rfl, hR_t⟩
                      · rw [if_neg c81] at H
                        refine ex.f c81 ?_
                        refine ex.bd (r_gR hR_t lk9 rfl) ?_
                        obtain ⟨x83, e84, H⟩ := am_bd H
                        refine ex.bd (r_aI hR_t (la9_24 (a := 218) (by decide)) e84) ?_
                        obtain ⟨tt86, e87, H⟩ := am_bd H
                        obtain ⟨hh85, e88, hR_tt86⟩ := r_sI hR_t (la9_24 (a := 218) (by decide)) e87
                        refine ex.bd e88 ?_
                        obtain ⟨rfl, rfl⟩ := am_inj2 H
                        exact ex.nd ⟨rfl, hR_tt86⟩
                    · rw [if_neg c80] at H
                      refine ex.f c80 ?_
                      obtain ⟨tt91, e89, H⟩ := am_bd H
                      refine ex.j1 (sX10_leaves hR_t  e89) (fun hh90 hR_tt91 => ?_)
                      obtain ⟨rfl, rfl⟩ := am_inj2 H
                      exact ex.nd ⟨rfl, hR_tt91⟩
                · rw [if_neg c70] at H
                  refine ex.f c70 ?_
                  refine ex.bd (r_gR hR_t lk9 rfl) ?_
                  obtain ⟨tt94, e95, H⟩ := am_bd H
                  obtain ⟨hh93, e96, hR_tt94⟩ := r_sI hR_t (la9_24 (a := 218) (by decide)) e95
                  refine ex.bd e96 ?_
                  obtain ⟨rfl, rfl⟩ := am_inj2 H
                  exact ex.nd ⟨rfl, hR_tt94⟩
            · rw [if_neg c47] at H
              refine ex.f c47 ?_
              obtain ⟨tt99, e97, H⟩ := am_bd H
              refine ex.j1 (sX10_passes hR_t  e97) (fun hh98 hR_tt99 => ?_)
              refine ex.bd (r_gI hR_tt99 lk9 rfl) ?_
              obtain ⟨js101, E104, H⟩ := am_bd H
              refine ex.j1 (Q := fun p => js101 = p) ?_ (fun z105 hq => ?_)
              · clear H
                have H := E104
                clear E104
                by_cases c102 : (tt99.1 218 29) = 0
                · rw [if_pos c102] at H
                  refine ex.t c102 ?_
                  obtain rfl := Option.some.inj H
                  exact ex.nd rfl
                · rw [if_neg c102] at H
                  refine ex.f c102 ?_
                  by_cases c103 : 0 ≤ v3
                  · rw [if_pos c103] at H
                    refine ex.t c103 ?_
                    obtain rfl := Option.some.inj H
                    exact ex.nd rfl
                  · rw [if_neg c103] at H
                    refine ex.f c103 ?_
                    obtain rfl := Option.some.inj H
                    exact ex.nd rfl
              · clear E104
                obtain rfl : js101 = z105 := hq
                obtain ⟨rfl, rfl⟩ := am_inj2 H
                exact ex.nd ⟨rfl, hR_tt99⟩
          · clear E106
            obtain ⟨rfl, hR_tt46⟩ : jv44 = z107 ∧ Rp hh45 tt46 := hq
            exact ih _ _ _ _ _ _ _ _ _ hR_tt46  H
set_option maxHeartbeats 4000000 in
set_option maxRecDepth 100000 in
theorem sX10_judged {a1 : Int32} {h : am_H} {t : tS} {r : Int32} {t1 : tS} (hR_t : Rp h t)  (H : tX10_judged a1 t = some (r, t1)) : ex (fX10_judged 218 a1 h) (fun p => r = p.1 ∧ Rp p.2 t1) := by
  unfold tX10_judged at H
  unfold fX10_judged
  refine ex.bd (r_isO hR_t lk9) ?_
  obtain ⟨tt2, et3, H⟩ := am_bd H
  obtain ⟨hh1, e4, hR_tt2⟩ := r_pI (k := 0) (x := (0 : Int32)) hR_t lk9 rfl rfl
  rw [Option.some.inj et3] at hR_tt2
  refine ex.bd e4 ?_
  obtain ⟨x6, e5, H⟩ := am_bd H
  refine ex.j1 (sX10_within hR_tt2  e5) (fun z7 hz => ?_)
  obtain rfl : x6 = z7 := hz
  by_cases c8 : ¬ x6 = 0
  · rw [if_pos c8] at H
    refine ex.t c8 ?_
    obtain ⟨tt11, e9, H⟩ := am_bd H
    refine ex.j1 (sX10_starts hR_tt2  e9) (fun hh10 hR_tt11 => ?_)
    obtain ⟨lw112, lw113, tt115, E118, H⟩ := am_bd3 H
    refine ex.j3 (sX10_judged_L31 _ _ _ _ _ _ _ _ _ _ hR_tt11  E118) (fun z116 z117 hh114 hq => ?_)
    clear E118
    obtain ⟨rfl, rfl, hR_tt115⟩ : lw112 = z116 ∧ lw113 = z117 ∧ Rp hh114 tt115 := hq
    obtain ⟨js119, E125, H⟩ := am_bd H
    refine ex.j1 (Q := fun p => js119 = p) ?_ (fun z126 hq => ?_)
    · clear H
      have H := E125
      clear E125
      by_cases c120 : ¬ a1 = 0
      · rw [if_pos c120] at H
        refine ex.t c120 ?_
        by_cases c121 : ¬ a1 = ((1 : Int32))
        · rw [if_pos c121] at H
          refine ex.t c121 ?_
          refine ex.bd (r_gR hR_tt115 lk9 rfl) ?_
          obtain ⟨x123, e124, H⟩ := am_bd H
          refine ex.bd (r_aI hR_tt115 (la9_24 (a := 218) (by decide)) e124) ?_
          obtain rfl := Option.some.inj H
          exact ex.nd rfl
        · rw [if_neg c121] at H
          refine ex.f c121 ?_
          obtain rfl := Option.some.inj H
          exact ex.nd rfl
      · rw [if_neg c120] at H
        refine ex.f c120 ?_
        obtain rfl := Option.some.inj H
        exact ex.nd rfl
    · clear E125
      obtain rfl : js119 = z126 := hq
      obtain ⟨rfl, rfl⟩ := am_inj2 H
      exact ex.nd ⟨rfl, hR_tt115⟩
  · rw [if_neg c8] at H
    refine ex.f c8 ?_
    obtain ⟨rfl, rfl⟩ := am_inj2 H
    exact ex.nd ⟨rfl, hR_tt2⟩
def tX10_triesNow  (t : tS) : Option (tS) :=
  (tX10_copies ((0 : Int32)) ((987 : Int32)) ((30 : Int32)) t).bind fun tt3 =>
  some tt3
set_option maxHeartbeats 4000000 in
set_option maxRecDepth 100000 in
theorem sX10_triesNow  {h : am_H} {t : tS} {t1 : tS} (hR_t : Rp h t)  (H : tX10_triesNow  t = some t1) : ex (fX10_triesNow 218 h) (fun h1 => Rp h1 t1) := by
  unfold tX10_triesNow at H
  unfold fX10_triesNow
  refine ex.bd (r_isO hR_t lk9) ?_
  obtain ⟨tt3, e1, H⟩ := am_bd H
  refine ex.j1 (sX10_copies hR_t  e1) (fun hh2 hR_tt3 => ?_)
  obtain rfl := Option.some.inj H
  exact ex.nd hR_tt3
def tX10_where_L32 : Nat → Int32 → Int32 → Int32 → tS → Option (tS)
  | 0, _, _, _, _ => none
  | n + 1, v1, v2, v3, t =>
    if v2 ≤ v3 then
      some t
    else
      (tX10_passes ((987 : Int32)) t).bind fun tt19 =>
      tX10_where_L32 n v1 v2 (v3 + (1 : Int32)) tt19
def tX10_where (a1 : Int32) (a2 : Int32) (t : tS) : Option (Int32 × tS) :=
  (some (uI t 218 0 ((0 : Int32)))).bind fun tt2 =>
  (tX10_isDay a1 tt2).bind fun x6 =>
  if x6 = 0 then
    some ((-2 : Int32), tt2)
  else
    (tX10_within a2 ((0 : Int32)) ((60 : Int32)) tt2).bind fun x10 =>
    if ¬ x10 = 0 then
      (tX10_triesNow  tt2).bind fun tt15 =>
      Option.bind (tX10_where_L32 4000 a1 a2 ((0 : Int32)) tt15) fun tt21 =>
      (tA tt21 234 1081 (((993 : Int32)) + a1)).bind fun x24 =>
      some (x24, tt21)
    else
      some ((-2 : Int32), tt2)
set_option maxHeartbeats 4000000 in
set_option maxRecDepth 100000 in
theorem sX10_where_L32 : ∀ (n : Nat) (v1 : Int32) (v2 : Int32) (v3 : Int32) (h : am_H) (t : tS) (t1 : tS), Rp h t → tX10_where_L32 n v1 v2 v3 t = some t1 → ex (fX10_where_L32 n 218 v1 v2 v3 h) (fun p => Rp p t1) := by
  intro n
  induction n with
  | zero => intro _ _ _ _ _ _ _ H; cases H
  | succ n ih =>
    intro v1 v2 v3 h t t1 hR_t H
    rw [tX10_where_L32] at H
    rw [fX10_where_L32]
    by_cases c16 : v2 ≤ v3
    · rw [if_pos c16] at H
      refine ex.t c16 ?_
      obtain rfl := Option.some.inj H
      exact ex.nd hR_t
    · rw [if_neg c16] at H
      refine ex.f c16 ?_
      obtain ⟨tt19, e17, H⟩ := am_bd H
      refine ex.j1 (sX10_passes hR_t  e17) (fun hh18 hR_tt19 => ?_)
      exact ih _ _ _ _ _ _ hR_tt19  H
set_option maxHeartbeats 4000000 in
set_option maxRecDepth 100000 in
theorem sX10_where {a1 : Int32} {a2 : Int32} {h : am_H} {t : tS} {r : Int32} {t1 : tS} (hR_t : Rp h t)  (H : tX10_where a1 a2 t = some (r, t1)) : ex (fX10_where 218 a1 a2 h) (fun p => r = p.1 ∧ Rp p.2 t1) := by
  unfold tX10_where at H
  unfold fX10_where
  refine ex.bd (r_isO hR_t lk9) ?_
  obtain ⟨tt2, et3, H⟩ := am_bd H
  obtain ⟨hh1, e4, hR_tt2⟩ := r_pI (k := 0) (x := (0 : Int32)) hR_t lk9 rfl rfl
  rw [Option.some.inj et3] at hR_tt2
  refine ex.bd e4 ?_
  obtain ⟨x6, e5, H⟩ := am_bd H
  refine ex.j1 (sX10_isDay hR_tt2  e5) (fun z7 hz => ?_)
  obtain rfl : x6 = z7 := hz
  by_cases c8 : x6 = 0
  · rw [if_pos c8] at H
    refine ex.t c8 ?_
    obtain ⟨rfl, rfl⟩ := am_inj2 H
    exact ex.nd ⟨rfl, hR_tt2⟩
  · rw [if_neg c8] at H
    refine ex.f c8 ?_
    obtain ⟨x10, e9, H⟩ := am_bd H
    refine ex.j1 (sX10_within hR_tt2  e9) (fun z11 hz => ?_)
    obtain rfl : x10 = z11 := hz
    by_cases c12 : ¬ x10 = 0
    · rw [if_pos c12] at H
      refine ex.t c12 ?_
      obtain ⟨tt15, e13, H⟩ := am_bd H
      refine ex.j1 (sX10_triesNow hR_tt2  e13) (fun hh14 hR_tt15 => ?_)
      obtain ⟨tt21, E22, H⟩ := am_bd H
      refine ex.j1 (sX10_where_L32 _ _ _ _ _ _ _ hR_tt15  E22) (fun hh20 hq => ?_)
      clear E22
      have hR_tt21 : Rp hh20 tt21 := hq
      refine ex.bd (r_gR hR_tt21 lk9 rfl) ?_
      obtain ⟨x24, e25, H⟩ := am_bd H
      refine ex.bd (r_aI hR_tt21 (la9_24 (a := 218) (by decide)) e25) ?_
      obtain ⟨rfl, rfl⟩ := am_inj2 H
      exact ex.nd ⟨rfl, hR_tt21⟩
    · rw [if_neg c12] at H
      refine ex.f c12 ?_
      obtain ⟨rfl, rfl⟩ := am_inj2 H
      exact ex.nd ⟨rfl, hR_tt2⟩
def tX10_next_L11 : Nat → Int32 → Int32 → tS → Option ((tS) ⊕ (Int32 × tS))
  | 0, _, _, _ => none
  | n + 1, v1, v2, t =>
    if ((60 : Int32)) < v2 then
      some (.inl t)
    else
      (tX10_isDay v1 t).bind fun x10 =>
      if x10 = 0 then
        some (.inl t)
      else
        (tX10_passes ((987 : Int32)) t).bind fun tt15 =>
        if ¬ ((((tt15.1 218 28) ||| (tt15.1 218 29)) >>> (v1 &&& 31)) &&& ((1 : Int32))) = ((1 : Int32)) then
          tX10_next_L11 n v1 (v2 + (1 : Int32)) tt15
        else
          some (.inr (v2, tt15))
def tX10_next (a1 : Int32) (t : tS) : Option (Int32 × tS) :=
  (some (uI t 218 0 ((0 : Int32)))).bind fun tt2 =>
  (tX10_triesNow  tt2).bind fun tt7 =>
  (tX10_next_L11 4000 a1 ((1 : Int32)) tt7).bind fun o22 => match o22 with
    | .inl tt20 =>
      some ((-1 : Int32), tt20)
    | .inr y23 => some y23
set_option maxHeartbeats 4000000 in
set_option maxRecDepth 100000 in
theorem sX10_next_L11 : ∀ (n : Nat) (v1 : Int32) (v2 : Int32) (h : am_H) (t : tS) (o : (tS) ⊕ (Int32 × tS)), Rp h t → tX10_next_L11 n v1 v2 t = some o → ex (fX10_next_L11 n 218 v1 v2 h) (fun p => match o, p with
    | .inl t1, .inl h1 => Rp h1 t1
    | .inr y, .inr z => y.1 = z.1 ∧ Rp z.2 y.2
    | _, _ => False) := by
  intro n
  induction n with
  | zero => intro _ _ _ _ _ _ H; cases H
  | succ n ih =>
    intro v1 v2 h t o hR_t H
    rw [tX10_next_L11] at H
    rw [fX10_next_L11]
    by_cases c8 : ((60 : Int32)) < v2
    · rw [if_pos c8] at H
      refine ex.t c8 ?_
      obtain rfl := Option.some.inj H
      exact ex.nd hR_t
    · rw [if_neg c8] at H
      refine ex.f c8 ?_
      obtain ⟨x10, e9, H⟩ := am_bd H
      refine ex.j1 (sX10_isDay hR_t  e9) (fun z11 hz => ?_)
      obtain rfl : x10 = z11 := hz
      by_cases c12 : x10 = 0
      · rw [if_pos c12] at H
        refine ex.t c12 ?_
        obtain rfl := Option.some.inj H
        exact ex.nd hR_t
      · rw [if_neg c12] at H
        refine ex.f c12 ?_
        obtain ⟨tt15, e13, H⟩ := am_bd H
        refine ex.j1 (sX10_passes hR_t  e13) (fun hh14 hR_tt15 => ?_)
        refine ex.bd (r_gI hR_tt15 lk9 rfl) ?_
        refine ex.bd (r_gI hR_tt15 lk9 rfl) ?_
        by_cases c18 : ¬ ((((tt15.1 218 28) ||| (tt15.1 218 29)) >>> (v1 &&& 31)) &&& ((1 : Int32))) = ((1 : Int32))
        · rw [if_pos c18] at H
          refine ex.t c18 ?_
          exact ih _ _ _ _ _ hR_tt15  H
        · rw [if_neg c18] at H
          refine ex.f c18 ?_
          obtain rfl := Option.some.inj H
          exact ex.nd ⟨rfl, hR_tt15⟩
set_option maxHeartbeats 4000000 in
set_option maxRecDepth 100000 in
theorem sX10_next {a1 : Int32} {h : am_H} {t : tS} {r : Int32} {t1 : tS} (hR_t : Rp h t)  (H : tX10_next a1 t = some (r, t1)) : ex (fX10_next 218 a1 h) (fun p => r = p.1 ∧ Rp p.2 t1) := by
  unfold tX10_next at H
  unfold fX10_next
  refine ex.bd (r_isO hR_t lk9) ?_
  obtain ⟨tt2, et3, H⟩ := am_bd H
  obtain ⟨hh1, e4, hR_tt2⟩ := r_pI (k := 0) (x := (0 : Int32)) hR_t lk9 rfl rfl
  rw [Option.some.inj et3] at hR_tt2
  refine ex.bd e4 ?_
  obtain ⟨tt7, e5, H⟩ := am_bd H
  refine ex.j1 (sX10_triesNow hR_tt2  e5) (fun hh6 hR_tt7 => ?_)
  obtain ⟨o22, E21, H⟩ := am_bd H
  refine ex.j1 (sX10_next_L11 _ _ _ _ _ _ hR_tt7  E21) (fun p24 hq => ?_)
  clear E21
  rcases o22 with tt20 | y23
  · rcases p24 with hh19 | z25
    · dsimp only at H hq ⊢
      have hR_tt20 : Rp hh19 tt20 := hq
      obtain ⟨rfl, rfl⟩ := am_inj2 H
      exact ex.nd ⟨rfl, hR_tt20⟩
    · exact hq.elim
  · rcases p24 with _ | z25
    · exact hq.elim
    · dsimp only at H ⊢
      obtain rfl := Option.some.inj H
      exact ex.nd hq
def tX10_gone_L11 : Nat → Int32 → Int32 → tS → Option ((tS) ⊕ (Int32 × tS))
  | 0, _, _, _ => none
  | n + 1, v1, v2, t =>
    if ((99 : Int32)) < v2 then
      some (.inl t)
    else
      (tX10_isDay v1 t).bind fun x10 =>
      if x10 = 0 then
        some (.inl t)
      else
        (tA t 234 1081 (((1005 : Int32)) + v1)).bind fun x14 =>
        if ¬ x14 = 0 then
          (tX10_passes ((987 : Int32)) t).bind fun tt19 =>
          tX10_gone_L11 n v1 (v2 + (1 : Int32)) tt19
        else
          some (.inr (v2, t))
def tX10_gone (a1 : Int32) (t : tS) : Option (Int32 × tS) :=
  (some (uI t 218 0 ((0 : Int32)))).bind fun tt2 =>
  (tX10_triesNow  tt2).bind fun tt7 =>
  (tX10_gone_L11 4000 a1 ((0 : Int32)) tt7).bind fun o23 => match o23 with
    | .inl tt21 =>
      some ((-1 : Int32), tt21)
    | .inr y24 => some y24
set_option maxHeartbeats 4000000 in
set_option maxRecDepth 100000 in
theorem sX10_gone_L11 : ∀ (n : Nat) (v1 : Int32) (v2 : Int32) (h : am_H) (t : tS) (o : (tS) ⊕ (Int32 × tS)), Rp h t → tX10_gone_L11 n v1 v2 t = some o → ex (fX10_gone_L11 n 218 v1 v2 h) (fun p => match o, p with
    | .inl t1, .inl h1 => Rp h1 t1
    | .inr y, .inr z => y.1 = z.1 ∧ Rp z.2 y.2
    | _, _ => False) := by
  intro n
  induction n with
  | zero => intro _ _ _ _ _ _ H; cases H
  | succ n ih =>
    intro v1 v2 h t o hR_t H
    rw [tX10_gone_L11] at H
    rw [fX10_gone_L11]
    by_cases c8 : ((99 : Int32)) < v2
    · rw [if_pos c8] at H
      refine ex.t c8 ?_
      obtain rfl := Option.some.inj H
      exact ex.nd hR_t
    · rw [if_neg c8] at H
      refine ex.f c8 ?_
      obtain ⟨x10, e9, H⟩ := am_bd H
      refine ex.j1 (sX10_isDay hR_t  e9) (fun z11 hz => ?_)
      obtain rfl : x10 = z11 := hz
      by_cases c12 : x10 = 0
      · rw [if_pos c12] at H
        refine ex.t c12 ?_
        obtain rfl := Option.some.inj H
        exact ex.nd hR_t
      · rw [if_neg c12] at H
        refine ex.f c12 ?_
        refine ex.bd (r_gR hR_t lk9 rfl) ?_
        obtain ⟨x14, e15, H⟩ := am_bd H
        refine ex.bd (r_aI hR_t (la9_24 (a := 218) (by decide)) e15) ?_
        by_cases c16 : ¬ x14 = 0
        · rw [if_pos c16] at H
          refine ex.t c16 ?_
          obtain ⟨tt19, e17, H⟩ := am_bd H
          refine ex.j1 (sX10_passes hR_t  e17) (fun hh18 hR_tt19 => ?_)
          exact ih _ _ _ _ _ hR_tt19  H
        · rw [if_neg c16] at H
          refine ex.f c16 ?_
          obtain rfl := Option.some.inj H
          exact ex.nd ⟨rfl, hR_t⟩
set_option maxHeartbeats 4000000 in
set_option maxRecDepth 100000 in
theorem sX10_gone {a1 : Int32} {h : am_H} {t : tS} {r : Int32} {t1 : tS} (hR_t : Rp h t)  (H : tX10_gone a1 t = some (r, t1)) : ex (fX10_gone 218 a1 h) (fun p => r = p.1 ∧ Rp p.2 t1) := by
  unfold tX10_gone at H
  unfold fX10_gone
  refine ex.bd (r_isO hR_t lk9) ?_
  obtain ⟨tt2, et3, H⟩ := am_bd H
  obtain ⟨hh1, e4, hR_tt2⟩ := r_pI (k := 0) (x := (0 : Int32)) hR_t lk9 rfl rfl
  rw [Option.some.inj et3] at hR_tt2
  refine ex.bd e4 ?_
  obtain ⟨tt7, e5, H⟩ := am_bd H
  refine ex.j1 (sX10_triesNow hR_tt2  e5) (fun hh6 hR_tt7 => ?_)
  obtain ⟨o23, E22, H⟩ := am_bd H
  refine ex.j1 (sX10_gone_L11 _ _ _ _ _ _ hR_tt7  E22) (fun p25 hq => ?_)
  clear E22
  rcases o23 with tt21 | y24
  · rcases p25 with hh20 | z26
    · dsimp only at H hq ⊢
      have hR_tt21 : Rp hh20 tt21 := hq
      obtain ⟨rfl, rfl⟩ := am_inj2 H
      exact ex.nd ⟨rfl, hR_tt21⟩
    · exact hq.elim
  · rcases p25 with _ | z26
    · exact hq.elim
    · dsimp only at H ⊢
      obtain rfl := Option.some.inj H
      exact ex.nd hq
def tX10_crowd_L15 : Nat → Int32 → Int32 → Int32 → tS → Option (Int32 × tS)
  | 0, _, _, _, _ => none
  | n + 1, v1, v2, v3, t =>
    if ((60 : Int32)) < v3 then
      some (v1, t)
    else
      (tX10_somewhere ((987 : Int32)) t).bind fun x10 =>
      (tX10_bits x10 t).bind fun x13 =>
      Option.bind (
        if x13 ≤ v2 then
          some v1
        else
          some v3) fun js15 =>
      Option.bind (
        if x13 ≤ v2 then
          some v2
        else
          some x13) fun js17 =>
      (tX10_passes ((987 : Int32)) t).bind fun tt21 =>
      tX10_crowd_L15 n js15 js17 (v3 + (1 : Int32)) tt21
def tX10_crowd  (t : tS) : Option (Int32 × tS) :=
  (some (uI t 218 0 ((0 : Int32)))).bind fun tt2 =>
  (tX10_triesNow  tt2).bind fun tt7 =>
  am_b2 (tX10_crowd_L15 4000 ((0 : Int32)) ((-1 : Int32)) ((0 : Int32)) tt7) fun lw26 tt28 =>
  some (lw26, tt28)
set_option maxHeartbeats 4000000 in
set_option maxRecDepth 100000 in
theorem sX10_crowd_L15 : ∀ (n : Nat) (v1 : Int32) (v2 : Int32) (v3 : Int32) (h : am_H) (t : tS) (w1 : Int32) (t1 : tS), Rp h t → tX10_crowd_L15 n v1 v2 v3 t = some (w1, t1) → ex (fX10_crowd_L15 n 218 v1 v2 v3 h) (fun p => w1 = p.1 ∧ Rp p.2 t1) := by
  intro n
  induction n with
  | zero => intro _ _ _ _ _ _ _ _ H; cases H
  | succ n ih =>
    intro v1 v2 v3 h t w1 t1 hR_t H
    rw [tX10_crowd_L15] at H
    rw [fX10_crowd_L15]
    by_cases c8 : ((60 : Int32)) < v3
    · rw [if_pos c8] at H
      refine ex.t c8 ?_
      obtain ⟨rfl, rfl⟩ := am_inj2 H
      exact ex.nd ⟨rfl, hR_t⟩
    · rw [if_neg c8] at H
      refine ex.f c8 ?_
      obtain ⟨x10, e9, H⟩ := am_bd H
      refine ex.j1 (sX10_somewhere hR_t  e9) (fun z11 hz => ?_)
      obtain rfl : x10 = z11 := hz
      obtain ⟨x13, e12, H⟩ := am_bd H
      refine ex.j1 (sX10_bits hR_t  e12) (fun z14 hz => ?_)
      obtain rfl : x13 = z14 := hz
      obtain ⟨js15, E24, H⟩ := am_bd H
      refine ex.j1 (Q := fun p => js15 = p) ?_ (fun z25 hq => ?_)
      · clear H
        have H := E24
        clear E24
        by_cases c16 : x13 ≤ v2
        · rw [if_pos c16] at H
          refine ex.t c16 ?_
          obtain rfl := Option.some.inj H
          exact ex.nd rfl
        · rw [if_neg c16] at H
          refine ex.f c16 ?_
          obtain rfl := Option.some.inj H
          exact ex.nd rfl
      · clear E24
        obtain rfl : js15 = z25 := hq
        obtain ⟨js17, E22, H⟩ := am_bd H
        refine ex.j1 (Q := fun p => js17 = p) ?_ (fun z23 hq => ?_)
        · clear H
          have H := E22
          clear E22
          by_cases c18 : x13 ≤ v2
          · rw [if_pos c18] at H
            refine ex.t c18 ?_
            obtain rfl := Option.some.inj H
            exact ex.nd rfl
          · rw [if_neg c18] at H
            refine ex.f c18 ?_
            obtain rfl := Option.some.inj H
            exact ex.nd rfl
        · clear E22
          obtain rfl : js17 = z23 := hq
          obtain ⟨tt21, e19, H⟩ := am_bd H
          refine ex.j1 (sX10_passes hR_t  e19) (fun hh20 hR_tt21 => ?_)
          exact ih _ _ _ _ _ _ _ hR_tt21  H
set_option maxHeartbeats 4000000 in
set_option maxRecDepth 100000 in
theorem sX10_crowd  {h : am_H} {t : tS} {r : Int32} {t1 : tS} (hR_t : Rp h t)  (H : tX10_crowd  t = some (r, t1)) : ex (fX10_crowd 218 h) (fun p => r = p.1 ∧ Rp p.2 t1) := by
  unfold tX10_crowd at H
  unfold fX10_crowd
  refine ex.bd (r_isO hR_t lk9) ?_
  obtain ⟨tt2, et3, H⟩ := am_bd H
  obtain ⟨hh1, e4, hR_tt2⟩ := r_pI (k := 0) (x := (0 : Int32)) hR_t lk9 rfl rfl
  rw [Option.some.inj et3] at hR_tt2
  refine ex.bd e4 ?_
  obtain ⟨tt7, e5, H⟩ := am_bd H
  refine ex.j1 (sX10_triesNow hR_tt2  e5) (fun hh6 hR_tt7 => ?_)
  obtain ⟨lw26, tt28, E30, H⟩ := am_bd2 H
  refine ex.j2 (sX10_crowd_L15 _ _ _ _ _ _ _ _ hR_tt7  E30) (fun z29 hh27 hq => ?_)
  clear E30
  obtain ⟨rfl, hR_tt28⟩ : lw26 = z29 ∧ Rp hh27 tt28 := hq
  obtain ⟨rfl, rfl⟩ := am_inj2 H
  exact ex.nd ⟨rfl, hR_tt28⟩
def tX10_refused_L42 : Nat → Int32 → Int32 → Int32 → tS → Option (Int32)
  | 0, _, _, _, _ => none
  | n + 1, v1, v2, v3, t =>
    if ¬ (((t.1 218 29) >>> (v3 &&& 31)) &&& ((1 : Int32))) = 0 then
      some v3
    else
      tX10_refused_L42 n v1 v2 (v3 + (1 : Int32)) t
def tX10_refused_L11 : Nat → Int32 → Int32 → tS → Option ((tS) ⊕ (Int32 × tS))
  | 0, _, _, _ => none
  | n + 1, v1, v2, t =>
    if ((60 : Int32)) < v2 then
      some (.inl t)
    else
      (tX10_within v1 ((0 : Int32)) ((1 : Int32)) t).bind fun x10 =>
      if x10 = 0 then
        some (.inl t)
      else
        (tX10_passes ((987 : Int32)) t).bind fun tt15 =>
        if (tt15.1 218 29) = 0 then
          tX10_refused_L11 n v1 (v2 + (1 : Int32)) tt15
        else
          Option.bind (tX10_refused_L42 4000 v1 v2 ((0 : Int32)) tt15) fun lw20 =>
          Option.bind (
            if ¬ v1 = 0 then
              some lw20
            else
              some v2) fun js23 =>
          some (.inr (js23, tt15))
def tX10_refused (a1 : Int32) (t : tS) : Option (Int32 × tS) :=
  (some (uI t 218 0 ((0 : Int32)))).bind fun tt2 =>
  (tX10_triesNow  tt2).bind fun tt7 =>
  (tX10_refused_L11 4000 a1 ((1 : Int32)) tt7).bind fun o30 => match o30 with
    | .inl tt28 =>
      some ((-1 : Int32), tt28)
    | .inr y31 => some y31
set_option maxHeartbeats 4000000 in
set_option maxRecDepth 100000 in
theorem sX10_refused_L42 : ∀ (n : Nat) (v1 : Int32) (v2 : Int32) (v3 : Int32) (h : am_H) (t : tS) (w3 : Int32), Rp h t → tX10_refused_L42 n v1 v2 v3 t = some w3 → ex (fX10_refused_L42 n 218 v1 v2 v3 h) (fun p => w3 = p) := by
  intro n
  induction n with
  | zero => intro _ _ _ _ _ _ _ H; cases H
  | succ n ih =>
    intro v1 v2 v3 h t w3 hR_t H
    rw [tX10_refused_L42] at H
    rw [fX10_refused_L42]
    refine ex.bd (r_gI hR_t lk9 rfl) ?_
    by_cases c19 : ¬ (((t.1 218 29) >>> (v3 &&& 31)) &&& ((1 : Int32))) = 0
    · rw [if_pos c19] at H
      refine ex.t c19 ?_
      obtain rfl := Option.some.inj H
      exact ex.nd rfl
    · rw [if_neg c19] at H
      refine ex.f c19 ?_
      exact ih _ _ _ _ _ _ hR_t  H
set_option maxHeartbeats 4000000 in
set_option maxRecDepth 100000 in
theorem sX10_refused_L11 : ∀ (n : Nat) (v1 : Int32) (v2 : Int32) (h : am_H) (t : tS) (o : (tS) ⊕ (Int32 × tS)), Rp h t → tX10_refused_L11 n v1 v2 t = some o → ex (fX10_refused_L11 n 218 v1 v2 h) (fun p => match o, p with
    | .inl t1, .inl h1 => Rp h1 t1
    | .inr y, .inr z => y.1 = z.1 ∧ Rp z.2 y.2
    | _, _ => False) := by
  intro n
  induction n with
  | zero => intro _ _ _ _ _ _ H; cases H
  | succ n ih =>
    intro v1 v2 h t o hR_t H
    rw [tX10_refused_L11] at H
    rw [fX10_refused_L11]
    by_cases c8 : ((60 : Int32)) < v2
    · rw [if_pos c8] at H
      refine ex.t c8 ?_
      obtain rfl := Option.some.inj H
      exact ex.nd hR_t
    · rw [if_neg c8] at H
      refine ex.f c8 ?_
      obtain ⟨x10, e9, H⟩ := am_bd H
      refine ex.j1 (sX10_within hR_t  e9) (fun z11 hz => ?_)
      obtain rfl : x10 = z11 := hz
      by_cases c12 : x10 = 0
      · rw [if_pos c12] at H
        refine ex.t c12 ?_
        obtain rfl := Option.some.inj H
        exact ex.nd hR_t
      · rw [if_neg c12] at H
        refine ex.f c12 ?_
        obtain ⟨tt15, e13, H⟩ := am_bd H
        refine ex.j1 (sX10_passes hR_t  e13) (fun hh14 hR_tt15 => ?_)
        refine ex.bd (r_gI hR_tt15 lk9 rfl) ?_
        by_cases c17 : (tt15.1 218 29) = 0
        · rw [if_pos c17] at H
          refine ex.t c17 ?_
          exact ih _ _ _ _ _ hR_tt15  H
        · rw [if_neg c17] at H
          refine ex.f c17 ?_
          obtain ⟨lw20, E22, H⟩ := am_bd H
          refine ex.j1 (sX10_refused_L42 _ _ _ _ _ _ _ hR_tt15  E22) (fun z21 hq => ?_)
          clear E22
          obtain rfl : lw20 = z21 := hq
          obtain ⟨js23, E25, H⟩ := am_bd H
          refine ex.j1 (Q := fun p => js23 = p) ?_ (fun z26 hq => ?_)
          · clear H
            have H := E25
            clear E25
            by_cases c24 : ¬ v1 = 0
            · rw [if_pos c24] at H
              refine ex.t c24 ?_
              obtain rfl := Option.some.inj H
              exact ex.nd rfl
            · rw [if_neg c24] at H
              refine ex.f c24 ?_
              obtain rfl := Option.some.inj H
              exact ex.nd rfl
          · clear E25
            obtain rfl : js23 = z26 := hq
            obtain rfl := Option.some.inj H
            exact ex.nd ⟨rfl, hR_tt15⟩
set_option maxHeartbeats 4000000 in
set_option maxRecDepth 100000 in
theorem sX10_refused {a1 : Int32} {h : am_H} {t : tS} {r : Int32} {t1 : tS} (hR_t : Rp h t)  (H : tX10_refused a1 t = some (r, t1)) : ex (fX10_refused 218 a1 h) (fun p => r = p.1 ∧ Rp p.2 t1) := by
  unfold tX10_refused at H
  unfold fX10_refused
  refine ex.bd (r_isO hR_t lk9) ?_
  obtain ⟨tt2, et3, H⟩ := am_bd H
  obtain ⟨hh1, e4, hR_tt2⟩ := r_pI (k := 0) (x := (0 : Int32)) hR_t lk9 rfl rfl
  rw [Option.some.inj et3] at hR_tt2
  refine ex.bd e4 ?_
  obtain ⟨tt7, e5, H⟩ := am_bd H
  refine ex.j1 (sX10_triesNow hR_tt2  e5) (fun hh6 hR_tt7 => ?_)
  obtain ⟨o30, E29, H⟩ := am_bd H
  refine ex.j1 (sX10_refused_L11 _ _ _ _ _ _ hR_tt7  E29) (fun p32 hq => ?_)
  clear E29
  rcases o30 with tt28 | y31
  · rcases p32 with hh27 | z33
    · dsimp only at H hq ⊢
      have hR_tt28 : Rp hh27 tt28 := hq
      obtain ⟨rfl, rfl⟩ := am_inj2 H
      exact ex.nd ⟨rfl, hR_tt28⟩
    · exact hq.elim
  · rcases p32 with _ | z33
    · exact hq.elim
    · dsimp only at H ⊢
      obtain rfl := Option.some.inj H
      exact ex.nd hq
def tX10_meets_L11 : Nat → Int32 → Int32 → Int32 → tS → Option ((tS) ⊕ (Int32 × tS))
  | 0, _, _, _, _ => none
  | n + 1, v1, v2, v3, t =>
    if ((60 : Int32)) < v3 then
      some (.inl t)
    else
      (tX10_isDay v1 t).bind fun x10 =>
      if x10 = 0 then
        some (.inl t)
      else
        (tX10_isDay v2 t).bind fun x14 =>
        if x14 = 0 then
          some (.inl t)
        else
          if v1 = v2 then
            some (.inl t)
          else
            (tA t 234 1081 (((993 : Int32)) + v1)).bind fun x19 =>
            if x19 < 0 then
              (tX10_passes ((987 : Int32)) t).bind fun tt24 =>
              tX10_meets_L11 n v1 v2 (v3 + (1 : Int32)) tt24
            else
              (tA t 234 1081 (((993 : Int32)) + v1)).bind fun x26 =>
              (tA t 234 1081 (((993 : Int32)) + v2)).bind fun x29 =>
              if ¬ x26 = x29 then
                (tX10_passes ((987 : Int32)) t).bind fun tt34 =>
                tX10_meets_L11 n v1 v2 (v3 + (1 : Int32)) tt34
              else
                some (.inr (v3, t))
def tX10_meets (a1 : Int32) (a2 : Int32) (t : tS) : Option (Int32 × tS) :=
  (some (uI t 218 0 ((0 : Int32)))).bind fun tt2 =>
  (tX10_triesNow  tt2).bind fun tt7 =>
  (tX10_meets_L11 4000 a1 a2 ((0 : Int32)) tt7).bind fun o38 => match o38 with
    | .inl tt36 =>
      some ((-1 : Int32), tt36)
    | .inr y39 => some y39
set_option maxHeartbeats 4000000 in
set_option maxRecDepth 100000 in
theorem sX10_meets_L11 : ∀ (n : Nat) (v1 : Int32) (v2 : Int32) (v3 : Int32) (h : am_H) (t : tS) (o : (tS) ⊕ (Int32 × tS)), Rp h t → tX10_meets_L11 n v1 v2 v3 t = some o → ex (fX10_meets_L11 n 218 v1 v2 v3 h) (fun p => match o, p with
    | .inl t1, .inl h1 => Rp h1 t1
    | .inr y, .inr z => y.1 = z.1 ∧ Rp z.2 y.2
    | _, _ => False) := by
  intro n
  induction n with
  | zero => intro _ _ _ _ _ _ _ H; cases H
  | succ n ih =>
    intro v1 v2 v3 h t o hR_t H
    rw [tX10_meets_L11] at H
    rw [fX10_meets_L11]
    by_cases c8 : ((60 : Int32)) < v3
    · rw [if_pos c8] at H
      refine ex.t c8 ?_
      obtain rfl := Option.some.inj H
      exact ex.nd hR_t
    · rw [if_neg c8] at H
      refine ex.f c8 ?_
      obtain ⟨x10, e9, H⟩ := am_bd H
      refine ex.j1 (sX10_isDay hR_t  e9) (fun z11 hz => ?_)
      obtain rfl : x10 = z11 := hz
      by_cases c12 : x10 = 0
      · rw [if_pos c12] at H
        refine ex.t c12 ?_
        obtain rfl := Option.some.inj H
        exact ex.nd hR_t
      · rw [if_neg c12] at H
        refine ex.f c12 ?_
        obtain ⟨x14, e13, H⟩ := am_bd H
        refine ex.j1 (sX10_isDay hR_t  e13) (fun z15 hz => ?_)
        obtain rfl : x14 = z15 := hz
        by_cases c16 : x14 = 0
        · rw [if_pos c16] at H
          refine ex.t c16 ?_
          obtain rfl := Option.some.inj H
          exact ex.nd hR_t
        · rw [if_neg c16] at H
          refine ex.f c16 ?_
          by_cases c17 : v1 = v2
          · rw [if_pos c17] at H
            refine ex.t c17 ?_
            obtain rfl := Option.some.inj H
            exact ex.nd hR_t
          · rw [if_neg c17] at H
            refine ex.f c17 ?_
            refine ex.bd (r_gR hR_t lk9 rfl) ?_
            obtain ⟨x19, e20, H⟩ := am_bd H
            refine ex.bd (r_aI hR_t (la9_24 (a := 218) (by decide)) e20) ?_
            by_cases c21 : x19 < 0
            · rw [if_pos c21] at H
              refine ex.t c21 ?_
              obtain ⟨tt24, e22, H⟩ := am_bd H
              refine ex.j1 (sX10_passes hR_t  e22) (fun hh23 hR_tt24 => ?_)
              exact ih _ _ _ _ _ _ hR_tt24  H
            · rw [if_neg c21] at H
              refine ex.f c21 ?_
              refine ex.bd (r_gR hR_t lk9 rfl) ?_
              obtain ⟨x26, e27, H⟩ := am_bd H
              refine ex.bd (r_aI hR_t (la9_24 (a := 218) (by decide)) e27) ?_
              refine ex.bd (r_gR hR_t lk9 rfl) ?_
              obtain ⟨x29, e30, H⟩ := am_bd H
              refine ex.bd (r_aI hR_t (la9_24 (a := 218) (by decide)) e30) ?_
              by_cases c31 : ¬ x26 = x29
              · rw [if_pos c31] at H
                refine ex.t c31 ?_
                obtain ⟨tt34, e32, H⟩ := am_bd H
                refine ex.j1 (sX10_passes hR_t  e32) (fun hh33 hR_tt34 => ?_)
                exact ih _ _ _ _ _ _ hR_tt34  H
              · rw [if_neg c31] at H
                refine ex.f c31 ?_
                obtain rfl := Option.some.inj H
                exact ex.nd ⟨rfl, hR_t⟩
set_option maxHeartbeats 4000000 in
set_option maxRecDepth 100000 in
theorem sX10_meets {a1 : Int32} {a2 : Int32} {h : am_H} {t : tS} {r : Int32} {t1 : tS} (hR_t : Rp h t)  (H : tX10_meets a1 a2 t = some (r, t1)) : ex (fX10_meets 218 a1 a2 h) (fun p => r = p.1 ∧ Rp p.2 t1) := by
  unfold tX10_meets at H
  unfold fX10_meets
  refine ex.bd (r_isO hR_t lk9) ?_
  obtain ⟨tt2, et3, H⟩ := am_bd H
  obtain ⟨hh1, e4, hR_tt2⟩ := r_pI (k := 0) (x := (0 : Int32)) hR_t lk9 rfl rfl
  rw [Option.some.inj et3] at hR_tt2
  refine ex.bd e4 ?_
  obtain ⟨tt7, e5, H⟩ := am_bd H
  refine ex.j1 (sX10_triesNow hR_tt2  e5) (fun hh6 hR_tt7 => ?_)
  obtain ⟨o38, E37, H⟩ := am_bd H
  refine ex.j1 (sX10_meets_L11 _ _ _ _ _ _ _ hR_tt7  E37) (fun p40 hq => ?_)
  clear E37
  rcases o38 with tt36 | y39
  · rcases p40 with hh35 | z41
    · dsimp only at H hq ⊢
      have hR_tt36 : Rp hh35 tt36 := hq
      obtain ⟨rfl, rfl⟩ := am_inj2 H
      exact ex.nd ⟨rfl, hR_tt36⟩
    · exact hq.elim
  · rcases p40 with _ | z41
    · exact hq.elim
    · dsimp only at H ⊢
      obtain rfl := Option.some.inj H
      exact ex.nd hq
def tX10_isCalm_L11 : Nat → Int32 → Int32 → Int32 → tS → Option (tS)
  | 0, _, _, _, _ => none
  | n + 1, v1, v2, v3, t =>
    if v1 ≤ v3 then
      some t
    else
      (tX10_passes ((987 : Int32)) t).bind fun tt7 =>
      tX10_isCalm_L11 n v1 v2 (v3 + (1 : Int32)) tt7
def tX10_isCalm (a1 : Int32) (t : tS) : Option (Int32 × tS) :=
  (tA t 234 1081 ((988 : Int32))).bind fun x2 =>
  Option.bind (tX10_isCalm_L11 4000 a1 x2 ((0 : Int32)) t) fun tt9 =>
  (tA tt9 234 1081 ((988 : Int32))).bind fun x12 =>
  Option.bind (
    if ¬ x12 = x2 then
      some ((0 : Int32))
    else
      some ((1 : Int32))) fun js14 =>
  (am_z01 js14).bind fun b16 =>
  some (b16, tt9)
set_option maxHeartbeats 4000000 in
set_option maxRecDepth 100000 in
theorem sX10_isCalm_L11 : ∀ (n : Nat) (v1 : Int32) (v2 : Int32) (v3 : Int32) (h : am_H) (t : tS) (t1 : tS), Rp h t → tX10_isCalm_L11 n v1 v2 v3 t = some t1 → ex (fX10_isCalm_L11 n 218 v1 v2 v3 h) (fun p => Rp p t1) := by
  intro n
  induction n with
  | zero => intro _ _ _ _ _ _ _ H; cases H
  | succ n ih =>
    intro v1 v2 v3 h t t1 hR_t H
    rw [tX10_isCalm_L11] at H
    rw [fX10_isCalm_L11]
    by_cases c4 : v1 ≤ v3
    · rw [if_pos c4] at H
      refine ex.t c4 ?_
      obtain rfl := Option.some.inj H
      exact ex.nd hR_t
    · rw [if_neg c4] at H
      refine ex.f c4 ?_
      obtain ⟨tt7, e5, H⟩ := am_bd H
      refine ex.j1 (sX10_passes hR_t  e5) (fun hh6 hR_tt7 => ?_)
      exact ih _ _ _ _ _ _ hR_tt7  H
set_option maxHeartbeats 4000000 in
set_option maxRecDepth 100000 in
theorem sX10_isCalm {a1 : Int32} {h : am_H} {t : tS} {r : Int32} {t1 : tS} (hR_t : Rp h t)  (H : tX10_isCalm a1 t = some (r, t1)) : ex (fX10_isCalm 218 a1 h) (fun p => r = p.1 ∧ Rp p.2 t1) := by
  unfold tX10_isCalm at H
  unfold fX10_isCalm
  refine ex.bd (r_isO hR_t lk9) ?_
  refine ex.bd (r_gR hR_t lk9 rfl) ?_
  obtain ⟨x2, e3, H⟩ := am_bd H
  refine ex.bd (r_aI hR_t (la9_24 (a := 218) (by decide)) e3) ?_
  obtain ⟨tt9, E10, H⟩ := am_bd H
  refine ex.j1 (sX10_isCalm_L11 _ _ _ _ _ _ _ hR_t  E10) (fun hh8 hq => ?_)
  clear E10
  have hR_tt9 : Rp hh8 tt9 := hq
  refine ex.bd (r_gR hR_tt9 lk9 rfl) ?_
  obtain ⟨x12, e13, H⟩ := am_bd H
  refine ex.bd (r_aI hR_tt9 (la9_24 (a := 218) (by decide)) e13) ?_
  obtain ⟨js14, E18, H⟩ := am_bd H
  refine ex.j1 (Q := fun p => js14 = p) ?_ (fun z19 hq => ?_)
  · clear H
    have H := E18
    clear E18
    by_cases c15 : ¬ x12 = x2
    · rw [if_pos c15] at H
      refine ex.t c15 ?_
      obtain rfl := Option.some.inj H
      exact ex.nd rfl
    · rw [if_neg c15] at H
      refine ex.f c15 ?_
      obtain rfl := Option.some.inj H
      exact ex.nd rfl
  · clear E18
    obtain rfl : js14 = z19 := hq
    obtain ⟨b16, e17, H⟩ := am_bd H
    refine ex.bd e17 ?_
    obtain ⟨rfl, rfl⟩ := am_inj2 H
    exact ex.nd ⟨rfl, hR_tt9⟩
def tX10_builtIn_L10 : Nat → Int32 → Int32 → Int32 → tS → Option (Int32)
  | 0, _, _, _, _ => none
  | n + 1, v2, v3, v4, t =>
    if v4 ≤ v2 then
      some v3
    else
      (am_dv v3 ((3 : Int32))).bind fun q5 =>
      tX10_builtIn_L10 n v2 q5 (v4 + (-1 : Int32)) t
def tX10_builtIn (a1 : Int32) (a2 : Int32) (t : tS) : Option (Int32) :=
  (tX10_houses  t).bind fun x2 =>
  Option.bind (tX10_builtIn_L10 4000 a2 a1 (x2 - ((1 : Int32))) t) fun lw7 =>
  (am_rm' lw7 ((3 : Int32))).bind fun q10 =>
  some q10
set_option maxHeartbeats 4000000 in
set_option maxRecDepth 100000 in
theorem sX10_builtIn_L10 : ∀ (n : Nat) (v2 : Int32) (v3 : Int32) (v4 : Int32) (h : am_H) (t : tS) (w3 : Int32), Rp h t → tX10_builtIn_L10 n v2 v3 v4 t = some w3 → ex (fX10_builtIn_L10 n v2 v3 v4 h) (fun p => w3 = p) := by
  intro n
  induction n with
  | zero => intro _ _ _ _ _ _ _ H; cases H
  | succ n ih =>
    intro v2 v3 v4 h t w3 hR_t H
    rw [tX10_builtIn_L10] at H
    rw [fX10_builtIn_L10]
    by_cases c4 : v4 ≤ v2
    · rw [if_pos c4] at H
      refine ex.t c4 ?_
      obtain rfl := Option.some.inj H
      exact ex.nd rfl
    · rw [if_neg c4] at H
      refine ex.f c4 ?_
      obtain ⟨q5, e6, H⟩ := am_bd H
      refine ex.bd e6 ?_
      exact ih _ _ _ _ _ _ hR_t  H
set_option maxHeartbeats 4000000 in
set_option maxRecDepth 100000 in
theorem sX10_builtIn {a1 : Int32} {a2 : Int32} {h : am_H} {t : tS} {r : Int32} (hR_t : Rp h t)  (H : tX10_builtIn a1 a2 t = some r) : ex (fX10_builtIn 218 a1 a2 h) (fun x => r = x) := by
  unfold tX10_builtIn at H
  unfold fX10_builtIn
  refine ex.bd (r_isO hR_t lk9) ?_
  obtain ⟨x2, e1, H⟩ := am_bd H
  refine ex.j1 (sX10_houses hR_t  e1) (fun z3 hz => ?_)
  obtain rfl : x2 = z3 := hz
  obtain ⟨lw7, E9, H⟩ := am_bd H
  refine ex.j1 (sX10_builtIn_L10 _ _ _ _ _ _ _ hR_t  E9) (fun z8 hq => ?_)
  clear E9
  obtain rfl : lw7 = z8 := hq
  obtain ⟨q10, e11, H⟩ := am_bd H
  refine ex.bd e11 ?_
  obtain rfl := Option.some.inj H
  exact ex.nd rfl
def tX10_beds_L36 : Nat → Int32 → Int32 → Int32 → Int32 → tS → Option (Int32)
  | 0, _, _, _, _, _ => none
  | n + 1, v1, v2, v3, v4, t =>
    (tX10_houses  t).bind fun x11 =>
    if x11 ≤ v4 then
      some v3
    else
      tX10_beds_L36 n v1 v2 (v3 * ((3 : Int32))) (v4 + (1 : Int32)) t
def tX10_beds_L83 : Nat → Int32 → Int32 → Int32 → Int32 → Int32 → Int32 → Int32 → Int32 → Int32 → tS → Option (Int32 × Int32 × tS)
  | 0, _, _, _, _, _, _, _, _, _, _ => none
  | n + 1, v1, v2, v3, v4, v5, v6, v7, v8, v9, t =>
    (tX10_houses  t).bind fun x22 =>
    if x22 ≤ v9 then
      some (v7, v8, t)
    else
      (tX10_builtIn v6 v9 t).bind fun x26 =>
      (tA t 234 1081 (((989 : Int32)) + v9)).bind fun x29 =>
      (tX10_builtIn v6 v9 t).bind fun x32 =>
      (tWA t 0 234 1081 (((989 : Int32)) + v9) (x29 + x32)).bind fun tt35 =>
      Option.bind (
        if v8 = 0 then
          some ((0 : Int32))
        else
          (tA tt35 234 1081 (((989 : Int32)) + v9)).bind fun x41 =>
          if ((9 : Int32)) < x41 then
            some ((0 : Int32))
          else
            some ((1 : Int32))) fun js38 =>
      tX10_beds_L83 n v1 v2 v3 v4 v5 v6 (v7 + x26) js38 (v9 + (1 : Int32)) tt35
def tX10_beds_L64 : Nat → Int32 → Int32 → Int32 → Int32 → Int32 → Int32 → tS → Option (Int32 × Int32 × tS)
  | 0, _, _, _, _, _, _, _ => none
  | n + 1, v1, v2, v3, v4, v5, v6, t =>
    if v3 ≤ v6 then
      some (v4, v5, t)
    else
      (tX10_triesNow  t).bind fun tt20 =>
      am_b3 (tX10_beds_L83 4000 v1 v2 v3 v4 v5 v6 ((0 : Int32)) ((1 : Int32)) ((0 : Int32)) tt20) fun lw46 lw47 tt49 =>
      am_b2 (
        if lw47 = 0 then
          some ((0 : Int32), tt49)
        else
          if v4 < 0 then
            am_b2 (tX10_isCalm v1 tt49) fun x59 tt61 =>
            if x59 = 0 then
              some ((0 : Int32), tt61)
            else
              some ((1 : Int32), tt61)
          else
            if v5 ≤ lw46 then
              some ((0 : Int32), tt49)
            else
              am_b2 (tX10_isCalm v1 tt49) fun x66 tt68 =>
              if x66 = 0 then
                some ((0 : Int32), tt68)
              else
                some ((1 : Int32), tt68)) fun js53 tt55 =>
      Option.bind (
        if js53 = 0 then
          some v4
        else
          some v6) fun js71 =>
      Option.bind (
        if js53 = 0 then
          some v5
        else
          some lw46) fun js73 =>
      tX10_beds_L64 n v1 v2 v3 js71 js73 (v6 + (1 : Int32)) tt55
def tX10_beds (a1 : Int32) (a2 : Int32) (t : tS) : Option (Int32 × tS) :=
  (some (uI t 218 0 ((0 : Int32)))).bind fun tt2 =>
  (tX10_within a1 ((1 : Int32)) ((36 : Int32)) tt2).bind fun x6 =>
  if x6 = 0 then
    some ((-2 : Int32), tt2)
  else
    if a2 = ((-1 : Int32)) then
      Option.bind (tX10_beds_L36 4000 a1 a2 ((1 : Int32)) ((0 : Int32)) tt2) fun lw14 =>
      am_b3 (tX10_beds_L64 4000 a1 a2 lw14 ((-1 : Int32)) ((0 : Int32)) ((0 : Int32)) tt2) fun lw81 lw82 tt84 =>
      Option.bind (
        if 0 ≤ lw81 then
          if ¬ a2 = ((-1 : Int32)) then
            (tX10_builtIn lw81 a2 tt84).bind fun x92 =>
            some x92
          else
            some lw82
        else
          some ((-2 : Int32))) fun js88 =>
      some (js88, tt84)
    else
      (tX10_isHouse a2 tt2).bind fun x97 =>
      if ¬ x97 = 0 then
        Option.bind (tX10_beds_L36 4000 a1 a2 ((1 : Int32)) ((0 : Int32)) tt2) fun lw100 =>
        am_b3 (tX10_beds_L64 4000 a1 a2 lw100 ((-1 : Int32)) ((0 : Int32)) ((0 : Int32)) tt2) fun lw103 lw104 tt106 =>
        Option.bind (
          if 0 ≤ lw103 then
            if ¬ a2 = ((-1 : Int32)) then
              (tX10_builtIn lw103 a2 tt106).bind fun x114 =>
              some x114
            else
              some lw104
          else
            some ((-2 : Int32))) fun js110 =>
        some (js110, tt106)
      else
        some ((-2 : Int32), tt2)
set_option maxHeartbeats 4000000 in
set_option maxRecDepth 100000 in
theorem sX10_beds_L36 : ∀ (n : Nat) (v1 : Int32) (v2 : Int32) (v3 : Int32) (v4 : Int32) (h : am_H) (t : tS) (w3 : Int32), Rp h t → tX10_beds_L36 n v1 v2 v3 v4 t = some w3 → ex (fX10_beds_L36 n 218 v1 v2 v3 v4 h) (fun p => w3 = p) := by
  intro n
  induction n with
  | zero => intro _ _ _ _ _ _ _ _ H; cases H
  | succ n ih =>
    intro v1 v2 v3 v4 h t w3 hR_t H
    rw [tX10_beds_L36] at H
    rw [fX10_beds_L36]
    obtain ⟨x11, e10, H⟩ := am_bd H
    refine ex.j1 (sX10_houses hR_t  e10) (fun z12 hz => ?_)
    obtain rfl : x11 = z12 := hz
    by_cases c13 : x11 ≤ v4
    · rw [if_pos c13] at H
      refine ex.t c13 ?_
      obtain rfl := Option.some.inj H
      exact ex.nd rfl
    · rw [if_neg c13] at H
      refine ex.f c13 ?_
      exact ih _ _ _ _ _ _ _ hR_t  H
set_option maxHeartbeats 4000000 in
set_option maxRecDepth 100000 in
theorem sX10_beds_L83 : ∀ (n : Nat) (v1 : Int32) (v2 : Int32) (v3 : Int32) (v4 : Int32) (v5 : Int32) (v6 : Int32) (v7 : Int32) (v8 : Int32) (v9 : Int32) (h : am_H) (t : tS) (w7 : Int32) (w8 : Int32) (t1 : tS), Rp h t → tX10_beds_L83 n v1 v2 v3 v4 v5 v6 v7 v8 v9 t = some (w7, w8, t1) → ex (fX10_beds_L83 n 218 v1 v2 v3 v4 v5 v6 v7 v8 v9 h) (fun p => w7 = p.1 ∧ w8 = p.2.1 ∧ Rp p.2.2 t1) := by
  intro n
  induction n with
  | zero => intro _ _ _ _ _ _ _ _ _ _ _ _ _ _ _ H; cases H
  | succ n ih =>
    intro v1 v2 v3 v4 v5 v6 v7 v8 v9 h t w7 w8 t1 hR_t H
    rw [tX10_beds_L83] at H
    rw [fX10_beds_L83]
    obtain ⟨x22, e21, H⟩ := am_bd H
    refine ex.j1 (sX10_houses hR_t  e21) (fun z23 hz => ?_)
    obtain rfl : x22 = z23 := hz
    by_cases c24 : x22 ≤ v9
    · rw [if_pos c24] at H
      refine ex.t c24 ?_
      obtain ⟨rfl, rfl, rfl⟩ := am_inj3 H
      exact ex.nd ⟨rfl, rfl, hR_t⟩
    · rw [if_neg c24] at H
      refine ex.f c24 ?_
      obtain ⟨x26, e25, H⟩ := am_bd H
      refine ex.j1 (sX10_builtIn hR_t  e25) (fun z27 hz => ?_)
      obtain rfl : x26 = z27 := hz
      refine ex.bd (r_gR hR_t lk9 rfl) ?_
      obtain ⟨x29, e30, H⟩ := am_bd H
      refine ex.bd (r_aI hR_t (la9_24 (a := 218) (by decide)) e30) ?_
      obtain ⟨x32, e31, H⟩ := am_bd H
      refine ex.j1 (sX10_builtIn hR_t  e31) (fun z33 hz => ?_)
      obtain rfl : x32 = z33 := hz
      obtain ⟨tt35, e36, H⟩ := am_bd H
      obtain ⟨hh34, e37, hR_tt35⟩ := r_sI hR_t (la9_24 (a := 218) (by decide)) e36
      refine ex.bd e37 ?_
      obtain ⟨js38, E44, H⟩ := am_bd H
      refine ex.j1 (Q := fun p => js38 = p) ?_ (fun z45 hq => ?_)
      · clear H
        have H := E44
        clear E44
        by_cases c39 : v8 = 0
        · rw [if_pos c39] at H
          refine ex.t c39 ?_
          obtain rfl := Option.some.inj H
          exact ex.nd rfl
        · rw [if_neg c39] at H
          refine ex.f c39 ?_
          refine ex.bd (r_gR hR_tt35 lk9 rfl) ?_
          obtain ⟨x41, e42, H⟩ := am_bd H
          refine ex.bd (r_aI hR_tt35 (la9_24 (a := 218) (by decide)) e42) ?_
          by_cases c43 : ((9 : Int32)) < x41
          · rw [if_pos c43] at H
            refine ex.t c43 ?_
            obtain rfl := Option.some.inj H
            exact ex.nd rfl
          · rw [if_neg c43] at H
            refine ex.f c43 ?_
            obtain rfl := Option.some.inj H
            exact ex.nd rfl
      · clear E44
        obtain rfl : js38 = z45 := hq
        exact ih _ _ _ _ _ _ _ _ _ _ _ _ _ _ hR_tt35  H
set_option maxHeartbeats 4000000 in
set_option maxRecDepth 100000 in
theorem sX10_beds_L64 : ∀ (n : Nat) (v1 : Int32) (v2 : Int32) (v3 : Int32) (v4 : Int32) (v5 : Int32) (v6 : Int32) (h : am_H) (t : tS) (w4 : Int32) (w5 : Int32) (t1 : tS), Rp h t → tX10_beds_L64 n v1 v2 v3 v4 v5 v6 t = some (w4, w5, t1) → ex (fX10_beds_L64 n 218 v1 v2 v3 v4 v5 v6 h) (fun p => w4 = p.1 ∧ w5 = p.2.1 ∧ Rp p.2.2 t1) := by
  intro n
  induction n with
  | zero => intro _ _ _ _ _ _ _ _ _ _ _ _ H; cases H
  | succ n ih =>
    intro v1 v2 v3 v4 v5 v6 h t w4 w5 t1 hR_t H
    rw [tX10_beds_L64] at H
    rw [fX10_beds_L64]
    by_cases c17 : v3 ≤ v6
    · rw [if_pos c17] at H
      refine ex.t c17 ?_
      obtain ⟨rfl, rfl, rfl⟩ := am_inj3 H
      exact ex.nd ⟨rfl, rfl, hR_t⟩
    · rw [if_neg c17] at H
      refine ex.f c17 ?_
      obtain ⟨tt20, e18, H⟩ := am_bd H
      refine ex.j1 (sX10_triesNow hR_t  e18) (fun hh19 hR_tt20 => ?_)
      obtain ⟨lw46, lw47, tt49, E52, H⟩ := am_bd3 H
      refine ex.j3 (sX10_beds_L83 _ _ _ _ _ _ _ _ _ _ _ _ _ _ _ hR_tt20  E52) (fun z50 z51 hh48 hq => ?_)
      clear E52
      obtain ⟨rfl, rfl, hR_tt49⟩ : lw46 = z50 ∧ lw47 = z51 ∧ Rp hh48 tt49 := hq
      obtain ⟨js53, tt55, E79, H⟩ := am_bd2 H
      refine ex.j2 (Q := fun p => js53 = p.1 ∧ Rp p.2 tt55) ?_ (fun z80 hh54 hq => ?_)
      · clear H
        have H := E79
        clear E79
        by_cases c56 : lw47 = 0
        · rw [if_pos c56] at H
          refine ex.t c56 ?_
          obtain ⟨rfl, rfl⟩ := am_inj2 H
          exact ex.nd ⟨rfl, hR_tt49⟩
        · rw [if_neg c56] at H
          refine ex.f c56 ?_
          by_cases c57 : v4 < 0
          · rw [if_pos c57] at H
            refine ex.t c57 ?_
            obtain ⟨x59, tt61, e58, H⟩ := am_bd2 H
            refine ex.j2 (sX10_isCalm hR_tt49  e58) (fun z62 hh60 hz => ?_)
            obtain ⟨rfl, hR_tt61⟩ : x59 = z62 ∧ Rp hh60 tt61 := hz
            by_cases c63 : x59 = 0
            · rw [if_pos c63] at H
              refine ex.t c63 ?_
              obtain ⟨rfl, rfl⟩ := am_inj2 H
              exact ex.nd ⟨rfl, hR_tt61⟩
            · rw [if_neg c63] at H
              refine ex.f c63 ?_
              obtain ⟨rfl, rfl⟩ := am_inj2 H
              exact ex.nd ⟨rfl, hR_tt61⟩
          · rw [if_neg c57] at H
            refine ex.f c57 ?_
            by_cases c64 : v5 ≤ lw46
            · rw [if_pos c64] at H
              refine ex.t c64 ?_
              obtain ⟨rfl, rfl⟩ := am_inj2 H
              exact ex.nd ⟨rfl, hR_tt49⟩
            · rw [if_neg c64] at H
              refine ex.f c64 ?_
              obtain ⟨x66, tt68, e65, H⟩ := am_bd2 H
              refine ex.j2 (sX10_isCalm hR_tt49  e65) (fun z69 hh67 hz => ?_)
              obtain ⟨rfl, hR_tt68⟩ : x66 = z69 ∧ Rp hh67 tt68 := hz
              by_cases c70 : x66 = 0
              · rw [if_pos c70] at H
                refine ex.t c70 ?_
                obtain ⟨rfl, rfl⟩ := am_inj2 H
                exact ex.nd ⟨rfl, hR_tt68⟩
              · rw [if_neg c70] at H
                refine ex.f c70 ?_
                obtain ⟨rfl, rfl⟩ := am_inj2 H
                exact ex.nd ⟨rfl, hR_tt68⟩
      · clear E79
        obtain ⟨rfl, hR_tt55⟩ : js53 = z80 ∧ Rp hh54 tt55 := hq
        obtain ⟨js71, E77, H⟩ := am_bd H
        refine ex.j1 (Q := fun p => js71 = p) ?_ (fun z78 hq => ?_)
        · clear H
          have H := E77
          clear E77
          by_cases c72 : js53 = 0
          · rw [if_pos c72] at H
            refine ex.t c72 ?_
            obtain rfl := Option.some.inj H
            exact ex.nd rfl
          · rw [if_neg c72] at H
            refine ex.f c72 ?_
            obtain rfl := Option.some.inj H
            exact ex.nd rfl
        · clear E77
          obtain rfl : js71 = z78 := hq
          obtain ⟨js73, E75, H⟩ := am_bd H
          refine ex.j1 (Q := fun p => js73 = p) ?_ (fun z76 hq => ?_)
          · clear H
            have H := E75
            clear E75
            by_cases c74 : js53 = 0
            · rw [if_pos c74] at H
              refine ex.t c74 ?_
              obtain rfl := Option.some.inj H
              exact ex.nd rfl
            · rw [if_neg c74] at H
              refine ex.f c74 ?_
              obtain rfl := Option.some.inj H
              exact ex.nd rfl
          · clear E75
            obtain rfl : js73 = z76 := hq
            exact ih _ _ _ _ _ _ _ _ _ _ _ hR_tt55  H
set_option maxHeartbeats 4000000 in
set_option maxRecDepth 100000 in
theorem sX10_beds {a1 : Int32} {a2 : Int32} {h : am_H} {t : tS} {r : Int32} {t1 : tS} (hR_t : Rp h t)  (H : tX10_beds a1 a2 t = some (r, t1)) : ex (fX10_beds 218 a1 a2 h) (fun p => r = p.1 ∧ Rp p.2 t1) := by
  unfold tX10_beds at H
  unfold fX10_beds
  refine ex.bd (r_isO hR_t lk9) ?_
  obtain ⟨tt2, et3, H⟩ := am_bd H
  obtain ⟨hh1, e4, hR_tt2⟩ := r_pI (k := 0) (x := (0 : Int32)) hR_t lk9 rfl rfl
  rw [Option.some.inj et3] at hR_tt2
  refine ex.bd e4 ?_
  obtain ⟨x6, e5, H⟩ := am_bd H
  refine ex.j1 (sX10_within hR_tt2  e5) (fun z7 hz => ?_)
  obtain rfl : x6 = z7 := hz
  by_cases c8 : x6 = 0
  · rw [if_pos c8] at H
    refine ex.t c8 ?_
    obtain ⟨rfl, rfl⟩ := am_inj2 H
    exact ex.nd ⟨rfl, hR_tt2⟩
  · rw [if_neg c8] at H
    refine ex.f c8 ?_
    by_cases c9 : a2 = ((-1 : Int32))
    · rw [if_pos c9] at H
      refine ex.t c9 ?_
      obtain ⟨lw14, E16, H⟩ := am_bd H
      refine ex.j1 (sX10_beds_L36 _ _ _ _ _ _ _ _ hR_tt2  E16) (fun z15 hq => ?_)
      clear E16
      obtain rfl : lw14 = z15 := hq
      obtain ⟨lw81, lw82, tt84, E87, H⟩ := am_bd3 H
      refine ex.j3 (sX10_beds_L64 _ _ _ _ _ _ _ _ _ _ _ _ hR_tt2  E87) (fun z85 z86 hh83 hq => ?_)
      clear E87
      obtain ⟨rfl, rfl, hR_tt84⟩ : lw81 = z85 ∧ lw82 = z86 ∧ Rp hh83 tt84 := hq
      obtain ⟨js88, E94, H⟩ := am_bd H
      refine ex.j1 (Q := fun p => js88 = p) ?_ (fun z95 hq => ?_)
      · clear H
        have H := E94
        clear E94
        by_cases c89 : 0 ≤ lw81
        · rw [if_pos c89] at H
          refine ex.t c89 ?_
          by_cases c90 : ¬ a2 = ((-1 : Int32))
          · rw [if_pos c90] at H
            refine ex.t c90 ?_
            obtain ⟨x92, e91, H⟩ := am_bd H
            refine ex.j1 (sX10_builtIn hR_tt84  e91) (fun z93 hz => ?_)
            obtain rfl : x92 = z93 := hz
            obtain rfl := Option.some.inj H
            exact ex.nd rfl
          · rw [if_neg c90] at H
            refine ex.f c90 ?_
            obtain rfl := Option.some.inj H
            exact ex.nd rfl
        · rw [if_neg c89] at H
          refine ex.f c89 ?_
          obtain rfl := Option.some.inj H
          exact ex.nd rfl
      · clear E94
        obtain rfl : js88 = z95 := hq
        obtain ⟨rfl, rfl⟩ := am_inj2 H
        exact ex.nd ⟨rfl, hR_tt84⟩
    · rw [if_neg c9] at H
      refine ex.f c9 ?_
      obtain ⟨x97, e96, H⟩ := am_bd H
      refine ex.j1 (sX10_isHouse hR_tt2  e96) (fun z98 hz => ?_)
      obtain rfl : x97 = z98 := hz
      by_cases c99 : ¬ x97 = 0
      · rw [if_pos c99] at H
        refine ex.t c99 ?_
        obtain ⟨lw100, E102, H⟩ := am_bd H
        refine ex.j1 (sX10_beds_L36 _ _ _ _ _ _ _ _ hR_tt2  E102) (fun z101 hq => ?_)
        clear E102
        obtain rfl : lw100 = z101 := hq
        obtain ⟨lw103, lw104, tt106, E109, H⟩ := am_bd3 H
        refine ex.j3 (sX10_beds_L64 _ _ _ _ _ _ _ _ _ _ _ _ hR_tt2  E109) (fun z107 z108 hh105 hq => ?_)
        clear E109
        obtain ⟨rfl, rfl, hR_tt106⟩ : lw103 = z107 ∧ lw104 = z108 ∧ Rp hh105 tt106 := hq
        obtain ⟨js110, E116, H⟩ := am_bd H
        refine ex.j1 (Q := fun p => js110 = p) ?_ (fun z117 hq => ?_)
        · clear H
          have H := E116
          clear E116
          by_cases c111 : 0 ≤ lw103
          · rw [if_pos c111] at H
            refine ex.t c111 ?_
            by_cases c112 : ¬ a2 = ((-1 : Int32))
            · rw [if_pos c112] at H
              refine ex.t c112 ?_
              obtain ⟨x114, e113, H⟩ := am_bd H
              refine ex.j1 (sX10_builtIn hR_tt106  e113) (fun z115 hz => ?_)
              obtain rfl : x114 = z115 := hz
              obtain rfl := Option.some.inj H
              exact ex.nd rfl
            · rw [if_neg c112] at H
              refine ex.f c112 ?_
              obtain rfl := Option.some.inj H
              exact ex.nd rfl
          · rw [if_neg c111] at H
            refine ex.f c111 ?_
            obtain rfl := Option.some.inj H
            exact ex.nd rfl
        · clear E116
          obtain rfl : js110 = z117 := hq
          obtain ⟨rfl, rfl⟩ := am_inj2 H
          exact ex.nd ⟨rfl, hR_tt106⟩
      · rw [if_neg c99] at H
        refine ex.f c99 ?_
        obtain ⟨rfl, rfl⟩ := am_inj2 H
        exact ex.nd ⟨rfl, hR_tt2⟩
def tX10_defer_L45 : Nat → Int32 → Int32 → Int32 → Int32 → Int32 → Int32 → tS → Option (Int32 × tS)
  | 0, _, _, _, _, _, _, _ => none
  | n + 1, v1, v2, v3, v4, v5, v6, t =>
    if ((24 : Int32)) ≤ v6 then
      some (v5, t)
    else
      (tX10_passes ((987 : Int32)) t).bind fun tt21 =>
      (tX10_somewhere ((987 : Int32)) tt21).bind fun x23 =>
      (tX10_bits x23 tt21).bind fun x26 =>
      Option.bind (
        if x26 ≤ v5 then
          some v5
        else
          (tX10_somewhere ((987 : Int32)) tt21).bind fun x31 =>
          (tX10_bits x31 tt21).bind fun x34 =>
          some x34) fun js28 =>
      tX10_defer_L45 n v1 v2 v3 v4 js28 (v6 + (1 : Int32)) tt21
def tX10_defer_L12 : Nat → Int32 → Int32 → Int32 → Int32 → tS → Option (Int32 × tS)
  | 0, _, _, _, _, _ => none
  | n + 1, v1, v2, v3, v4, t =>
    if ((12 : Int32)) ≤ v4 then
      some (v2, t)
    else
      (tX10_isDay v1 t).bind fun x7 =>
      if x7 = 0 then
        some (v2, t)
      else
        (tWA t 0 236 6 v1 v4).bind fun tt12 =>
        (tX10_triesNow  tt12).bind fun tt17 =>
        am_b2 (tX10_defer_L45 4000 v1 v2 v3 v4 ((0 : Int32)) ((0 : Int32)) tt17) fun lw38 tt40 =>
        Option.bind (
          if v2 < 0 then
            some ((1 : Int32))
          else
            if v3 ≤ lw38 then
              some ((0 : Int32))
            else
              some ((1 : Int32))) fun js43 =>
        Option.bind (
          if js43 = 0 then
            some v2
          else
            some v4) fun js46 =>
        Option.bind (
          if js43 = 0 then
            some v3
          else
            some lw38) fun js48 =>
        tX10_defer_L12 n v1 js46 js48 (v4 + (1 : Int32)) tt40
def tX10_defer (a1 : Int32) (t : tS) : Option (Int32 × tS) :=
  (some (uI t 218 0 ((0 : Int32)))).bind fun tt2 =>
  am_b2 (tX10_defer_L12 4000 a1 ((-1 : Int32)) ((0 : Int32)) ((0 : Int32)) tt2) fun lw56 tt58 =>
  (tX10_datesAsTold  tt58).bind fun tt63 =>
  some (lw56, tt63)
set_option maxHeartbeats 4000000 in
set_option maxRecDepth 100000 in
theorem sX10_defer_L45 : ∀ (n : Nat) (v1 : Int32) (v2 : Int32) (v3 : Int32) (v4 : Int32) (v5 : Int32) (v6 : Int32) (h : am_H) (t : tS) (w5 : Int32) (t1 : tS), Rp h t → tX10_defer_L45 n v1 v2 v3 v4 v5 v6 t = some (w5, t1) → ex (fX10_defer_L45 n 218 v1 v2 v3 v4 v5 v6 h) (fun p => w5 = p.1 ∧ Rp p.2 t1) := by
  intro n
  induction n with
  | zero => intro _ _ _ _ _ _ _ _ _ _ _ H; cases H
  | succ n ih =>
    intro v1 v2 v3 v4 v5 v6 h t w5 t1 hR_t H
    rw [tX10_defer_L45] at H
    rw [fX10_defer_L45]
    by_cases c18 : ((24 : Int32)) ≤ v6
    · rw [if_pos c18] at H
      refine ex.t c18 ?_
      obtain ⟨rfl, rfl⟩ := am_inj2 H
      exact ex.nd ⟨rfl, hR_t⟩
    · rw [if_neg c18] at H
      refine ex.f c18 ?_
      obtain ⟨tt21, e19, H⟩ := am_bd H
      refine ex.j1 (sX10_passes hR_t  e19) (fun hh20 hR_tt21 => ?_)
      obtain ⟨x23, e22, H⟩ := am_bd H
      refine ex.j1 (sX10_somewhere hR_tt21  e22) (fun z24 hz => ?_)
      obtain rfl : x23 = z24 := hz
      obtain ⟨x26, e25, H⟩ := am_bd H
      refine ex.j1 (sX10_bits hR_tt21  e25) (fun z27 hz => ?_)
      obtain rfl : x26 = z27 := hz
      obtain ⟨js28, E36, H⟩ := am_bd H
      refine ex.j1 (Q := fun p => js28 = p) ?_ (fun z37 hq => ?_)
      · clear H
        have H := E36
        clear E36
        by_cases c29 : x26 ≤ v5
        · rw [if_pos c29] at H
          refine ex.t c29 ?_
          obtain rfl := Option.some.inj H
          exact ex.nd rfl
        · rw [if_neg c29] at H
          refine ex.f c29 ?_
          obtain ⟨x31, e30, H⟩ := am_bd H
          refine ex.j1 (sX10_somewhere hR_tt21  e30) (fun z32 hz => ?_)
          obtain rfl : x31 = z32 := hz
          obtain ⟨x34, e33, H⟩ := am_bd H
          refine ex.j1 (sX10_bits hR_tt21  e33) (fun z35 hz => ?_)
          obtain rfl : x34 = z35 := hz
          obtain rfl := Option.some.inj H
          exact ex.nd rfl
      · clear E36
        obtain rfl : js28 = z37 := hq
        exact ih _ _ _ _ _ _ _ _ _ _ hR_tt21  H
set_option maxHeartbeats 4000000 in
set_option maxRecDepth 100000 in
theorem sX10_defer_L12 : ∀ (n : Nat) (v1 : Int32) (v2 : Int32) (v3 : Int32) (v4 : Int32) (h : am_H) (t : tS) (w2 : Int32) (t1 : tS), Rp h t → tX10_defer_L12 n v1 v2 v3 v4 t = some (w2, t1) → ex (fX10_defer_L12 n 218 v1 v2 v3 v4 h) (fun p => w2 = p.1 ∧ Rp p.2 t1) := by
  intro n
  induction n with
  | zero => intro _ _ _ _ _ _ _ _ _ H; cases H
  | succ n ih =>
    intro v1 v2 v3 v4 h t w2 t1 hR_t H
    rw [tX10_defer_L12] at H
    rw [fX10_defer_L12]
    by_cases c5 : ((12 : Int32)) ≤ v4
    · rw [if_pos c5] at H
      refine ex.t c5 ?_
      obtain ⟨rfl, rfl⟩ := am_inj2 H
      exact ex.nd ⟨rfl, hR_t⟩
    · rw [if_neg c5] at H
      refine ex.f c5 ?_
      obtain ⟨x7, e6, H⟩ := am_bd H
      refine ex.j1 (sX10_isDay hR_t  e6) (fun z8 hz => ?_)
      obtain rfl : x7 = z8 := hz
      by_cases c9 : x7 = 0
      · rw [if_pos c9] at H
        refine ex.t c9 ?_
        obtain ⟨rfl, rfl⟩ := am_inj2 H
        exact ex.nd ⟨rfl, hR_t⟩
      · rw [if_neg c9] at H
        refine ex.f c9 ?_
        refine ex.bd (r_gR hR_t lk9 rfl) ?_
        obtain ⟨tt12, e13, H⟩ := am_bd H
        obtain ⟨hh11, e14, hR_tt12⟩ := r_sI hR_t (la9_27 (a := 218) (by decide)) e13
        refine ex.bd e14 ?_
        obtain ⟨tt17, e15, H⟩ := am_bd H
        refine ex.j1 (sX10_triesNow hR_tt12  e15) (fun hh16 hR_tt17 => ?_)
        obtain ⟨lw38, tt40, E42, H⟩ := am_bd2 H
        refine ex.j2 (sX10_defer_L45 _ _ _ _ _ _ _ _ _ _ _ hR_tt17  E42) (fun z41 hh39 hq => ?_)
        clear E42
        obtain ⟨rfl, hR_tt40⟩ : lw38 = z41 ∧ Rp hh39 tt40 := hq
        obtain ⟨js43, E54, H⟩ := am_bd H
        refine ex.j1 (Q := fun p => js43 = p) ?_ (fun z55 hq => ?_)
        · clear H
          have H := E54
          clear E54
          by_cases c44 : v2 < 0
          · rw [if_pos c44] at H
            refine ex.t c44 ?_
            obtain rfl := Option.some.inj H
            exact ex.nd rfl
          · rw [if_neg c44] at H
            refine ex.f c44 ?_
            by_cases c45 : v3 ≤ lw38
            · rw [if_pos c45] at H
              refine ex.t c45 ?_
              obtain rfl := Option.some.inj H
              exact ex.nd rfl
            · rw [if_neg c45] at H
              refine ex.f c45 ?_
              obtain rfl := Option.some.inj H
              exact ex.nd rfl
        · clear E54
          obtain rfl : js43 = z55 := hq
          obtain ⟨js46, E52, H⟩ := am_bd H
          refine ex.j1 (Q := fun p => js46 = p) ?_ (fun z53 hq => ?_)
          · clear H
            have H := E52
            clear E52
            by_cases c47 : js43 = 0
            · rw [if_pos c47] at H
              refine ex.t c47 ?_
              obtain rfl := Option.some.inj H
              exact ex.nd rfl
            · rw [if_neg c47] at H
              refine ex.f c47 ?_
              obtain rfl := Option.some.inj H
              exact ex.nd rfl
          · clear E52
            obtain rfl : js46 = z53 := hq
            obtain ⟨js48, E50, H⟩ := am_bd H
            refine ex.j1 (Q := fun p => js48 = p) ?_ (fun z51 hq => ?_)
            · clear H
              have H := E50
              clear E50
              by_cases c49 : js43 = 0
              · rw [if_pos c49] at H
                refine ex.t c49 ?_
                obtain rfl := Option.some.inj H
                exact ex.nd rfl
              · rw [if_neg c49] at H
                refine ex.f c49 ?_
                obtain rfl := Option.some.inj H
                exact ex.nd rfl
            · clear E50
              obtain rfl : js48 = z51 := hq
              exact ih _ _ _ _ _ _ _ _ hR_tt40  H
set_option maxHeartbeats 4000000 in
set_option maxRecDepth 100000 in
theorem sX10_defer {a1 : Int32} {h : am_H} {t : tS} {r : Int32} {t1 : tS} (hR_t : Rp h t)  (H : tX10_defer a1 t = some (r, t1)) : ex (fX10_defer 218 a1 h) (fun p => r = p.1 ∧ Rp p.2 t1) := by
  unfold tX10_defer at H
  unfold fX10_defer
  refine ex.bd (r_isO hR_t lk9) ?_
  obtain ⟨tt2, et3, H⟩ := am_bd H
  obtain ⟨hh1, e4, hR_tt2⟩ := r_pI (k := 0) (x := (0 : Int32)) hR_t lk9 rfl rfl
  rw [Option.some.inj et3] at hR_tt2
  refine ex.bd e4 ?_
  obtain ⟨lw56, tt58, E60, H⟩ := am_bd2 H
  refine ex.j2 (sX10_defer_L12 _ _ _ _ _ _ _ _ _ hR_tt2  E60) (fun z59 hh57 hq => ?_)
  clear E60
  obtain ⟨rfl, hR_tt58⟩ : lw56 = z59 ∧ Rp hh57 tt58 := hq
  obtain ⟨tt63, e61, H⟩ := am_bd H
  refine ex.j1 (sX10_datesAsTold hR_tt58  e61) (fun hh62 hR_tt63 => ?_)
  obtain ⟨rfl, rfl⟩ := am_inj2 H
  exact ex.nd ⟨rfl, hR_tt63⟩
def tX10_spare_L9 : Nat → Int32 → Int32 → tS → Option (Int32 × tS)
  | 0, _, _, _ => none
  | n + 1, v1, v2, t =>
    (tX10_houses  t).bind fun x6 =>
    if x6 ≤ v2 then
      some (v1, t)
    else
      (tX10_triesNow  t).bind fun tt11 =>
      (tA tt11 234 1081 (((989 : Int32)) + v2)).bind fun x13 =>
      (tWA tt11 0 234 1081 (((989 : Int32)) + v2) (x13 - ((1 : Int32)))).bind fun tt16 =>
      (tA tt16 234 1081 (((2 : Int32)) + v2)).bind fun x20 =>
      am_b2 (
        if x20 ≤ ((1 : Int32)) then
          some ((0 : Int32), tt16)
        else
          am_b2 (tX10_isCalm ((24 : Int32)) tt16) fun x27 tt29 =>
          if x27 = 0 then
            some ((0 : Int32), tt29)
          else
            some (((1 : Int32)) <<< (v2 &&& 31), tt29)) fun js22 tt24 =>
      tX10_spare_L9 n (v1 ||| js22) (v2 + (1 : Int32)) tt24
def tX10_spare  (t : tS) : Option (Int32 × tS) :=
  (some (uI t 218 0 ((0 : Int32)))).bind fun tt2 =>
  am_b2 (tX10_spare_L9 4000 ((0 : Int32)) ((0 : Int32)) tt2) fun lw34 tt36 =>
  some (lw34, tt36)
set_option maxHeartbeats 4000000 in
set_option maxRecDepth 100000 in
theorem sX10_spare_L9 : ∀ (n : Nat) (v1 : Int32) (v2 : Int32) (h : am_H) (t : tS) (w1 : Int32) (t1 : tS), Rp h t → tX10_spare_L9 n v1 v2 t = some (w1, t1) → ex (fX10_spare_L9 n 218 v1 v2 h) (fun p => w1 = p.1 ∧ Rp p.2 t1) := by
  intro n
  induction n with
  | zero => intro _ _ _ _ _ _ _ H; cases H
  | succ n ih =>
    intro v1 v2 h t w1 t1 hR_t H
    rw [tX10_spare_L9] at H
    rw [fX10_spare_L9]
    obtain ⟨x6, e5, H⟩ := am_bd H
    refine ex.j1 (sX10_houses hR_t  e5) (fun z7 hz => ?_)
    obtain rfl : x6 = z7 := hz
    by_cases c8 : x6 ≤ v2
    · rw [if_pos c8] at H
      refine ex.t c8 ?_
      obtain ⟨rfl, rfl⟩ := am_inj2 H
      exact ex.nd ⟨rfl, hR_t⟩
    · rw [if_neg c8] at H
      refine ex.f c8 ?_
      obtain ⟨tt11, e9, H⟩ := am_bd H
      refine ex.j1 (sX10_triesNow hR_t  e9) (fun hh10 hR_tt11 => ?_)
      refine ex.bd (r_gR hR_tt11 lk9 rfl) ?_
      obtain ⟨x13, e14, H⟩ := am_bd H
      refine ex.bd (r_aI hR_tt11 (la9_24 (a := 218) (by decide)) e14) ?_
      obtain ⟨tt16, e17, H⟩ := am_bd H
      obtain ⟨hh15, e18, hR_tt16⟩ := r_sI hR_tt11 (la9_24 (a := 218) (by decide)) e17
      refine ex.bd e18 ?_
      refine ex.bd (r_gR hR_tt16 lk9 rfl) ?_
      obtain ⟨x20, e21, H⟩ := am_bd H
      refine ex.bd (r_aI hR_tt16 (la9_24 (a := 218) (by decide)) e21) ?_
      obtain ⟨js22, tt24, E32, H⟩ := am_bd2 H
      refine ex.j2 (Q := fun p => js22 = p.1 ∧ Rp p.2 tt24) ?_ (fun z33 hh23 hq => ?_)
      · clear H
        have H := E32
        clear E32
        by_cases c25 : x20 ≤ ((1 : Int32))
        · rw [if_pos c25] at H
          refine ex.t c25 ?_
          obtain ⟨rfl, rfl⟩ := am_inj2 H
          exact ex.nd ⟨rfl, hR_tt16⟩
        · rw [if_neg c25] at H
          refine ex.f c25 ?_
          obtain ⟨x27, tt29, e26, H⟩ := am_bd2 H
          refine ex.j2 (sX10_isCalm hR_tt16  e26) (fun z30 hh28 hz => ?_)
          obtain ⟨rfl, hR_tt29⟩ : x27 = z30 ∧ Rp hh28 tt29 := hz
          by_cases c31 : x27 = 0
          · rw [if_pos c31] at H
            refine ex.t c31 ?_
            obtain ⟨rfl, rfl⟩ := am_inj2 H
            exact ex.nd ⟨rfl, hR_tt29⟩
          · rw [if_neg c31] at H
            refine ex.f c31 ?_
            obtain ⟨rfl, rfl⟩ := am_inj2 H
            exact ex.nd ⟨rfl, hR_tt29⟩
      · clear E32
        obtain ⟨rfl, hR_tt24⟩ : js22 = z33 ∧ Rp hh23 tt24 := hq
        exact ih _ _ _ _ _ _ hR_tt24  H
set_option maxHeartbeats 4000000 in
set_option maxRecDepth 100000 in
theorem sX10_spare  {h : am_H} {t : tS} {r : Int32} {t1 : tS} (hR_t : Rp h t)  (H : tX10_spare  t = some (r, t1)) : ex (fX10_spare 218 h) (fun p => r = p.1 ∧ Rp p.2 t1) := by
  unfold tX10_spare at H
  unfold fX10_spare
  refine ex.bd (r_isO hR_t lk9) ?_
  obtain ⟨tt2, et3, H⟩ := am_bd H
  obtain ⟨hh1, e4, hR_tt2⟩ := r_pI (k := 0) (x := (0 : Int32)) hR_t lk9 rfl rfl
  rw [Option.some.inj et3] at hR_tt2
  refine ex.bd e4 ?_
  obtain ⟨lw34, tt36, E38, H⟩ := am_bd2 H
  refine ex.j2 (sX10_spare_L9 _ _ _ _ _ _ _ hR_tt2  E38) (fun z37 hh35 hq => ?_)
  clear E38
  obtain ⟨rfl, hR_tt36⟩ : lw34 = z37 ∧ Rp hh35 tt36 := hq
  obtain ⟨rfl, rfl⟩ := am_inj2 H
  exact ex.nd ⟨rfl, hR_tt36⟩
def tX10_see (a1 : Int32) (a2 : Int32) (t : tS) : Option (Int32 × tS) :=
  (some (uI t 218 0 ((0 : Int32)))).bind fun tt2 =>
  if a1 = ((-1 : Int32)) then
    (tX10_within a2 ((0 : Int32)) ((24 : Int32)) tt2).bind fun x7 =>
    if x7 = 0 then
      some ((0 : Int32), tt2)
    else
      (tA tt2 234 1081 ((30 : Int32))).bind fun x11 =>
      if ¬ x11 = ((8 : Int32)) then
        (tA tt2 234 1081 ((30 : Int32))).bind fun x15 =>
        (tWA tt2 0 234 1081 (((31 : Int32)) + (((2 : Int32)) * x15)) a1).bind fun tt19 =>
        (tWA tt19 0 234 1081 ((((31 : Int32)) + (((2 : Int32)) * x15)) + ((1 : Int32))) a2).bind fun tt24 =>
        (tA tt24 234 1081 ((30 : Int32))).bind fun x28 =>
        (tWA tt24 0 234 1081 ((30 : Int32)) (x28 + ((1 : Int32)))).bind fun tt31 =>
        some ((1 : Int32), tt31)
      else
        some ((0 : Int32), tt2)
  else
    (tX10_isHouse a1 tt2).bind fun x35 =>
    if x35 = 0 then
      some ((0 : Int32), tt2)
    else
      (tX10_within a2 ((0 : Int32)) ((24 : Int32)) tt2).bind fun x39 =>
      if x39 = 0 then
        some ((0 : Int32), tt2)
      else
        (tA tt2 234 1081 ((30 : Int32))).bind fun x43 =>
        if ¬ x43 = ((8 : Int32)) then
          (tA tt2 234 1081 ((30 : Int32))).bind fun x47 =>
          (tWA tt2 0 234 1081 (((31 : Int32)) + (((2 : Int32)) * x47)) a1).bind fun tt51 =>
          (tWA tt51 0 234 1081 ((((31 : Int32)) + (((2 : Int32)) * x47)) + ((1 : Int32))) a2).bind fun tt56 =>
          (tA tt56 234 1081 ((30 : Int32))).bind fun x60 =>
          (tWA tt56 0 234 1081 ((30 : Int32)) (x60 + ((1 : Int32)))).bind fun tt63 =>
          some ((1 : Int32), tt63)
        else
          some ((0 : Int32), tt2)
set_option maxHeartbeats 4000000 in
set_option maxRecDepth 100000 in
theorem sX10_see {a1 : Int32} {a2 : Int32} {h : am_H} {t : tS} {r : Int32} {t1 : tS} (hR_t : Rp h t)  (H : tX10_see a1 a2 t = some (r, t1)) : ex (fX10_see 218 a1 a2 h) (fun p => r = p.1 ∧ Rp p.2 t1) := by
  unfold tX10_see at H
  unfold fX10_see
  refine ex.bd (r_isO hR_t lk9) ?_
  obtain ⟨tt2, et3, H⟩ := am_bd H
  obtain ⟨hh1, e4, hR_tt2⟩ := r_pI (k := 0) (x := (0 : Int32)) hR_t lk9 rfl rfl
  rw [Option.some.inj et3] at hR_tt2
  refine ex.bd e4 ?_
  by_cases c5 : a1 = ((-1 : Int32))
  · rw [if_pos c5] at H
    refine ex.t c5 ?_
    obtain ⟨x7, e6, H⟩ := am_bd H
    refine ex.j1 (sX10_within hR_tt2  e6) (fun z8 hz => ?_)
    obtain rfl : x7 = z8 := hz
    by_cases c9 : x7 = 0
    · rw [if_pos c9] at H
      refine ex.t c9 ?_
      obtain ⟨rfl, rfl⟩ := am_inj2 H
      exact ex.nd ⟨rfl, hR_tt2⟩
    · rw [if_neg c9] at H
      refine ex.f c9 ?_
      refine ex.bd (r_gR hR_tt2 lk9 rfl) ?_
      obtain ⟨x11, e12, H⟩ := am_bd H
      refine ex.bd (r_aI hR_tt2 (la9_24 (a := 218) (by decide)) e12) ?_
      by_cases c13 : ¬ x11 = ((8 : Int32))
      · rw [if_pos c13] at H
        refine ex.t c13 ?_
        refine ex.bd (r_gR hR_tt2 lk9 rfl) ?_
        obtain ⟨x15, e16, H⟩ := am_bd H
        refine ex.bd (r_aI hR_tt2 (la9_24 (a := 218) (by decide)) e16) ?_
        refine ex.bd (r_gR hR_tt2 lk9 rfl) ?_
        obtain ⟨tt19, e20, H⟩ := am_bd H
        obtain ⟨hh18, e21, hR_tt19⟩ := r_sI hR_tt2 (la9_24 (a := 218) (by decide)) e20
        refine ex.bd e21 ?_
        refine ex.bd (r_gR hR_tt19 lk9 rfl) ?_
        obtain ⟨tt24, e25, H⟩ := am_bd H
        obtain ⟨hh23, e26, hR_tt24⟩ := r_sI hR_tt19 (la9_24 (a := 218) (by decide)) e25
        refine ex.bd e26 ?_
        refine ex.bd (r_gR hR_tt24 lk9 rfl) ?_
        obtain ⟨x28, e29, H⟩ := am_bd H
        refine ex.bd (r_aI hR_tt24 (la9_24 (a := 218) (by decide)) e29) ?_
        obtain ⟨tt31, e32, H⟩ := am_bd H
        obtain ⟨hh30, e33, hR_tt31⟩ := r_sI hR_tt24 (la9_24 (a := 218) (by decide)) e32
        refine ex.bd e33 ?_
        obtain ⟨rfl, rfl⟩ := am_inj2 H
        exact ex.nd ⟨rfl, hR_tt31⟩
      · rw [if_neg c13] at H
        refine ex.f c13 ?_
        obtain ⟨rfl, rfl⟩ := am_inj2 H
        exact ex.nd ⟨rfl, hR_tt2⟩
  · rw [if_neg c5] at H
    refine ex.f c5 ?_
    obtain ⟨x35, e34, H⟩ := am_bd H
    refine ex.j1 (sX10_isHouse hR_tt2  e34) (fun z36 hz => ?_)
    obtain rfl : x35 = z36 := hz
    by_cases c37 : x35 = 0
    · rw [if_pos c37] at H
      refine ex.t c37 ?_
      obtain ⟨rfl, rfl⟩ := am_inj2 H
      exact ex.nd ⟨rfl, hR_tt2⟩
    · rw [if_neg c37] at H
      refine ex.f c37 ?_
      obtain ⟨x39, e38, H⟩ := am_bd H
      refine ex.j1 (sX10_within hR_tt2  e38) (fun z40 hz => ?_)
      obtain rfl : x39 = z40 := hz
      by_cases c41 : x39 = 0
      · rw [if_pos c41] at H
        refine ex.t c41 ?_
        obtain ⟨rfl, rfl⟩ := am_inj2 H
        exact ex.nd ⟨rfl, hR_tt2⟩
      · rw [if_neg c41] at H
        refine ex.f c41 ?_
        refine ex.bd (r_gR hR_tt2 lk9 rfl) ?_
        obtain ⟨x43, e44, H⟩ := am_bd H
        refine ex.bd (r_aI hR_tt2 (la9_24 (a := 218) (by decide)) e44) ?_
        by_cases c45 : ¬ x43 = ((8 : Int32))
        · rw [if_pos c45] at H
          refine ex.t c45 ?_
          refine ex.bd (r_gR hR_tt2 lk9 rfl) ?_
          obtain ⟨x47, e48, H⟩ := am_bd H
          refine ex.bd (r_aI hR_tt2 (la9_24 (a := 218) (by decide)) e48) ?_
          refine ex.bd (r_gR hR_tt2 lk9 rfl) ?_
          obtain ⟨tt51, e52, H⟩ := am_bd H
          obtain ⟨hh50, e53, hR_tt51⟩ := r_sI hR_tt2 (la9_24 (a := 218) (by decide)) e52
          refine ex.bd e53 ?_
          refine ex.bd (r_gR hR_tt51 lk9 rfl) ?_
          obtain ⟨tt56, e57, H⟩ := am_bd H
          obtain ⟨hh55, e58, hR_tt56⟩ := r_sI hR_tt51 (la9_24 (a := 218) (by decide)) e57
          refine ex.bd e58 ?_
          refine ex.bd (r_gR hR_tt56 lk9 rfl) ?_
          obtain ⟨x60, e61, H⟩ := am_bd H
          refine ex.bd (r_aI hR_tt56 (la9_24 (a := 218) (by decide)) e61) ?_
          obtain ⟨tt63, e64, H⟩ := am_bd H
          obtain ⟨hh62, e65, hR_tt63⟩ := r_sI hR_tt56 (la9_24 (a := 218) (by decide)) e64
          refine ex.bd e65 ?_
          obtain ⟨rfl, rfl⟩ := am_inj2 H
          exact ex.nd ⟨rfl, hR_tt63⟩
        · rw [if_neg c45] at H
          refine ex.f c45 ?_
          obtain ⟨rfl, rfl⟩ := am_inj2 H
          exact ex.nd ⟨rfl, hR_tt2⟩
def tX10_whoNow_L45 : Nat → Int32 → Int32 → Int32 → Int32 → Int32 → tS → Option (Int32)
  | 0, _, _, _, _, _, _ => none
  | n + 1, v1, v2, v3, v4, v5, t =>
    (tX10_days  t).bind fun x13 =>
    if x13 ≤ v5 then
      some v1
    else
      (tA t 234 1081 (v4 + ((1 : Int32)))).bind fun x17 =>
      Option.bind (
        if ¬ x17 = v2 then
          some ((-1 : Int32))
        else
          (tA t 234 1081 (((993 : Int32)) + v5)).bind fun x22 =>
          (tA t 234 1081 v4).bind fun x25 =>
          if x22 = x25 then
            some ((-1 : Int32))
          else
            some ((((1 : Int32)) <<< (v5 &&& 31)) ^^^ ((-1 : Int32)))) fun js19 =>
      tX10_whoNow_L45 n (v1 &&& js19) v2 v3 v4 (v5 + (1 : Int32)) t
def tX10_whoNow_L23 : Nat → Int32 → Int32 → Int32 → tS → Option (Int32)
  | 0, _, _, _, _ => none
  | n + 1, v1, v2, v3, t =>
    (tA t 234 1081 ((30 : Int32))).bind fun x9 =>
    if x9 ≤ v3 then
      some v1
    else
      Option.bind (tX10_whoNow_L45 4000 v1 v2 v3 (((31 : Int32)) + (((2 : Int32)) * v3)) ((0 : Int32)) t) fun lw30 =>
      tX10_whoNow_L23 n lw30 v2 (v3 + (1 : Int32)) t
def tX10_whoNow_L15 : Nat → Int32 → Int32 → tS → Option (Int32 × tS)
  | 0, _, _, _ => none
  | n + 1, v1, v2, t =>
    if ((24 : Int32)) < v2 then
      some (v1, t)
    else
      Option.bind (tX10_whoNow_L23 4000 v1 v2 ((0 : Int32)) t) fun lw33 =>
      (tX10_passes ((987 : Int32)) t).bind fun tt38 =>
      tX10_whoNow_L15 n lw33 (v2 + (1 : Int32)) tt38
def tX10_whoNow  (t : tS) : Option (Int32 × tS) :=
  (tX10_days  t).bind fun x2 =>
  (tX10_triesNow  t).bind fun tt6 =>
  am_b2 (tX10_whoNow_L15 4000 ((((1 : Int32)) <<< (x2 &&& 31)) - ((1 : Int32))) ((0 : Int32)) tt6) fun lw39 tt41 =>
  some (lw39, tt41)
set_option maxHeartbeats 4000000 in
set_option maxRecDepth 100000 in
theorem sX10_whoNow_L45 : ∀ (n : Nat) (v1 : Int32) (v2 : Int32) (v3 : Int32) (v4 : Int32) (v5 : Int32) (h : am_H) (t : tS) (w1 : Int32), Rp h t → tX10_whoNow_L45 n v1 v2 v3 v4 v5 t = some w1 → ex (fX10_whoNow_L45 n 218 v1 v2 v3 v4 v5 h) (fun p => w1 = p) := by
  intro n
  induction n with
  | zero => intro _ _ _ _ _ _ _ _ _ H; cases H
  | succ n ih =>
    intro v1 v2 v3 v4 v5 h t w1 hR_t H
    rw [tX10_whoNow_L45] at H
    rw [fX10_whoNow_L45]
    obtain ⟨x13, e12, H⟩ := am_bd H
    refine ex.j1 (sX10_days hR_t  e12) (fun z14 hz => ?_)
    obtain rfl : x13 = z14 := hz
    by_cases c15 : x13 ≤ v5
    · rw [if_pos c15] at H
      refine ex.t c15 ?_
      obtain rfl := Option.some.inj H
      exact ex.nd rfl
    · rw [if_neg c15] at H
      refine ex.f c15 ?_
      refine ex.bd (r_gR hR_t lk9 rfl) ?_
      obtain ⟨x17, e18, H⟩ := am_bd H
      refine ex.bd (r_aI hR_t (la9_24 (a := 218) (by decide)) e18) ?_
      obtain ⟨js19, E28, H⟩ := am_bd H
      refine ex.j1 (Q := fun p => js19 = p) ?_ (fun z29 hq => ?_)
      · clear H
        have H := E28
        clear E28
        by_cases c20 : ¬ x17 = v2
        · rw [if_pos c20] at H
          refine ex.t c20 ?_
          obtain rfl := Option.some.inj H
          exact ex.nd rfl
        · rw [if_neg c20] at H
          refine ex.f c20 ?_
          refine ex.bd (r_gR hR_t lk9 rfl) ?_
          obtain ⟨x22, e23, H⟩ := am_bd H
          refine ex.bd (r_aI hR_t (la9_24 (a := 218) (by decide)) e23) ?_
          refine ex.bd (r_gR hR_t lk9 rfl) ?_
          obtain ⟨x25, e26, H⟩ := am_bd H
          refine ex.bd (r_aI hR_t (la9_24 (a := 218) (by decide)) e26) ?_
          by_cases c27 : x22 = x25
          · rw [if_pos c27] at H
            refine ex.t c27 ?_
            obtain rfl := Option.some.inj H
            exact ex.nd rfl
          · rw [if_neg c27] at H
            refine ex.f c27 ?_
            obtain rfl := Option.some.inj H
            exact ex.nd rfl
      · clear E28
        obtain rfl : js19 = z29 := hq
        exact ih _ _ _ _ _ _ _ _ hR_t  H
set_option maxHeartbeats 4000000 in
set_option maxRecDepth 100000 in
theorem sX10_whoNow_L23 : ∀ (n : Nat) (v1 : Int32) (v2 : Int32) (v3 : Int32) (h : am_H) (t : tS) (w1 : Int32), Rp h t → tX10_whoNow_L23 n v1 v2 v3 t = some w1 → ex (fX10_whoNow_L23 n 218 v1 v2 v3 h) (fun p => w1 = p) := by
  intro n
  induction n with
  | zero => intro _ _ _ _ _ _ _ H; cases H
  | succ n ih =>
    intro v1 v2 v3 h t w1 hR_t H
    rw [tX10_whoNow_L23] at H
    rw [fX10_whoNow_L23]
    refine ex.bd (r_gR hR_t lk9 rfl) ?_
    obtain ⟨x9, e10, H⟩ := am_bd H
    refine ex.bd (r_aI hR_t (la9_24 (a := 218) (by decide)) e10) ?_
    by_cases c11 : x9 ≤ v3
    · rw [if_pos c11] at H
      refine ex.t c11 ?_
      obtain rfl := Option.some.inj H
      exact ex.nd rfl
    · rw [if_neg c11] at H
      refine ex.f c11 ?_
      obtain ⟨lw30, E32, H⟩ := am_bd H
      refine ex.j1 (sX10_whoNow_L45 _ _ _ _ _ _ _ _ _ hR_t  E32) (fun z31 hq => ?_)
      clear E32
      obtain rfl : lw30 = z31 := hq
      exact ih _ _ _ _ _ _ hR_t  H
set_option maxHeartbeats 4000000 in
set_option maxRecDepth 100000 in
theorem sX10_whoNow_L15 : ∀ (n : Nat) (v1 : Int32) (v2 : Int32) (h : am_H) (t : tS) (w1 : Int32) (t1 : tS), Rp h t → tX10_whoNow_L15 n v1 v2 t = some (w1, t1) → ex (fX10_whoNow_L15 n 218 v1 v2 h) (fun p => w1 = p.1 ∧ Rp p.2 t1) := by
  intro n
  induction n with
  | zero => intro _ _ _ _ _ _ _ H; cases H
  | succ n ih =>
    intro v1 v2 h t w1 t1 hR_t H
    rw [tX10_whoNow_L15] at H
    rw [fX10_whoNow_L15]
    by_cases c7 : ((24 : Int32)) < v2
    · rw [if_pos c7] at H
      refine ex.t c7 ?_
      obtain ⟨rfl, rfl⟩ := am_inj2 H
      exact ex.nd ⟨rfl, hR_t⟩
    · rw [if_neg c7] at H
      refine ex.f c7 ?_
      obtain ⟨lw33, E35, H⟩ := am_bd H
      refine ex.j1 (sX10_whoNow_L23 _ _ _ _ _ _ _ hR_t  E35) (fun z34 hq => ?_)
      clear E35
      obtain rfl : lw33 = z34 := hq
      obtain ⟨tt38, e36, H⟩ := am_bd H
      refine ex.j1 (sX10_passes hR_t  e36) (fun hh37 hR_tt38 => ?_)
      exact ih _ _ _ _ _ _ hR_tt38  H
set_option maxHeartbeats 4000000 in
set_option maxRecDepth 100000 in
theorem sX10_whoNow  {h : am_H} {t : tS} {r : Int32} {t1 : tS} (hR_t : Rp h t)  (H : tX10_whoNow  t = some (r, t1)) : ex (fX10_whoNow 218 h) (fun p => r = p.1 ∧ Rp p.2 t1) := by
  unfold tX10_whoNow at H
  unfold fX10_whoNow
  refine ex.bd (r_isO hR_t lk9) ?_
  obtain ⟨x2, e1, H⟩ := am_bd H
  refine ex.j1 (sX10_days hR_t  e1) (fun z3 hz => ?_)
  obtain rfl : x2 = z3 := hz
  obtain ⟨tt6, e4, H⟩ := am_bd H
  refine ex.j1 (sX10_triesNow hR_t  e4) (fun hh5 hR_tt6 => ?_)
  obtain ⟨lw39, tt41, E43, H⟩ := am_bd2 H
  refine ex.j2 (sX10_whoNow_L15 _ _ _ _ _ _ _ hR_tt6  E43) (fun z42 hh40 hq => ?_)
  clear E43
  obtain ⟨rfl, hR_tt41⟩ : lw39 = z42 ∧ Rp hh40 tt41 := hq
  obtain ⟨rfl, rfl⟩ := am_inj2 H
  exact ex.nd ⟨rfl, hR_tt41⟩
def tX10_who  (t : tS) : Option (Int32 × tS) :=
  (some (uI t 218 0 ((0 : Int32)))).bind fun tt2 =>
  am_b2 (tX10_whoNow  tt2) fun x6 tt8 =>
  some (x6, tt8)
set_option maxHeartbeats 4000000 in
set_option maxRecDepth 100000 in
theorem sX10_who  {h : am_H} {t : tS} {r : Int32} {t1 : tS} (hR_t : Rp h t)  (H : tX10_who  t = some (r, t1)) : ex (fX10_who 218 h) (fun p => r = p.1 ∧ Rp p.2 t1) := by
  unfold tX10_who at H
  unfold fX10_who
  refine ex.bd (r_isO hR_t lk9) ?_
  obtain ⟨tt2, et3, H⟩ := am_bd H
  obtain ⟨hh1, e4, hR_tt2⟩ := r_pI (k := 0) (x := (0 : Int32)) hR_t lk9 rfl rfl
  rw [Option.some.inj et3] at hR_tt2
  refine ex.bd e4 ?_
  obtain ⟨x6, tt8, e5, H⟩ := am_bd2 H
  refine ex.j2 (sX10_whoNow hR_tt2  e5) (fun z9 hh7 hz => ?_)
  obtain ⟨rfl, hR_tt8⟩ : x6 = z9 ∧ Rp hh7 tt8 := hz
  obtain ⟨rfl, rfl⟩ := am_inj2 H
  exact ex.nd ⟨rfl, hR_tt8⟩
def tX10_look_L37 : Nat → Int32 → Int32 → Int32 → Int32 → Int32 → Int32 → tS → Option (Int32)
  | 0, _, _, _, _, _, _, _ => none
  | n + 1, v1, v2, v3, v4, v5, v6, t =>
    (tX10_houses  t).bind fun x18 =>
    if x18 ≤ v6 then
      some v5
    else
      (tX10_inHouse ((987 : Int32)) v6 t).bind fun x22 =>
      (tX10_bits (x22 &&& v1) t).bind fun x25 =>
      Option.bind (
        if x25 ≤ v5 then
          some v5
        else
          some x25) fun js27 =>
      tX10_look_L37 n v1 v2 v3 v4 js27 (v6 + (1 : Int32)) t
def tX10_look_L24 : Nat → Int32 → Int32 → Int32 → Int32 → tS → Option (Int32 × tS)
  | 0, _, _, _, _, _ => none
  | n + 1, v1, v2, v3, v4, t =>
    if ((24 : Int32)) < v4 then
      some (v2, t)
    else
      Option.bind (tX10_look_L37 4000 v1 v2 v3 v4 ((0 : Int32)) ((-1 : Int32)) t) fun lw31 =>
      Option.bind (
        if v3 ≤ lw31 then
          some v2
        else
          some v4) fun js34 =>
      Option.bind (
        if v3 ≤ lw31 then
          some v3
        else
          some lw31) fun js36 =>
      (tX10_passes ((987 : Int32)) t).bind fun tt40 =>
      tX10_look_L24 n v1 js34 js36 (v4 + (1 : Int32)) tt40
def tX10_look  (t : tS) : Option (Int32 × tS) :=
  (some (uI t 218 0 ((0 : Int32)))).bind fun tt2 =>
  am_b2 (tX10_whoNow  tt2) fun x6 tt8 =>
  (tX10_bits x6 tt8).bind fun x11 =>
  (tX10_triesNow  tt8).bind fun tt15 =>
  am_b2 (tX10_look_L24 4000 x6 ((-1 : Int32)) x11 ((0 : Int32)) tt15) fun lw45 tt47 =>
  some (lw45, tt47)
set_option maxHeartbeats 4000000 in
set_option maxRecDepth 100000 in
theorem sX10_look_L37 : ∀ (n : Nat) (v1 : Int32) (v2 : Int32) (v3 : Int32) (v4 : Int32) (v5 : Int32) (v6 : Int32) (h : am_H) (t : tS) (w5 : Int32), Rp h t → tX10_look_L37 n v1 v2 v3 v4 v5 v6 t = some w5 → ex (fX10_look_L37 n 218 v1 v2 v3 v4 v5 v6 h) (fun p => w5 = p) := by
  intro n
  induction n with
  | zero => intro _ _ _ _ _ _ _ _ _ _ H; cases H
  | succ n ih =>
    intro v1 v2 v3 v4 v5 v6 h t w5 hR_t H
    rw [tX10_look_L37] at H
    rw [fX10_look_L37]
    obtain ⟨x18, e17, H⟩ := am_bd H
    refine ex.j1 (sX10_houses hR_t  e17) (fun z19 hz => ?_)
    obtain rfl : x18 = z19 := hz
    by_cases c20 : x18 ≤ v6
    · rw [if_pos c20] at H
      refine ex.t c20 ?_
      obtain rfl := Option.some.inj H
      exact ex.nd rfl
    · rw [if_neg c20] at H
      refine ex.f c20 ?_
      obtain ⟨x22, e21, H⟩ := am_bd H
      refine ex.j1 (sX10_inHouse hR_t  e21) (fun z23 hz => ?_)
      obtain rfl : x22 = z23 := hz
      obtain ⟨x25, e24, H⟩ := am_bd H
      refine ex.j1 (sX10_bits hR_t  e24) (fun z26 hz => ?_)
      obtain rfl : x25 = z26 := hz
      obtain ⟨js27, E29, H⟩ := am_bd H
      refine ex.j1 (Q := fun p => js27 = p) ?_ (fun z30 hq => ?_)
      · clear H
        have H := E29
        clear E29
        by_cases c28 : x25 ≤ v5
        · rw [if_pos c28] at H
          refine ex.t c28 ?_
          obtain rfl := Option.some.inj H
          exact ex.nd rfl
        · rw [if_neg c28] at H
          refine ex.f c28 ?_
          obtain rfl := Option.some.inj H
          exact ex.nd rfl
      · clear E29
        obtain rfl : js27 = z30 := hq
        exact ih _ _ _ _ _ _ _ _ _ hR_t  H
set_option maxHeartbeats 4000000 in
set_option maxRecDepth 100000 in
theorem sX10_look_L24 : ∀ (n : Nat) (v1 : Int32) (v2 : Int32) (v3 : Int32) (v4 : Int32) (h : am_H) (t : tS) (w2 : Int32) (t1 : tS), Rp h t → tX10_look_L24 n v1 v2 v3 v4 t = some (w2, t1) → ex (fX10_look_L24 n 218 v1 v2 v3 v4 h) (fun p => w2 = p.1 ∧ Rp p.2 t1) := by
  intro n
  induction n with
  | zero => intro _ _ _ _ _ _ _ _ _ H; cases H
  | succ n ih =>
    intro v1 v2 v3 v4 h t w2 t1 hR_t H
    rw [tX10_look_L24] at H
    rw [fX10_look_L24]
    by_cases c16 : ((24 : Int32)) < v4
    · rw [if_pos c16] at H
      refine ex.t c16 ?_
      obtain ⟨rfl, rfl⟩ := am_inj2 H
      exact ex.nd ⟨rfl, hR_t⟩
    · rw [if_neg c16] at H
      refine ex.f c16 ?_
      obtain ⟨lw31, E33, H⟩ := am_bd H
      refine ex.j1 (sX10_look_L37 _ _ _ _ _ _ _ _ _ _ hR_t  E33) (fun z32 hq => ?_)
      clear E33
      obtain rfl : lw31 = z32 := hq
      obtain ⟨js34, E43, H⟩ := am_bd H
      refine ex.j1 (Q := fun p => js34 = p) ?_ (fun z44 hq => ?_)
      · clear H
        have H := E43
        clear E43
        by_cases c35 : v3 ≤ lw31
        · rw [if_pos c35] at H
          refine ex.t c35 ?_
          obtain rfl := Option.some.inj H
          exact ex.nd rfl
        · rw [if_neg c35] at H
          refine ex.f c35 ?_
          obtain rfl := Option.some.inj H
          exact ex.nd rfl
      · clear E43
        obtain rfl : js34 = z44 := hq
        obtain ⟨js36, E41, H⟩ := am_bd H
        refine ex.j1 (Q := fun p => js36 = p) ?_ (fun z42 hq => ?_)
        · clear H
          have H := E41
          clear E41
          by_cases c37 : v3 ≤ lw31
          · rw [if_pos c37] at H
            refine ex.t c37 ?_
            obtain rfl := Option.some.inj H
            exact ex.nd rfl
          · rw [if_neg c37] at H
            refine ex.f c37 ?_
            obtain rfl := Option.some.inj H
            exact ex.nd rfl
        · clear E41
          obtain rfl : js36 = z42 := hq
          obtain ⟨tt40, e38, H⟩ := am_bd H
          refine ex.j1 (sX10_passes hR_t  e38) (fun hh39 hR_tt40 => ?_)
          exact ih _ _ _ _ _ _ _ _ hR_tt40  H
set_option maxHeartbeats 4000000 in
set_option maxRecDepth 100000 in
theorem sX10_look  {h : am_H} {t : tS} {r : Int32} {t1 : tS} (hR_t : Rp h t)  (H : tX10_look  t = some (r, t1)) : ex (fX10_look 218 h) (fun p => r = p.1 ∧ Rp p.2 t1) := by
  unfold tX10_look at H
  unfold fX10_look
  refine ex.bd (r_isO hR_t lk9) ?_
  obtain ⟨tt2, et3, H⟩ := am_bd H
  obtain ⟨hh1, e4, hR_tt2⟩ := r_pI (k := 0) (x := (0 : Int32)) hR_t lk9 rfl rfl
  rw [Option.some.inj et3] at hR_tt2
  refine ex.bd e4 ?_
  obtain ⟨x6, tt8, e5, H⟩ := am_bd2 H
  refine ex.j2 (sX10_whoNow hR_tt2  e5) (fun z9 hh7 hz => ?_)
  obtain ⟨rfl, hR_tt8⟩ : x6 = z9 ∧ Rp hh7 tt8 := hz
  obtain ⟨x11, e10, H⟩ := am_bd H
  refine ex.j1 (sX10_bits hR_tt8  e10) (fun z12 hz => ?_)
  obtain rfl : x11 = z12 := hz
  obtain ⟨tt15, e13, H⟩ := am_bd H
  refine ex.j1 (sX10_triesNow hR_tt8  e13) (fun hh14 hR_tt15 => ?_)
  obtain ⟨lw45, tt47, E49, H⟩ := am_bd2 H
  refine ex.j2 (sX10_look_L24 _ _ _ _ _ _ _ _ _ hR_tt15  E49) (fun z48 hh46 hq => ?_)
  clear E49
  obtain ⟨rfl, hR_tt47⟩ : lw45 = z48 ∧ Rp hh46 tt47 := hq
  obtain ⟨rfl, rfl⟩ := am_inj2 H
  exact ex.nd ⟨rfl, hR_tt47⟩
def tX10_through_L56 : Nat → Int32 → Int32 → Int32 → Int32 → Int32 → tS → Option (Int32)
  | 0, _, _, _, _, _, _ => none
  | n + 1, v2, v3, v4, v5, v6, t =>
    (tX10_houses  t).bind fun x17 =>
    if x17 ≤ v6 then
      some v5
    else
      Option.bind (
        if ¬ ((v3 >>> (v6 &&& 31)) &&& ((1 : Int32))) = ((1 : Int32)) then
          some ((0 : Int32))
        else
          (tX10_houseOf v6 ((1 : Int32)) t).bind fun x23 =>
          some x23) fun js20 =>
      tX10_through_L56 n v2 v3 v4 (v5 ||| js20) (v6 + (1 : Int32)) t
def tX10_through_L24 : Nat → Int32 → Int32 → Int32 → tS → Option ((Unit) ⊕ (Int32 × tS))
  | 0, _, _, _, _ => none
  | n + 1, v2, v3, v4, t =>
    if ((4 : Int32)) ≤ v4 then
      some (.inl ())
    else
      (tX10_isHouse v2 t).bind fun x12 =>
      if x12 = 0 then
        some (.inl ())
      else
        if ¬ ((v3 >>> (v2 &&& 31)) &&& ((1 : Int32))) = ((1 : Int32)) then
          Option.bind (tX10_through_L56 4000 v2 v3 v4 v3 ((0 : Int32)) t) fun lw27 =>
          tX10_through_L24 n v2 lw27 (v4 + (1 : Int32)) t
        else
          some (.inr (v4, t))
def tX10_through (a1 : Int32) (a2 : Int32) (t : tS) : Option (Int32 × tS) :=
  (some (uI t 218 0 ((0 : Int32)))).bind fun tt2 =>
  (tX10_isHouse a1 tt2).bind fun x6 =>
  Option.bind (
    if x6 = 0 then
      some ((0 : Int32))
    else
      some (((1 : Int32)) <<< (a1 &&& 31))) fun js8 =>
  (tX10_through_L24 4000 a2 js8 ((0 : Int32)) tt2).bind fun o31 => match o31 with
    | .inl _ =>
      some ((-1 : Int32), tt2)
    | .inr y32 => some y32
set_option maxHeartbeats 4000000 in
set_option maxRecDepth 100000 in
theorem sX10_through_L56 : ∀ (n : Nat) (v2 : Int32) (v3 : Int32) (v4 : Int32) (v5 : Int32) (v6 : Int32) (h : am_H) (t : tS) (w5 : Int32), Rp h t → tX10_through_L56 n v2 v3 v4 v5 v6 t = some w5 → ex (fX10_through_L56 n 218 v2 v3 v4 v5 v6 h) (fun p => w5 = p) := by
  intro n
  induction n with
  | zero => intro _ _ _ _ _ _ _ _ _ H; cases H
  | succ n ih =>
    intro v2 v3 v4 v5 v6 h t w5 hR_t H
    rw [tX10_through_L56] at H
    rw [fX10_through_L56]
    obtain ⟨x17, e16, H⟩ := am_bd H
    refine ex.j1 (sX10_houses hR_t  e16) (fun z18 hz => ?_)
    obtain rfl : x17 = z18 := hz
    by_cases c19 : x17 ≤ v6
    · rw [if_pos c19] at H
      refine ex.t c19 ?_
      obtain rfl := Option.some.inj H
      exact ex.nd rfl
    · rw [if_neg c19] at H
      refine ex.f c19 ?_
      obtain ⟨js20, E25, H⟩ := am_bd H
      refine ex.j1 (Q := fun p => js20 = p) ?_ (fun z26 hq => ?_)
      · clear H
        have H := E25
        clear E25
        by_cases c21 : ¬ ((v3 >>> (v6 &&& 31)) &&& ((1 : Int32))) = ((1 : Int32))
        · rw [if_pos c21] at H
          refine ex.t c21 ?_
          obtain rfl := Option.some.inj H
          exact ex.nd rfl
        · rw [if_neg c21] at H
          refine ex.f c21 ?_
          obtain ⟨x23, e22, H⟩ := am_bd H
          refine ex.j1 (sX10_houseOf hR_t  e22) (fun z24 hz => ?_)
          obtain rfl : x23 = z24 := hz
          obtain rfl := Option.some.inj H
          exact ex.nd rfl
      · clear E25
        obtain rfl : js20 = z26 := hq
        exact ih _ _ _ _ _ _ _ _ hR_t  H
set_option maxHeartbeats 4000000 in
set_option maxRecDepth 100000 in
theorem sX10_through_L24 : ∀ (n : Nat) (v2 : Int32) (v3 : Int32) (v4 : Int32) (h : am_H) (t : tS) (o : (Unit) ⊕ (Int32 × tS)), Rp h t → tX10_through_L24 n v2 v3 v4 t = some o → ex (fX10_through_L24 n 218 v2 v3 v4 h) (fun p => match o, p with
    | .inl _, .inl _ => True
    | .inr y, .inr z => y.1 = z.1 ∧ Rp z.2 y.2
    | _, _ => False) := by
  intro n
  induction n with
  | zero => intro _ _ _ _ _ _ _ H; cases H
  | succ n ih =>
    intro v2 v3 v4 h t o hR_t H
    rw [tX10_through_L24] at H
    rw [fX10_through_L24]
    by_cases c10 : ((4 : Int32)) ≤ v4
    · rw [if_pos c10] at H
      refine ex.t c10 ?_
      obtain rfl := Option.some.inj H
      exact ex.nd trivial
    · rw [if_neg c10] at H
      refine ex.f c10 ?_
      obtain ⟨x12, e11, H⟩ := am_bd H
      refine ex.j1 (sX10_isHouse hR_t  e11) (fun z13 hz => ?_)
      obtain rfl : x12 = z13 := hz
      by_cases c14 : x12 = 0
      · rw [if_pos c14] at H
        refine ex.t c14 ?_
        obtain rfl := Option.some.inj H
        exact ex.nd trivial
      · rw [if_neg c14] at H
        refine ex.f c14 ?_
        by_cases c15 : ¬ ((v3 >>> (v2 &&& 31)) &&& ((1 : Int32))) = ((1 : Int32))
        · rw [if_pos c15] at H
          refine ex.t c15 ?_
          obtain ⟨lw27, E29, H⟩ := am_bd H
          refine ex.j1 (sX10_through_L56 _ _ _ _ _ _ _ _ _ hR_t  E29) (fun z28 hq => ?_)
          clear E29
          obtain rfl : lw27 = z28 := hq
          exact ih _ _ _ _ _ _ hR_t  H
        · rw [if_neg c15] at H
          refine ex.f c15 ?_
          obtain rfl := Option.some.inj H
          exact ex.nd ⟨rfl, hR_t⟩
set_option maxHeartbeats 4000000 in
set_option maxRecDepth 100000 in
theorem sX10_through {a1 : Int32} {a2 : Int32} {h : am_H} {t : tS} {r : Int32} {t1 : tS} (hR_t : Rp h t)  (H : tX10_through a1 a2 t = some (r, t1)) : ex (fX10_through 218 a1 a2 h) (fun p => r = p.1 ∧ Rp p.2 t1) := by
  unfold tX10_through at H
  unfold fX10_through
  refine ex.bd (r_isO hR_t lk9) ?_
  obtain ⟨tt2, et3, H⟩ := am_bd H
  obtain ⟨hh1, e4, hR_tt2⟩ := r_pI (k := 0) (x := (0 : Int32)) hR_t lk9 rfl rfl
  rw [Option.some.inj et3] at hR_tt2
  refine ex.bd e4 ?_
  obtain ⟨x6, e5, H⟩ := am_bd H
  refine ex.j1 (sX10_isHouse hR_tt2  e5) (fun z7 hz => ?_)
  obtain rfl : x6 = z7 := hz
  obtain ⟨js8, E35, H⟩ := am_bd H
  refine ex.j1 (Q := fun p => js8 = p) ?_ (fun z36 hq => ?_)
  · clear H
    have H := E35
    clear E35
    by_cases c9 : x6 = 0
    · rw [if_pos c9] at H
      refine ex.t c9 ?_
      obtain rfl := Option.some.inj H
      exact ex.nd rfl
    · rw [if_neg c9] at H
      refine ex.f c9 ?_
      obtain rfl := Option.some.inj H
      exact ex.nd rfl
  · clear E35
    obtain rfl : js8 = z36 := hq
    obtain ⟨o31, E30, H⟩ := am_bd H
    refine ex.j1 (sX10_through_L24 _ _ _ _ _ _ _ hR_tt2  E30) (fun p33 hq => ?_)
    clear E30
    rcases o31 with _ | y32
    · rcases p33 with _ | z34
      · dsimp only at H hq ⊢
        obtain ⟨rfl, rfl⟩ := am_inj2 H
        exact ex.nd ⟨rfl, hR_tt2⟩
      · exact hq.elim
    · rcases p33 with _ | z34
      · exact hq.elim
      · dsimp only at H ⊢
        obtain rfl := Option.some.inj H
        exact ex.nd hq
def tX10_quiet_L9 : Nat → Int32 → Int32 → tS → Option (Int32)
  | 0, _, _, _ => none
  | n + 1, v1, v2, t =>
    (tX10_days  t).bind fun x6 =>
    if x6 ≤ v2 then
      some v1
    else
      Option.bind (
        if v1 < 0 then
          some v2
        else
          (tA t 234 1081 (((18 : Int32)) + v2)).bind fun x12 =>
          (tA t 234 1081 (((18 : Int32)) + v1)).bind fun x15 =>
          if x15 ≤ x12 then
            some v1
          else
            some v2) fun js9 =>
      tX10_quiet_L9 n js9 (v2 + (1 : Int32)) t
def tX10_quiet  (t : tS) : Option (Int32 × tS) :=
  (some (uI t 218 0 ((0 : Int32)))).bind fun tt2 =>
  Option.bind (tX10_quiet_L9 4000 ((-1 : Int32)) ((0 : Int32)) tt2) fun lw20 =>
  some (lw20, tt2)
set_option maxHeartbeats 4000000 in
set_option maxRecDepth 100000 in
theorem sX10_quiet_L9 : ∀ (n : Nat) (v1 : Int32) (v2 : Int32) (h : am_H) (t : tS) (w1 : Int32), Rp h t → tX10_quiet_L9 n v1 v2 t = some w1 → ex (fX10_quiet_L9 n 218 v1 v2 h) (fun p => w1 = p) := by
  intro n
  induction n with
  | zero => intro _ _ _ _ _ _ H; cases H
  | succ n ih =>
    intro v1 v2 h t w1 hR_t H
    rw [tX10_quiet_L9] at H
    rw [fX10_quiet_L9]
    obtain ⟨x6, e5, H⟩ := am_bd H
    refine ex.j1 (sX10_days hR_t  e5) (fun z7 hz => ?_)
    obtain rfl : x6 = z7 := hz
    by_cases c8 : x6 ≤ v2
    · rw [if_pos c8] at H
      refine ex.t c8 ?_
      obtain rfl := Option.some.inj H
      exact ex.nd rfl
    · rw [if_neg c8] at H
      refine ex.f c8 ?_
      obtain ⟨js9, E18, H⟩ := am_bd H
      refine ex.j1 (Q := fun p => js9 = p) ?_ (fun z19 hq => ?_)
      · clear H
        have H := E18
        clear E18
        by_cases c10 : v1 < 0
        · rw [if_pos c10] at H
          refine ex.t c10 ?_
          obtain rfl := Option.some.inj H
          exact ex.nd rfl
        · rw [if_neg c10] at H
          refine ex.f c10 ?_
          refine ex.bd (r_gR hR_t lk9 rfl) ?_
          obtain ⟨x12, e13, H⟩ := am_bd H
          refine ex.bd (r_aI hR_t (la9_24 (a := 218) (by decide)) e13) ?_
          refine ex.bd (r_gR hR_t lk9 rfl) ?_
          obtain ⟨x15, e16, H⟩ := am_bd H
          refine ex.bd (r_aI hR_t (la9_24 (a := 218) (by decide)) e16) ?_
          by_cases c17 : x15 ≤ x12
          · rw [if_pos c17] at H
            refine ex.t c17 ?_
            obtain rfl := Option.some.inj H
            exact ex.nd rfl
          · rw [if_neg c17] at H
            refine ex.f c17 ?_
            obtain rfl := Option.some.inj H
            exact ex.nd rfl
      · clear E18
        obtain rfl : js9 = z19 := hq
        exact ih _ _ _ _ _ hR_t  H
set_option maxHeartbeats 4000000 in
set_option maxRecDepth 100000 in
theorem sX10_quiet  {h : am_H} {t : tS} {r : Int32} {t1 : tS} (hR_t : Rp h t)  (H : tX10_quiet  t = some (r, t1)) : ex (fX10_quiet 218 h) (fun p => r = p.1 ∧ Rp p.2 t1) := by
  unfold tX10_quiet at H
  unfold fX10_quiet
  refine ex.bd (r_isO hR_t lk9) ?_
  obtain ⟨tt2, et3, H⟩ := am_bd H
  obtain ⟨hh1, e4, hR_tt2⟩ := r_pI (k := 0) (x := (0 : Int32)) hR_t lk9 rfl rfl
  rw [Option.some.inj et3] at hR_tt2
  refine ex.bd e4 ?_
  obtain ⟨lw20, E22, H⟩ := am_bd H
  refine ex.j1 (sX10_quiet_L9 _ _ _ _ _ _ hR_tt2  E22) (fun z21 hq => ?_)
  clear E22
  obtain rfl : lw20 = z21 := hq
  obtain ⟨rfl, rfl⟩ := am_inj2 H
  exact ex.nd ⟨rfl, hR_tt2⟩
def tX10_peace_L9 : Nat → Int32 → Int32 → tS → Option (Int32)
  | 0, _, _, _ => none
  | n + 1, v1, v2, t =>
    (tX10_houses  t).bind fun x6 =>
    if x6 ≤ v2 then
      some v1
    else
      (tX10_inHouse ((0 : Int32)) v2 t).bind fun x10 =>
      (tX10_bits x10 t).bind fun x13 =>
      (am_dv (x13 * (x13 - ((1 : Int32)))) ((2 : Int32))).bind fun q15 =>
      tX10_peace_L9 n (v1 + q15) (v2 + (1 : Int32)) t
def tX10_peace  (t : tS) : Option (Int32 × tS) :=
  (some (uI t 218 0 ((0 : Int32)))).bind fun tt2 =>
  Option.bind (tX10_peace_L9 4000 ((0 : Int32)) ((0 : Int32)) tt2) fun lw17 =>
  some (lw17, tt2)
set_option maxHeartbeats 4000000 in
set_option maxRecDepth 100000 in
theorem sX10_peace_L9 : ∀ (n : Nat) (v1 : Int32) (v2 : Int32) (h : am_H) (t : tS) (w1 : Int32), Rp h t → tX10_peace_L9 n v1 v2 t = some w1 → ex (fX10_peace_L9 n 218 v1 v2 h) (fun p => w1 = p) := by
  intro n
  induction n with
  | zero => intro _ _ _ _ _ _ H; cases H
  | succ n ih =>
    intro v1 v2 h t w1 hR_t H
    rw [tX10_peace_L9] at H
    rw [fX10_peace_L9]
    obtain ⟨x6, e5, H⟩ := am_bd H
    refine ex.j1 (sX10_houses hR_t  e5) (fun z7 hz => ?_)
    obtain rfl : x6 = z7 := hz
    by_cases c8 : x6 ≤ v2
    · rw [if_pos c8] at H
      refine ex.t c8 ?_
      obtain rfl := Option.some.inj H
      exact ex.nd rfl
    · rw [if_neg c8] at H
      refine ex.f c8 ?_
      obtain ⟨x10, e9, H⟩ := am_bd H
      refine ex.j1 (sX10_inHouse hR_t  e9) (fun z11 hz => ?_)
      obtain rfl : x10 = z11 := hz
      obtain ⟨x13, e12, H⟩ := am_bd H
      refine ex.j1 (sX10_bits hR_t  e12) (fun z14 hz => ?_)
      obtain rfl : x13 = z14 := hz
      obtain ⟨q15, e16, H⟩ := am_bd H
      refine ex.bd e16 ?_
      exact ih _ _ _ _ _ hR_t  H
set_option maxHeartbeats 4000000 in
set_option maxRecDepth 100000 in
theorem sX10_peace  {h : am_H} {t : tS} {r : Int32} {t1 : tS} (hR_t : Rp h t)  (H : tX10_peace  t = some (r, t1)) : ex (fX10_peace 218 h) (fun p => r = p.1 ∧ Rp p.2 t1) := by
  unfold tX10_peace at H
  unfold fX10_peace
  refine ex.bd (r_isO hR_t lk9) ?_
  obtain ⟨tt2, et3, H⟩ := am_bd H
  obtain ⟨hh1, e4, hR_tt2⟩ := r_pI (k := 0) (x := (0 : Int32)) hR_t lk9 rfl rfl
  rw [Option.some.inj et3] at hR_tt2
  refine ex.bd e4 ?_
  obtain ⟨lw17, E19, H⟩ := am_bd H
  refine ex.j1 (sX10_peace_L9 _ _ _ _ _ _ hR_tt2  E19) (fun z18 hq => ?_)
  clear E19
  obtain rfl : lw17 = z18 := hq
  obtain ⟨rfl, rfl⟩ := am_inj2 H
  exact ex.nd ⟨rfl, hR_tt2⟩
def tX10_eldest_L9 : Nat → Int32 → Int32 → Int32 → tS → Option (Int32)
  | 0, _, _, _, _ => none
  | n + 1, v1, v2, v3, t =>
    (tX10_days  t).bind fun x6 =>
    if x6 ≤ v3 then
      some v2
    else
      (tX10_isHouse v1 t).bind fun x10 =>
      if x10 = 0 then
        some v2
      else
        (tA t 234 1081 (((6 : Int32)) + v3)).bind fun x14 =>
        Option.bind (
          if ¬ x14 = v1 then
            some v2
          else
            if v2 < 0 then
              some v3
            else
              (tA t 234 1081 (((12 : Int32)) + v3)).bind fun x20 =>
              (tA t 234 1081 (((12 : Int32)) + v2)).bind fun x23 =>
              if x20 ≤ x23 then
                some v2
              else
                some v3) fun js16 =>
        tX10_eldest_L9 n v1 js16 (v3 + (1 : Int32)) t
def tX10_eldest (a1 : Int32) (t : tS) : Option (Int32 × tS) :=
  (some (uI t 218 0 ((0 : Int32)))).bind fun tt2 =>
  Option.bind (tX10_eldest_L9 4000 a1 ((-1 : Int32)) ((0 : Int32)) tt2) fun lw28 =>
  some (lw28, tt2)
set_option maxHeartbeats 4000000 in
set_option maxRecDepth 100000 in
theorem sX10_eldest_L9 : ∀ (n : Nat) (v1 : Int32) (v2 : Int32) (v3 : Int32) (h : am_H) (t : tS) (w2 : Int32), Rp h t → tX10_eldest_L9 n v1 v2 v3 t = some w2 → ex (fX10_eldest_L9 n 218 v1 v2 v3 h) (fun p => w2 = p) := by
  intro n
  induction n with
  | zero => intro _ _ _ _ _ _ _ H; cases H
  | succ n ih =>
    intro v1 v2 v3 h t w2 hR_t H
    rw [tX10_eldest_L9] at H
    rw [fX10_eldest_L9]
    obtain ⟨x6, e5, H⟩ := am_bd H
    refine ex.j1 (sX10_days hR_t  e5) (fun z7 hz => ?_)
    obtain rfl : x6 = z7 := hz
    by_cases c8 : x6 ≤ v3
    · rw [if_pos c8] at H
      refine ex.t c8 ?_
      obtain rfl := Option.some.inj H
      exact ex.nd rfl
    · rw [if_neg c8] at H
      refine ex.f c8 ?_
      obtain ⟨x10, e9, H⟩ := am_bd H
      refine ex.j1 (sX10_isHouse hR_t  e9) (fun z11 hz => ?_)
      obtain rfl : x10 = z11 := hz
      by_cases c12 : x10 = 0
      · rw [if_pos c12] at H
        refine ex.t c12 ?_
        obtain rfl := Option.some.inj H
        exact ex.nd rfl
      · rw [if_neg c12] at H
        refine ex.f c12 ?_
        refine ex.bd (r_gR hR_t lk9 rfl) ?_
        obtain ⟨x14, e15, H⟩ := am_bd H
        refine ex.bd (r_aI hR_t (la9_24 (a := 218) (by decide)) e15) ?_
        obtain ⟨js16, E26, H⟩ := am_bd H
        refine ex.j1 (Q := fun p => js16 = p) ?_ (fun z27 hq => ?_)
        · clear H
          have H := E26
          clear E26
          by_cases c17 : ¬ x14 = v1
          · rw [if_pos c17] at H
            refine ex.t c17 ?_
            obtain rfl := Option.some.inj H
            exact ex.nd rfl
          · rw [if_neg c17] at H
            refine ex.f c17 ?_
            by_cases c18 : v2 < 0
            · rw [if_pos c18] at H
              refine ex.t c18 ?_
              obtain rfl := Option.some.inj H
              exact ex.nd rfl
            · rw [if_neg c18] at H
              refine ex.f c18 ?_
              refine ex.bd (r_gR hR_t lk9 rfl) ?_
              obtain ⟨x20, e21, H⟩ := am_bd H
              refine ex.bd (r_aI hR_t (la9_24 (a := 218) (by decide)) e21) ?_
              refine ex.bd (r_gR hR_t lk9 rfl) ?_
              obtain ⟨x23, e24, H⟩ := am_bd H
              refine ex.bd (r_aI hR_t (la9_24 (a := 218) (by decide)) e24) ?_
              by_cases c25 : x20 ≤ x23
              · rw [if_pos c25] at H
                refine ex.t c25 ?_
                obtain rfl := Option.some.inj H
                exact ex.nd rfl
              · rw [if_neg c25] at H
                refine ex.f c25 ?_
                obtain rfl := Option.some.inj H
                exact ex.nd rfl
        · clear E26
          obtain rfl : js16 = z27 := hq
          exact ih _ _ _ _ _ _ hR_t  H
set_option maxHeartbeats 4000000 in
set_option maxRecDepth 100000 in
theorem sX10_eldest {a1 : Int32} {h : am_H} {t : tS} {r : Int32} {t1 : tS} (hR_t : Rp h t)  (H : tX10_eldest a1 t = some (r, t1)) : ex (fX10_eldest 218 a1 h) (fun p => r = p.1 ∧ Rp p.2 t1) := by
  unfold tX10_eldest at H
  unfold fX10_eldest
  refine ex.bd (r_isO hR_t lk9) ?_
  obtain ⟨tt2, et3, H⟩ := am_bd H
  obtain ⟨hh1, e4, hR_tt2⟩ := r_pI (k := 0) (x := (0 : Int32)) hR_t lk9 rfl rfl
  rw [Option.some.inj et3] at hR_tt2
  refine ex.bd e4 ?_
  obtain ⟨lw28, E30, H⟩ := am_bd H
  refine ex.j1 (sX10_eldest_L9 _ _ _ _ _ _ _ hR_tt2  E30) (fun z29 hq => ?_)
  clear E30
  obtain rfl : lw28 = z29 := hq
  obtain ⟨rfl, rfl⟩ := am_inj2 H
  exact ex.nd ⟨rfl, hR_tt2⟩
def tX10_loudest_L11 : Nat → Int32 → Int32 → Int32 → tS → Option (Int32)
  | 0, _, _, _, _ => none
  | n + 1, v1, v2, v3, t =>
    (tX10_houses  t).bind fun x6 =>
    if x6 ≤ v3 then
      some v1
    else
      (tX10_talkIn ((0 : Int32)) v3 t).bind fun x10 =>
      Option.bind (
        if x10 ≤ v2 then
          some v1
        else
          some v3) fun js12 =>
      (tX10_talkIn ((0 : Int32)) v3 t).bind fun x15 =>
      Option.bind (
        if x15 ≤ v2 then
          some v2
        else
          (tX10_talkIn ((0 : Int32)) v3 t).bind fun x20 =>
          some x20) fun js17 =>
      tX10_loudest_L11 n js12 js17 (v3 + (1 : Int32)) t
def tX10_loudest  (t : tS) : Option (Int32 × tS) :=
  (some (uI t 218 0 ((0 : Int32)))).bind fun tt2 =>
  Option.bind (tX10_loudest_L11 4000 ((-1 : Int32)) ((0 : Int32)) ((0 : Int32)) tt2) fun lw26 =>
  some (lw26, tt2)
set_option maxHeartbeats 4000000 in
set_option maxRecDepth 100000 in
theorem sX10_loudest_L11 : ∀ (n : Nat) (v1 : Int32) (v2 : Int32) (v3 : Int32) (h : am_H) (t : tS) (w1 : Int32), Rp h t → tX10_loudest_L11 n v1 v2 v3 t = some w1 → ex (fX10_loudest_L11 n 218 v1 v2 v3 h) (fun p => w1 = p) := by
  intro n
  induction n with
  | zero => intro _ _ _ _ _ _ _ H; cases H
  | succ n ih =>
    intro v1 v2 v3 h t w1 hR_t H
    rw [tX10_loudest_L11] at H
    rw [fX10_loudest_L11]
    obtain ⟨x6, e5, H⟩ := am_bd H
    refine ex.j1 (sX10_houses hR_t  e5) (fun z7 hz => ?_)
    obtain rfl : x6 = z7 := hz
    by_cases c8 : x6 ≤ v3
    · rw [if_pos c8] at H
      refine ex.t c8 ?_
      obtain rfl := Option.some.inj H
      exact ex.nd rfl
    · rw [if_neg c8] at H
      refine ex.f c8 ?_
      obtain ⟨x10, e9, H⟩ := am_bd H
      refine ex.j1 (sX10_talkIn hR_t  e9) (fun z11 hz => ?_)
      obtain rfl : x10 = z11 := hz
      obtain ⟨js12, E24, H⟩ := am_bd H
      refine ex.j1 (Q := fun p => js12 = p) ?_ (fun z25 hq => ?_)
      · clear H
        have H := E24
        clear E24
        by_cases c13 : x10 ≤ v2
        · rw [if_pos c13] at H
          refine ex.t c13 ?_
          obtain rfl := Option.some.inj H
          exact ex.nd rfl
        · rw [if_neg c13] at H
          refine ex.f c13 ?_
          obtain rfl := Option.some.inj H
          exact ex.nd rfl
      · clear E24
        obtain rfl : js12 = z25 := hq
        obtain ⟨x15, e14, H⟩ := am_bd H
        refine ex.j1 (sX10_talkIn hR_t  e14) (fun z16 hz => ?_)
        obtain rfl : x15 = z16 := hz
        obtain ⟨js17, E22, H⟩ := am_bd H
        refine ex.j1 (Q := fun p => js17 = p) ?_ (fun z23 hq => ?_)
        · clear H
          have H := E22
          clear E22
          by_cases c18 : x15 ≤ v2
          · rw [if_pos c18] at H
            refine ex.t c18 ?_
            obtain rfl := Option.some.inj H
            exact ex.nd rfl
          · rw [if_neg c18] at H
            refine ex.f c18 ?_
            obtain ⟨x20, e19, H⟩ := am_bd H
            refine ex.j1 (sX10_talkIn hR_t  e19) (fun z21 hz => ?_)
            obtain rfl : x20 = z21 := hz
            obtain rfl := Option.some.inj H
            exact ex.nd rfl
        · clear E22
          obtain rfl : js17 = z23 := hq
          exact ih _ _ _ _ _ _ hR_t  H
set_option maxHeartbeats 4000000 in
set_option maxRecDepth 100000 in
theorem sX10_loudest  {h : am_H} {t : tS} {r : Int32} {t1 : tS} (hR_t : Rp h t)  (H : tX10_loudest  t = some (r, t1)) : ex (fX10_loudest 218 h) (fun p => r = p.1 ∧ Rp p.2 t1) := by
  unfold tX10_loudest at H
  unfold fX10_loudest
  refine ex.bd (r_isO hR_t lk9) ?_
  obtain ⟨tt2, et3, H⟩ := am_bd H
  obtain ⟨hh1, e4, hR_tt2⟩ := r_pI (k := 0) (x := (0 : Int32)) hR_t lk9 rfl rfl
  rw [Option.some.inj et3] at hR_tt2
  refine ex.bd e4 ?_
  obtain ⟨lw26, E28, H⟩ := am_bd H
  refine ex.j1 (sX10_loudest_L11 _ _ _ _ _ _ _ hR_tt2  E28) (fun z27 hq => ?_)
  clear E28
  obtain rfl : lw26 = z27 := hq
  obtain ⟨rfl, rfl⟩ := am_inj2 H
  exact ex.nd ⟨rfl, hR_tt2⟩
def tX10_chance_L44 : Nat → Int32 → Int32 → Int32 → Int64 → Int64 → Int32 → tS → Option (Int64)
  | 0, _, _, _, _, _, _, _ => none
  | n + 1, v1, v2, v3, v4, v6, v8, t =>
    if v2 ≤ v8 then
      some v4
    else
      tX10_chance_L44 n v1 v2 v3 (v4 * ((10 : Int64))) v6 (v8 + (1 : Int32)) t
def tX10_chance_L135 : Nat → Int32 → Int32 → Int32 → Int64 → Int64 → Int32 → Int64 → Int32 → Int32 → Int32 → Int32 → tS → Option (tS)
  | 0, _, _, _, _, _, _, _, _, _, _, _, _ => none
  | n + 1, v1, v2, v3, v4, v6, v8, v9, v11, v12, v13, v14, t =>
    (tX10_days  t).bind fun x31 =>
    if x31 ≤ v14 then
      some t
    else
      if v13 = 0 then
        some t
      else
        (tX10_leaves ((987 : Int32)) v14 t).bind fun tt37 =>
        tX10_chance_L135 n v1 v2 v3 v4 v6 v8 v9 v11 v12 v13 (v14 + (1 : Int32)) tt37
def tX10_chance_L88 : Nat → Int32 → Int32 → Int32 → Int64 → Int64 → Int32 → Int64 → Int32 → Int32 → tS → Option (Int64 × Int32 × tS)
  | 0, _, _, _, _, _, _, _, _, _, _ => none
  | n + 1, v1, v2, v3, v4, v6, v8, v9, v11, v12, t =>
    if v2 ≤ v12 then
      some (v9, v11, t)
    else
      Option.bind (
        if ¬ ((v8 >>> (v12 &&& 31)) &&& ((1 : Int32))) = ((1 : Int32)) then
          some ((0 : Int32))
        else
          some ((1 : Int32))) fun js26 =>
      Option.bind (
        if js26 = 0 then
          some ((((10 : Int32)) - v3).toInt64)
        else
          some v3.toInt64) fun js28 =>
      Option.bind (tX10_chance_L135 4000 v1 v2 v3 v4 v6 v8 (v9 * js28) v11 v12 js26 ((0 : Int32)) t) fun tt39 =>
      (tX10_passes ((987 : Int32)) tt39).bind fun tt43 =>
      tX10_chance_L88 n v1 v2 v3 v4 v6 v8 (v9 * js28) (v11 ||| (tt43.1 218 29)) (v12 + (1 : Int32)) tt43
def tX10_chance_L67 : Nat → Int32 → Int32 → Int32 → Int64 → Int64 → Int32 → tS → Option (Int64 × tS)
  | 0, _, _, _, _, _, _, _ => none
  | n + 1, v1, v2, v3, v4, v6, v8, t =>
    if (((1 : Int32)) <<< (v2 &&& 31)) ≤ v8 then
      some (v6, t)
    else
      (tX10_triesNow  t).bind fun tt24 =>
      am_b3 (tX10_chance_L88 4000 v1 v2 v3 v4 v6 v8 ((1 : Int64)) ((0 : Int32)) ((0 : Int32)) tt24) fun lw49 lw50 tt52 =>
      Option.bind (
        if ¬ ((lw50 >>> (v1 &&& 31)) &&& ((1 : Int32))) = ((1 : Int32)) then
          some ((0 : Int64))
        else
          some lw49) fun js56 =>
      tX10_chance_L67 n v1 v2 v3 v4 (v6 + js56) (v8 + (1 : Int32)) tt52
def tX10_chance (a1 : Int32) (a2 : Int32) (a3 : Int32) (t : tS) : Option (Int32 × tS) :=
  (some (uI t 218 0 ((0 : Int32)))).bind fun tt2 =>
  (tX10_isDay a1 tt2).bind fun x6 =>
  if x6 = 0 then
    some ((-1 : Int32), tt2)
  else
    (tX10_within a2 ((1 : Int32)) ((6 : Int32)) tt2).bind fun x10 =>
    if x10 = 0 then
      some ((-1 : Int32), tt2)
    else
      (tX10_within a3 ((0 : Int32)) ((10 : Int32)) tt2).bind fun x14 =>
      if ¬ x14 = 0 then
        Option.bind (tX10_chance_L44 4000 a1 a2 a3 ((1 : Int64)) ((0 : Int64)) ((0 : Int32)) tt2) fun lw18 =>
        am_b2 (tX10_chance_L67 4000 a1 a2 a3 lw18 ((0 : Int64)) ((0 : Int32)) tt2) fun lw60 tt62 =>
        (am_dvL (lw60 * ((1000000 : Int64))) lw18).bind fun q65 =>
        some (q65.toInt32, tt62)
      else
        some ((-1 : Int32), tt2)
set_option maxHeartbeats 4000000 in
set_option maxRecDepth 100000 in
theorem sX10_chance_L44 : ∀ (n : Nat) (v1 : Int32) (v2 : Int32) (v3 : Int32) (v4 : Int64) (v6 : Int64) (v8 : Int32) (h : am_H) (t : tS) (w4 : Int64), Rp h t → tX10_chance_L44 n v1 v2 v3 v4 v6 v8 t = some w4 → ex (fX10_chance_L44 n 218 v1 v2 v3 v4 v6 v8 h) (fun p => w4 = p) := by
  intro n
  induction n with
  | zero => intro _ _ _ _ _ _ _ _ _ _ H; cases H
  | succ n ih =>
    intro v1 v2 v3 v4 v6 v8 h t w4 hR_t H
    rw [tX10_chance_L44] at H
    rw [fX10_chance_L44]
    by_cases c17 : v2 ≤ v8
    · rw [if_pos c17] at H
      refine ex.t c17 ?_
      obtain rfl := Option.some.inj H
      exact ex.nd rfl
    · rw [if_neg c17] at H
      refine ex.f c17 ?_
      exact ih _ _ _ _ _ _ _ _ _ hR_t  H
set_option maxHeartbeats 4000000 in
set_option maxRecDepth 100000 in
theorem sX10_chance_L135 : ∀ (n : Nat) (v1 : Int32) (v2 : Int32) (v3 : Int32) (v4 : Int64) (v6 : Int64) (v8 : Int32) (v9 : Int64) (v11 : Int32) (v12 : Int32) (v13 : Int32) (v14 : Int32) (h : am_H) (t : tS) (t1 : tS), Rp h t → tX10_chance_L135 n v1 v2 v3 v4 v6 v8 v9 v11 v12 v13 v14 t = some t1 → ex (fX10_chance_L135 n 218 v1 v2 v3 v4 v6 v8 v9 v11 v12 v13 v14 h) (fun p => Rp p t1) := by
  intro n
  induction n with
  | zero => intro _ _ _ _ _ _ _ _ _ _ _ _ _ _ _ H; cases H
  | succ n ih =>
    intro v1 v2 v3 v4 v6 v8 v9 v11 v12 v13 v14 h t t1 hR_t H
    rw [tX10_chance_L135] at H
    rw [fX10_chance_L135]
    obtain ⟨x31, e30, H⟩ := am_bd H
    refine ex.j1 (sX10_days hR_t  e30) (fun z32 hz => ?_)
    obtain rfl : x31 = z32 := hz
    by_cases c33 : x31 ≤ v14
    · rw [if_pos c33] at H
      refine ex.t c33 ?_
      obtain rfl := Option.some.inj H
      exact ex.nd hR_t
    · rw [if_neg c33] at H
      refine ex.f c33 ?_
      by_cases c34 : v13 = 0
      · rw [if_pos c34] at H
        refine ex.t c34 ?_
        obtain rfl := Option.some.inj H
        exact ex.nd hR_t
      · rw [if_neg c34] at H
        refine ex.f c34 ?_
        obtain ⟨tt37, e35, H⟩ := am_bd H
        refine ex.j1 (sX10_leaves hR_t  e35) (fun hh36 hR_tt37 => ?_)
        exact ih _ _ _ _ _ _ _ _ _ _ _ _ _ _ hR_tt37  H
set_option maxHeartbeats 4000000 in
set_option maxRecDepth 100000 in
theorem sX10_chance_L88 : ∀ (n : Nat) (v1 : Int32) (v2 : Int32) (v3 : Int32) (v4 : Int64) (v6 : Int64) (v8 : Int32) (v9 : Int64) (v11 : Int32) (v12 : Int32) (h : am_H) (t : tS) (w9 : Int64) (w11 : Int32) (t1 : tS), Rp h t → tX10_chance_L88 n v1 v2 v3 v4 v6 v8 v9 v11 v12 t = some (w9, w11, t1) → ex (fX10_chance_L88 n 218 v1 v2 v3 v4 v6 v8 v9 v11 v12 h) (fun p => w9 = p.1 ∧ w11 = p.2.1 ∧ Rp p.2.2 t1) := by
  intro n
  induction n with
  | zero => intro _ _ _ _ _ _ _ _ _ _ _ _ _ _ _ H; cases H
  | succ n ih =>
    intro v1 v2 v3 v4 v6 v8 v9 v11 v12 h t w9 w11 t1 hR_t H
    rw [tX10_chance_L88] at H
    rw [fX10_chance_L88]
    by_cases c25 : v2 ≤ v12
    · rw [if_pos c25] at H
      refine ex.t c25 ?_
      obtain ⟨rfl, rfl, rfl⟩ := am_inj3 H
      exact ex.nd ⟨rfl, rfl, hR_t⟩
    · rw [if_neg c25] at H
      refine ex.f c25 ?_
      obtain ⟨js26, E47, H⟩ := am_bd H
      refine ex.j1 (Q := fun p => js26 = p) ?_ (fun z48 hq => ?_)
      · clear H
        have H := E47
        clear E47
        by_cases c27 : ¬ ((v8 >>> (v12 &&& 31)) &&& ((1 : Int32))) = ((1 : Int32))
        · rw [if_pos c27] at H
          refine ex.t c27 ?_
          obtain rfl := Option.some.inj H
          exact ex.nd rfl
        · rw [if_neg c27] at H
          refine ex.f c27 ?_
          obtain rfl := Option.some.inj H
          exact ex.nd rfl
      · clear E47
        obtain rfl : js26 = z48 := hq
        obtain ⟨js28, E45, H⟩ := am_bd H
        refine ex.j1 (Q := fun p => js28 = p) ?_ (fun z46 hq => ?_)
        · clear H
          have H := E45
          clear E45
          by_cases c29 : js26 = 0
          · rw [if_pos c29] at H
            refine ex.t c29 ?_
            obtain rfl := Option.some.inj H
            exact ex.nd rfl
          · rw [if_neg c29] at H
            refine ex.f c29 ?_
            obtain rfl := Option.some.inj H
            exact ex.nd rfl
        · clear E45
          obtain rfl : js28 = z46 := hq
          obtain ⟨tt39, E40, H⟩ := am_bd H
          refine ex.j1 (sX10_chance_L135 _ _ _ _ _ _ _ _ _ _ _ _ _ _ _ hR_t  E40) (fun hh38 hq => ?_)
          clear E40
          have hR_tt39 : Rp hh38 tt39 := hq
          obtain ⟨tt43, e41, H⟩ := am_bd H
          refine ex.j1 (sX10_passes hR_tt39  e41) (fun hh42 hR_tt43 => ?_)
          refine ex.bd (r_gI hR_tt43 lk9 rfl) ?_
          exact ih _ _ _ _ _ _ _ _ _ _ _ _ _ _ hR_tt43  H
set_option maxHeartbeats 4000000 in
set_option maxRecDepth 100000 in
theorem sX10_chance_L67 : ∀ (n : Nat) (v1 : Int32) (v2 : Int32) (v3 : Int32) (v4 : Int64) (v6 : Int64) (v8 : Int32) (h : am_H) (t : tS) (w6 : Int64) (t1 : tS), Rp h t → tX10_chance_L67 n v1 v2 v3 v4 v6 v8 t = some (w6, t1) → ex (fX10_chance_L67 n 218 v1 v2 v3 v4 v6 v8 h) (fun p => w6 = p.1 ∧ Rp p.2 t1) := by
  intro n
  induction n with
  | zero => intro _ _ _ _ _ _ _ _ _ _ _ H; cases H
  | succ n ih =>
    intro v1 v2 v3 v4 v6 v8 h t w6 t1 hR_t H
    rw [tX10_chance_L67] at H
    rw [fX10_chance_L67]
    by_cases c21 : (((1 : Int32)) <<< (v2 &&& 31)) ≤ v8
    · rw [if_pos c21] at H
      refine ex.t c21 ?_
      obtain ⟨rfl, rfl⟩ := am_inj2 H
      exact ex.nd ⟨rfl, hR_t⟩
    · rw [if_neg c21] at H
      refine ex.f c21 ?_
      obtain ⟨tt24, e22, H⟩ := am_bd H
      refine ex.j1 (sX10_triesNow hR_t  e22) (fun hh23 hR_tt24 => ?_)
      obtain ⟨lw49, lw50, tt52, E55, H⟩ := am_bd3 H
      refine ex.j3 (sX10_chance_L88 _ _ _ _ _ _ _ _ _ _ _ _ _ _ _ hR_tt24  E55) (fun z53 z54 hh51 hq => ?_)
      clear E55
      obtain ⟨rfl, rfl, hR_tt52⟩ : lw49 = z53 ∧ lw50 = z54 ∧ Rp hh51 tt52 := hq
      obtain ⟨js56, E58, H⟩ := am_bd H
      refine ex.j1 (Q := fun p => js56 = p) ?_ (fun z59 hq => ?_)
      · clear H
        have H := E58
        clear E58
        by_cases c57 : ¬ ((lw50 >>> (v1 &&& 31)) &&& ((1 : Int32))) = ((1 : Int32))
        · rw [if_pos c57] at H
          refine ex.t c57 ?_
          obtain rfl := Option.some.inj H
          exact ex.nd rfl
        · rw [if_neg c57] at H
          refine ex.f c57 ?_
          obtain rfl := Option.some.inj H
          exact ex.nd rfl
      · clear E58
        obtain rfl : js56 = z59 := hq
        exact ih _ _ _ _ _ _ _ _ _ _ hR_tt52  H
set_option maxHeartbeats 4000000 in
set_option maxRecDepth 100000 in
theorem sX10_chance {a1 : Int32} {a2 : Int32} {a3 : Int32} {h : am_H} {t : tS} {r : Int32} {t1 : tS} (hR_t : Rp h t)  (H : tX10_chance a1 a2 a3 t = some (r, t1)) : ex (fX10_chance 218 a1 a2 a3 h) (fun p => r = p.1 ∧ Rp p.2 t1) := by
  unfold tX10_chance at H
  unfold fX10_chance
  refine ex.bd (r_isO hR_t lk9) ?_
  obtain ⟨tt2, et3, H⟩ := am_bd H
  obtain ⟨hh1, e4, hR_tt2⟩ := r_pI (k := 0) (x := (0 : Int32)) hR_t lk9 rfl rfl
  rw [Option.some.inj et3] at hR_tt2
  refine ex.bd e4 ?_
  obtain ⟨x6, e5, H⟩ := am_bd H
  refine ex.j1 (sX10_isDay hR_tt2  e5) (fun z7 hz => ?_)
  obtain rfl : x6 = z7 := hz
  by_cases c8 : x6 = 0
  · rw [if_pos c8] at H
    refine ex.t c8 ?_
    obtain ⟨rfl, rfl⟩ := am_inj2 H
    exact ex.nd ⟨rfl, hR_tt2⟩
  · rw [if_neg c8] at H
    refine ex.f c8 ?_
    obtain ⟨x10, e9, H⟩ := am_bd H
    refine ex.j1 (sX10_within hR_tt2  e9) (fun z11 hz => ?_)
    obtain rfl : x10 = z11 := hz
    by_cases c12 : x10 = 0
    · rw [if_pos c12] at H
      refine ex.t c12 ?_
      obtain ⟨rfl, rfl⟩ := am_inj2 H
      exact ex.nd ⟨rfl, hR_tt2⟩
    · rw [if_neg c12] at H
      refine ex.f c12 ?_
      obtain ⟨x14, e13, H⟩ := am_bd H
      refine ex.j1 (sX10_within hR_tt2  e13) (fun z15 hz => ?_)
      obtain rfl : x14 = z15 := hz
      by_cases c16 : ¬ x14 = 0
      · rw [if_pos c16] at H
        refine ex.t c16 ?_
        obtain ⟨lw18, E20, H⟩ := am_bd H
        refine ex.j1 (sX10_chance_L44 _ _ _ _ _ _ _ _ _ _ hR_tt2  E20) (fun z19 hq => ?_)
        clear E20
        obtain rfl : lw18 = z19 := hq
        obtain ⟨lw60, tt62, E64, H⟩ := am_bd2 H
        refine ex.j2 (sX10_chance_L67 _ _ _ _ _ _ _ _ _ _ _ hR_tt2  E64) (fun z63 hh61 hq => ?_)
        clear E64
        obtain ⟨rfl, hR_tt62⟩ : lw60 = z63 ∧ Rp hh61 tt62 := hq
        obtain ⟨q65, e66, H⟩ := am_bd H
        refine ex.bd e66 ?_
        obtain ⟨rfl, rfl⟩ := am_inj2 H
        exact ex.nd ⟨rfl, hR_tt62⟩
      · rw [if_neg c16] at H
        refine ex.f c16 ?_
        obtain ⟨rfl, rfl⟩ := am_inj2 H
        exact ex.nd ⟨rfl, hR_tt2⟩
def tX10_getsBy (a0 : Int32) (a1 : Int32) (a2 : Int32) (a3 : Int32) (a4 : Int32) (t : tS) : Option (Int32) :=
  Option.bind (
    if ¬ a0 = ((1 : Int32)) then
      if ¬ a1 = ((1 : Int32)) then
        some ((0 : Int32))
      else
        some a4
    else
      if ¬ a1 = ((1 : Int32)) then
        some a3
      else
        some (-a2)) fun js1 =>
  some js1
set_option maxHeartbeats 4000000 in
set_option maxRecDepth 100000 in
theorem sX10_getsBy {a0 : Int32} {a1 : Int32} {a2 : Int32} {a3 : Int32} {a4 : Int32} {h : am_H} {t : tS} {r : Int32} (hR_t : Rp h t)  (H : tX10_getsBy a0 a1 a2 a3 a4 t = some r) : ex (fX10_getsBy a0 a1 a2 a3 a4 h) (fun x => r = x) := by
  unfold tX10_getsBy at H
  unfold fX10_getsBy
  obtain ⟨js1, E5, H⟩ := am_bd H
  refine ex.j1 (Q := fun p => js1 = p) ?_ (fun z6 hq => ?_)
  · clear H
    have H := E5
    clear E5
    by_cases c2 : ¬ a0 = ((1 : Int32))
    · rw [if_pos c2] at H
      refine ex.t c2 ?_
      by_cases c3 : ¬ a1 = ((1 : Int32))
      · rw [if_pos c3] at H
        refine ex.t c3 ?_
        obtain rfl := Option.some.inj H
        exact ex.nd rfl
      · rw [if_neg c3] at H
        refine ex.f c3 ?_
        obtain rfl := Option.some.inj H
        exact ex.nd rfl
    · rw [if_neg c2] at H
      refine ex.f c2 ?_
      by_cases c4 : ¬ a1 = ((1 : Int32))
      · rw [if_pos c4] at H
        refine ex.t c4 ?_
        obtain rfl := Option.some.inj H
        exact ex.nd rfl
      · rw [if_neg c4] at H
        refine ex.f c4 ?_
        obtain rfl := Option.some.inj H
        exact ex.nd rfl
  · clear E5
    obtain rfl : js1 = z6 := hq
    obtain rfl := Option.some.inj H
    exact ex.nd rfl
def tX10_rests_L52 : Nat → Int32 → Int32 → Int32 → Int32 → Int32 → Int32 → Int32 → Int32 → tS → Option (Int32 × Int32)
  | 0, _, _, _, _, _, _, _, _, _ => none
  | n + 1, v1, v2, v3, v4, v5, v6, v7, v8, t =>
    if ((4 : Int32)) ≤ v8 then
      some (v6, v7)
    else
      if v5 = 0 then
        some (v6, v7)
      else
        (am_dv v8 ((2 : Int32))).bind fun q17 =>
        (am_rm' v8 ((2 : Int32))).bind fun q19 =>
        (tX10_getsBy (((1 : Int32)) - q17) q19 v1 v2 v3 t).bind fun x22 =>
        (tX10_getsBy q17 q19 v1 v2 v3 t).bind fun x25 =>
        Option.bind (
          if x25 < x22 then
            some ((0 : Int32))
          else
            (tX10_getsBy (((1 : Int32)) - q19) q17 v1 v2 v3 t).bind fun x30 =>
            (tX10_getsBy q19 q17 v1 v2 v3 t).bind fun x33 =>
            if x33 < x30 then
              some ((0 : Int32))
            else
              some ((1 : Int32))) fun js27 =>
        Option.bind (
          if js27 = 0 then
            some v7
          else
            if ¬ v6 = v4 then
              some v7
            else
              some v8) fun js36 =>
        Option.bind (
          if js27 = 0 then
            some ((0 : Int32))
          else
            some ((1 : Int32))) fun js39 =>
        tX10_rests_L52 n v1 v2 v3 v4 v5 (v6 + js39) js36 (v8 + (1 : Int32)) t
def tX10_rests (a1 : Int32) (a2 : Int32) (a3 : Int32) (a4 : Int32) (t : tS) : Option (Int32 × tS) :=
  (tX10_within a1 ((0 : Int32)) ((9 : Int32)) t).bind fun x2 =>
  Option.bind (
    if x2 = 0 then
      some ((0 : Int32))
    else
      (tX10_within a2 ((0 : Int32)) ((9 : Int32)) t).bind fun x7 =>
      if x7 = 0 then
        some ((0 : Int32))
      else
        (tX10_within a3 ((0 : Int32)) ((9 : Int32)) t).bind fun x11 =>
        if x11 = 0 then
          some ((0 : Int32))
        else
          if a4 < ((-1 : Int32)) then
            some ((0 : Int32))
          else
            some ((1 : Int32))) fun js4 =>
  am_b2 (tX10_rests_L52 4000 a1 a2 a3 a4 js4 ((0 : Int32)) ((-1 : Int32)) ((0 : Int32)) t) fun lw47 lw48 =>
  Option.bind (
    if js4 = 0 then
      some ((1 : Int32))
    else
      if a4 < 0 then
        some ((0 : Int32))
      else
        if lw48 < 0 then
          some ((1 : Int32))
        else
          some ((0 : Int32))) fun js52 =>
  (some (uI t 218 0 js52)).bind fun tt57 =>
  Option.bind (
    if (tt57.1 218 0) ≤ 0 then
      if 0 ≤ a4 then
        some lw48
      else
        some lw47
    else
      some ((0 : Int32))) fun js61 =>
  some (js61, tt57)
set_option maxHeartbeats 4000000 in
set_option maxRecDepth 100000 in
theorem sX10_rests_L52 : ∀ (n : Nat) (v1 : Int32) (v2 : Int32) (v3 : Int32) (v4 : Int32) (v5 : Int32) (v6 : Int32) (v7 : Int32) (v8 : Int32) (h : am_H) (t : tS) (w6 : Int32) (w7 : Int32), Rp h t → tX10_rests_L52 n v1 v2 v3 v4 v5 v6 v7 v8 t = some (w6, w7) → ex (fX10_rests_L52 n 218 v1 v2 v3 v4 v5 v6 v7 v8 h) (fun p => w6 = p.1 ∧ w7 = p.2) := by
  intro n
  induction n with
  | zero => intro _ _ _ _ _ _ _ _ _ _ _ _ _ H; cases H
  | succ n ih =>
    intro v1 v2 v3 v4 v5 v6 v7 v8 h t w6 w7 hR_t H
    rw [tX10_rests_L52] at H
    rw [fX10_rests_L52]
    by_cases c15 : ((4 : Int32)) ≤ v8
    · rw [if_pos c15] at H
      refine ex.t c15 ?_
      obtain ⟨rfl, rfl⟩ := am_inj2 H
      exact ex.nd ⟨rfl, rfl⟩
    · rw [if_neg c15] at H
      refine ex.f c15 ?_
      by_cases c16 : v5 = 0
      · rw [if_pos c16] at H
        refine ex.t c16 ?_
        obtain ⟨rfl, rfl⟩ := am_inj2 H
        exact ex.nd ⟨rfl, rfl⟩
      · rw [if_neg c16] at H
        refine ex.f c16 ?_
        obtain ⟨q17, e18, H⟩ := am_bd H
        refine ex.bd e18 ?_
        obtain ⟨q19, e20, H⟩ := am_bd H
        refine ex.bd e20 ?_
        obtain ⟨x22, e21, H⟩ := am_bd H
        refine ex.j1 (sX10_getsBy hR_t  e21) (fun z23 hz => ?_)
        obtain rfl : x22 = z23 := hz
        obtain ⟨x25, e24, H⟩ := am_bd H
        refine ex.j1 (sX10_getsBy hR_t  e24) (fun z26 hz => ?_)
        obtain rfl : x25 = z26 := hz
        obtain ⟨js27, E45, H⟩ := am_bd H
        refine ex.j1 (Q := fun p => js27 = p) ?_ (fun z46 hq => ?_)
        · clear H
          have H := E45
          clear E45
          by_cases c28 : x25 < x22
          · rw [if_pos c28] at H
            refine ex.t c28 ?_
            obtain rfl := Option.some.inj H
            exact ex.nd rfl
          · rw [if_neg c28] at H
            refine ex.f c28 ?_
            obtain ⟨x30, e29, H⟩ := am_bd H
            refine ex.j1 (sX10_getsBy hR_t  e29) (fun z31 hz => ?_)
            obtain rfl : x30 = z31 := hz
            obtain ⟨x33, e32, H⟩ := am_bd H
            refine ex.j1 (sX10_getsBy hR_t  e32) (fun z34 hz => ?_)
            obtain rfl : x33 = z34 := hz
            by_cases c35 : x33 < x30
            · rw [if_pos c35] at H
              refine ex.t c35 ?_
              obtain rfl := Option.some.inj H
              exact ex.nd rfl
            · rw [if_neg c35] at H
              refine ex.f c35 ?_
              obtain rfl := Option.some.inj H
              exact ex.nd rfl
        · clear E45
          obtain rfl : js27 = z46 := hq
          obtain ⟨js36, E43, H⟩ := am_bd H
          refine ex.j1 (Q := fun p => js36 = p) ?_ (fun z44 hq => ?_)
          · clear H
            have H := E43
            clear E43
            by_cases c37 : js27 = 0
            · rw [if_pos c37] at H
              refine ex.t c37 ?_
              obtain rfl := Option.some.inj H
              exact ex.nd rfl
            · rw [if_neg c37] at H
              refine ex.f c37 ?_
              by_cases c38 : ¬ v6 = v4
              · rw [if_pos c38] at H
                refine ex.t c38 ?_
                obtain rfl := Option.some.inj H
                exact ex.nd rfl
              · rw [if_neg c38] at H
                refine ex.f c38 ?_
                obtain rfl := Option.some.inj H
                exact ex.nd rfl
          · clear E43
            obtain rfl : js36 = z44 := hq
            obtain ⟨js39, E41, H⟩ := am_bd H
            refine ex.j1 (Q := fun p => js39 = p) ?_ (fun z42 hq => ?_)
            · clear H
              have H := E41
              clear E41
              by_cases c40 : js27 = 0
              · rw [if_pos c40] at H
                refine ex.t c40 ?_
                obtain rfl := Option.some.inj H
                exact ex.nd rfl
              · rw [if_neg c40] at H
                refine ex.f c40 ?_
                obtain rfl := Option.some.inj H
                exact ex.nd rfl
            · clear E41
              obtain rfl : js39 = z42 := hq
              exact ih _ _ _ _ _ _ _ _ _ _ _ _ hR_t  H
set_option maxHeartbeats 4000000 in
set_option maxRecDepth 100000 in
theorem sX10_rests {a1 : Int32} {a2 : Int32} {a3 : Int32} {a4 : Int32} {h : am_H} {t : tS} {r : Int32} {t1 : tS} (hR_t : Rp h t)  (H : tX10_rests a1 a2 a3 a4 t = some (r, t1)) : ex (fX10_rests 218 a1 a2 a3 a4 h) (fun p => r = p.1 ∧ Rp p.2 t1) := by
  unfold tX10_rests at H
  unfold fX10_rests
  refine ex.bd (r_isO hR_t lk9) ?_
  obtain ⟨x2, e1, H⟩ := am_bd H
  refine ex.j1 (sX10_within hR_t  e1) (fun z3 hz => ?_)
  obtain rfl : x2 = z3 := hz
  obtain ⟨js4, E68, H⟩ := am_bd H
  refine ex.j1 (Q := fun p => js4 = p) ?_ (fun z69 hq => ?_)
  · clear H
    have H := E68
    clear E68
    by_cases c5 : x2 = 0
    · rw [if_pos c5] at H
      refine ex.t c5 ?_
      obtain rfl := Option.some.inj H
      exact ex.nd rfl
    · rw [if_neg c5] at H
      refine ex.f c5 ?_
      obtain ⟨x7, e6, H⟩ := am_bd H
      refine ex.j1 (sX10_within hR_t  e6) (fun z8 hz => ?_)
      obtain rfl : x7 = z8 := hz
      by_cases c9 : x7 = 0
      · rw [if_pos c9] at H
        refine ex.t c9 ?_
        obtain rfl := Option.some.inj H
        exact ex.nd rfl
      · rw [if_neg c9] at H
        refine ex.f c9 ?_
        obtain ⟨x11, e10, H⟩ := am_bd H
        refine ex.j1 (sX10_within hR_t  e10) (fun z12 hz => ?_)
        obtain rfl : x11 = z12 := hz
        by_cases c13 : x11 = 0
        · rw [if_pos c13] at H
          refine ex.t c13 ?_
          obtain rfl := Option.some.inj H
          exact ex.nd rfl
        · rw [if_neg c13] at H
          refine ex.f c13 ?_
          by_cases c14 : a4 < ((-1 : Int32))
          · rw [if_pos c14] at H
            refine ex.t c14 ?_
            obtain rfl := Option.some.inj H
            exact ex.nd rfl
          · rw [if_neg c14] at H
            refine ex.f c14 ?_
            obtain rfl := Option.some.inj H
            exact ex.nd rfl
  · clear E68
    obtain rfl : js4 = z69 := hq
    obtain ⟨lw47, lw48, E51, H⟩ := am_bd2 H
    refine ex.j2 (sX10_rests_L52 _ _ _ _ _ _ _ _ _ _ _ _ _ hR_t  E51) (fun z49 z50 hq => ?_)
    clear E51
    obtain ⟨rfl, rfl⟩ : lw47 = z49 ∧ lw48 = z50 := hq
    obtain ⟨js52, E66, H⟩ := am_bd H
    refine ex.j1 (Q := fun p => js52 = p) ?_ (fun z67 hq => ?_)
    · clear H
      have H := E66
      clear E66
      by_cases c53 : js4 = 0
      · rw [if_pos c53] at H
        refine ex.t c53 ?_
        obtain rfl := Option.some.inj H
        exact ex.nd rfl
      · rw [if_neg c53] at H
        refine ex.f c53 ?_
        by_cases c54 : a4 < 0
        · rw [if_pos c54] at H
          refine ex.t c54 ?_
          obtain rfl := Option.some.inj H
          exact ex.nd rfl
        · rw [if_neg c54] at H
          refine ex.f c54 ?_
          by_cases c55 : lw48 < 0
          · rw [if_pos c55] at H
            refine ex.t c55 ?_
            obtain rfl := Option.some.inj H
            exact ex.nd rfl
          · rw [if_neg c55] at H
            refine ex.f c55 ?_
            obtain rfl := Option.some.inj H
            exact ex.nd rfl
    · clear E66
      obtain rfl : js52 = z67 := hq
      obtain ⟨tt57, et58, H⟩ := am_bd H
      obtain ⟨hh56, e59, hR_tt57⟩ := r_pI (k := 0) (x := js52) hR_t lk9 rfl rfl
      rw [Option.some.inj et58] at hR_tt57
      refine ex.bd e59 ?_
      refine ex.bd (r_gI hR_tt57 lk9 rfl) ?_
      obtain ⟨js61, E64, H⟩ := am_bd H
      refine ex.j1 (Q := fun p => js61 = p) ?_ (fun z65 hq => ?_)
      · clear H
        have H := E64
        clear E64
        by_cases c62 : (tt57.1 218 0) ≤ 0
        · rw [if_pos c62] at H
          refine ex.t c62 ?_
          by_cases c63 : 0 ≤ a4
          · rw [if_pos c63] at H
            refine ex.t c63 ?_
            obtain rfl := Option.some.inj H
            exact ex.nd rfl
          · rw [if_neg c63] at H
            refine ex.f c63 ?_
            obtain rfl := Option.some.inj H
            exact ex.nd rfl
        · rw [if_neg c62] at H
          refine ex.f c62 ?_
          obtain rfl := Option.some.inj H
          exact ex.nd rfl
      · clear E64
        obtain rfl : js61 = z65 := hq
        obtain ⟨rfl, rfl⟩ := am_inj2 H
        exact ex.nd ⟨rfl, hR_tt57⟩
def tX10_draw (a1 : Int32) (t : tS) : Option (Int32 × tS) :=
  (am_rmL (((t.2.2.2.1 218 31) * ((1103515245 : Int64))) + ((12345 : Int64))) ((2147483648 : Int64))).bind fun q2 =>
  (some (uJ t 218 31 q2)).bind fun tt5 =>
  (am_dvL (tt5.2.2.2.1 218 31) ((65536 : Int64))).bind fun q9 =>
  (am_rmL q9 a1.toInt64).bind fun q11 =>
  some (q11.toInt32, tt5)
set_option maxHeartbeats 4000000 in
set_option maxRecDepth 100000 in
theorem sX10_draw {a1 : Int32} {h : am_H} {t : tS} {r : Int32} {t1 : tS} (hR_t : Rp h t)  (H : tX10_draw a1 t = some (r, t1)) : ex (fX10_draw 218 a1 h) (fun p => r = p.1 ∧ Rp p.2 t1) := by
  unfold tX10_draw at H
  unfold fX10_draw
  refine ex.bd (r_isO hR_t lk9) ?_
  refine ex.bd (r_gL hR_t lk9 rfl) ?_
  obtain ⟨q2, e3, H⟩ := am_bd H
  refine ex.bd e3 ?_
  obtain ⟨tt5, et6, H⟩ := am_bd H
  obtain ⟨hh4, e7, hR_tt5⟩ := r_pL (k := 31) (x := q2) hR_t lk9 rfl rfl
  rw [Option.some.inj et6] at hR_tt5
  refine ex.bd e7 ?_
  refine ex.bd (r_gL hR_tt5 lk9 rfl) ?_
  obtain ⟨q9, e10, H⟩ := am_bd H
  refine ex.bd e10 ?_
  obtain ⟨q11, e12, H⟩ := am_bd H
  refine ex.bd e12 ?_
  obtain ⟨rfl, rfl⟩ := am_inj2 H
  exact ex.nd ⟨rfl, hR_tt5⟩
def tX10_drawsDeed  (t : tS) : Option (tS) :=
  am_b2 (tX10_draw ((6 : Int32)) t) fun x2 tt4 =>
  Option.bind (
    if ¬ x2 = 0 then
      if ¬ x2 = ((1 : Int32)) then
        some tt4
      else
        (tX10_days  tt4).bind fun x11 =>
        am_b2 (tX10_draw x11 tt4) fun x14 tt16 =>
        (tX10_houses  tt16).bind fun x19 =>
        am_b2 (tX10_draw x19 tt16) fun x22 tt24 =>
        (tX10_mayMove ((1034 : Int32)) x14 x22 tt24).bind fun x27 =>
        if x27 = 0 then
          some tt24
        else
          (tWA tt24 0 234 1081 (((1040 : Int32)) + x14) x22).bind fun tt32 =>
          some tt32
    else
      (tX10_days  tt4).bind fun x36 =>
      am_b2 (tX10_draw x36 tt4) fun x39 tt41 =>
      (tA tt41 234 1081 (((1040 : Int32)) + x39)).bind fun x44 =>
      Option.bind (
        if x44 < 0 then
          some tt41
        else
          (tX10_leaves ((1034 : Int32)) x39 tt41).bind fun tt51 =>
          some tt51) fun tt47 =>
      some tt47) fun tt7 =>
  some tt7
set_option maxHeartbeats 4000000 in
set_option maxRecDepth 100000 in
theorem sX10_drawsDeed  {h : am_H} {t : tS} {t1 : tS} (hR_t : Rp h t)  (H : tX10_drawsDeed  t = some t1) : ex (fX10_drawsDeed 218 h) (fun h1 => Rp h1 t1) := by
  unfold tX10_drawsDeed at H
  unfold fX10_drawsDeed
  refine ex.bd (r_isO hR_t lk9) ?_
  obtain ⟨x2, tt4, e1, H⟩ := am_bd2 H
  refine ex.j2 (sX10_draw hR_t  e1) (fun z5 hh3 hz => ?_)
  obtain ⟨rfl, hR_tt4⟩ : x2 = z5 ∧ Rp hh3 tt4 := hz
  obtain ⟨tt7, E53, H⟩ := am_bd H
  refine ex.j1 (Q := fun p => Rp p tt7) ?_ (fun hh6 hq => ?_)
  · clear H
    have H := E53
    clear E53
    by_cases c8 : ¬ x2 = 0
    · rw [if_pos c8] at H
      refine ex.t c8 ?_
      by_cases c9 : ¬ x2 = ((1 : Int32))
      · rw [if_pos c9] at H
        refine ex.t c9 ?_
        obtain rfl := Option.some.inj H
        exact ex.nd hR_tt4
      · rw [if_neg c9] at H
        refine ex.f c9 ?_
        obtain ⟨x11, e10, H⟩ := am_bd H
        refine ex.j1 (sX10_days hR_tt4  e10) (fun z12 hz => ?_)
        obtain rfl : x11 = z12 := hz
        obtain ⟨x14, tt16, e13, H⟩ := am_bd2 H
        refine ex.j2 (sX10_draw hR_tt4  e13) (fun z17 hh15 hz => ?_)
        obtain ⟨rfl, hR_tt16⟩ : x14 = z17 ∧ Rp hh15 tt16 := hz
        obtain ⟨x19, e18, H⟩ := am_bd H
        refine ex.j1 (sX10_houses hR_tt16  e18) (fun z20 hz => ?_)
        obtain rfl : x19 = z20 := hz
        obtain ⟨x22, tt24, e21, H⟩ := am_bd2 H
        refine ex.j2 (sX10_draw hR_tt16  e21) (fun z25 hh23 hz => ?_)
        obtain ⟨rfl, hR_tt24⟩ : x22 = z25 ∧ Rp hh23 tt24 := hz
        obtain ⟨x27, e26, H⟩ := am_bd H
        refine ex.j1 (sX10_mayMove hR_tt24  e26) (fun z28 hz => ?_)
        obtain rfl : x27 = z28 := hz
        by_cases c29 : x27 = 0
        · rw [if_pos c29] at H
          refine ex.t c29 ?_
          obtain rfl := Option.some.inj H
          exact ex.nd hR_tt24
        · rw [if_neg c29] at H
          refine ex.f c29 ?_
          refine ex.bd (r_gR hR_tt24 lk9 rfl) ?_
          obtain ⟨tt32, e33, H⟩ := am_bd H
          obtain ⟨hh31, e34, hR_tt32⟩ := r_sI hR_tt24 (la9_24 (a := 218) (by decide)) e33
          refine ex.bd e34 ?_
          obtain rfl := Option.some.inj H
          exact ex.nd hR_tt32
    · rw [if_neg c8] at H
      refine ex.f c8 ?_
      obtain ⟨x36, e35, H⟩ := am_bd H
      refine ex.j1 (sX10_days hR_tt4  e35) (fun z37 hz => ?_)
      obtain rfl : x36 = z37 := hz
      obtain ⟨x39, tt41, e38, H⟩ := am_bd2 H
      refine ex.j2 (sX10_draw hR_tt4  e38) (fun z42 hh40 hz => ?_)
      obtain ⟨rfl, hR_tt41⟩ : x39 = z42 ∧ Rp hh40 tt41 := hz
      refine ex.bd (r_gR hR_tt41 lk9 rfl) ?_
      obtain ⟨x44, e45, H⟩ := am_bd H
      refine ex.bd (r_aI hR_tt41 (la9_24 (a := 218) (by decide)) e45) ?_
      obtain ⟨tt47, E52, H⟩ := am_bd H
      refine ex.j1 (Q := fun p => Rp p tt47) ?_ (fun hh46 hq => ?_)
      · clear H
        have H := E52
        clear E52
        by_cases c48 : x44 < 0
        · rw [if_pos c48] at H
          refine ex.t c48 ?_
          obtain rfl := Option.some.inj H
          exact ex.nd hR_tt41
        · rw [if_neg c48] at H
          refine ex.f c48 ?_
          obtain ⟨tt51, e49, H⟩ := am_bd H
          refine ex.j1 (sX10_leaves hR_tt41  e49) (fun hh50 hR_tt51 => ?_)
          obtain rfl := Option.some.inj H
          exact ex.nd hR_tt51
      · clear E52
        have hR_tt47 : Rp hh46 tt47 := hq
        obtain rfl := Option.some.inj H
        exact ex.nd hR_tt47
  · clear E53
    have hR_tt7 : Rp hh6 tt7 := hq
    obtain rfl := Option.some.inj H
    exact ex.nd hR_tt7
def tX10_ages_L59 : Nat → Int32 → Int32 → Int32 → Int32 → tS → Option (Int32 × tS)
  | 0, _, _, _, _, _ => none
  | n + 1, v2, v3, v4, v5, t =>
    if v2 ≤ v5 then
      some (v4, t)
    else
      (tX10_days  t).bind fun x26 =>
      Option.bind (
        if x26 ≤ 0 then
          some t
        else
          (tX10_drawsDeed  t).bind fun tt33 =>
          some tt33) fun tt29 =>
      (tX10_passes ((1034 : Int32)) tt29).bind fun tt36 =>
      (tX10_bits (tt36.1 218 28) tt36).bind fun x39 =>
      tX10_ages_L59 n v2 v3 (v4 + x39) (v5 + (1 : Int32)) tt36
def tX10_ages_L107 : Nat → Int32 → Int32 → Int32 → Int32 → tS → Option (Int32)
  | 0, _, _, _, _, _ => none
  | n + 1, v3, v4, v5, v6, t =>
    (tX10_days  t).bind fun x48 =>
    if x48 ≤ v6 then
      some v5
    else
      (tA t 234 1081 (((1052 : Int32)) + v6)).bind fun x52 =>
      tX10_ages_L107 n v3 v4 (v5 + x52) (v6 + (1 : Int32)) t
def tX10_ages (a1 : Int32) (a2 : Int32) (a3 : Int32) (t : tS) : Option (Int32 × tS) :=
  (some (uI t 218 0 ((0 : Int32)))).bind fun tt2 =>
  (tX10_within a1 ((0 : Int32)) ((9999 : Int32)) tt2).bind fun x6 =>
  if x6 = 0 then
    some ((-1 : Int32), tt2)
  else
    (tX10_within a2 ((1 : Int32)) ((99 : Int32)) tt2).bind fun x10 =>
    if x10 = 0 then
      some ((-1 : Int32), tt2)
    else
      (tX10_within a3 ((0 : Int32)) ((2 : Int32)) tt2).bind fun x14 =>
      if ¬ x14 = 0 then
        (tX10_copies ((0 : Int32)) ((1034 : Int32)) ((30 : Int32)) tt2).bind fun tt19 =>
        (some (uJ tt19 218 31 a1.toInt64)).bind fun tt21 =>
        am_b2 (tX10_ages_L59 4000 a2 a3 ((0 : Int32)) ((0 : Int32)) tt21) fun lw42 tt44 =>
        Option.bind (tX10_ages_L107 4000 a3 lw42 ((0 : Int32)) ((0 : Int32)) tt44) fun lw54 =>
        Option.bind (
          if ¬ a3 = 0 then
            if ¬ a3 = ((1 : Int32)) then
              some lw54
            else
              (tA tt44 234 1081 ((1035 : Int32))).bind fun x61 =>
              (tA tt44 234 1081 ((1 : Int32))).bind fun x64 =>
              some (x61 - x64)
          else
            some lw42) fun js57 =>
        some (js57, tt44)
      else
        some ((-1 : Int32), tt2)
set_option maxHeartbeats 4000000 in
set_option maxRecDepth 100000 in
theorem sX10_ages_L59 : ∀ (n : Nat) (v2 : Int32) (v3 : Int32) (v4 : Int32) (v5 : Int32) (h : am_H) (t : tS) (w4 : Int32) (t1 : tS), Rp h t → tX10_ages_L59 n v2 v3 v4 v5 t = some (w4, t1) → ex (fX10_ages_L59 n 218 v2 v3 v4 v5 h) (fun p => w4 = p.1 ∧ Rp p.2 t1) := by
  intro n
  induction n with
  | zero => intro _ _ _ _ _ _ _ _ _ H; cases H
  | succ n ih =>
    intro v2 v3 v4 v5 h t w4 t1 hR_t H
    rw [tX10_ages_L59] at H
    rw [fX10_ages_L59]
    by_cases c24 : v2 ≤ v5
    · rw [if_pos c24] at H
      refine ex.t c24 ?_
      obtain ⟨rfl, rfl⟩ := am_inj2 H
      exact ex.nd ⟨rfl, hR_t⟩
    · rw [if_neg c24] at H
      refine ex.f c24 ?_
      obtain ⟨x26, e25, H⟩ := am_bd H
      refine ex.j1 (sX10_days hR_t  e25) (fun z27 hz => ?_)
      obtain rfl : x26 = z27 := hz
      obtain ⟨tt29, E41, H⟩ := am_bd H
      refine ex.j1 (Q := fun p => Rp p tt29) ?_ (fun hh28 hq => ?_)
      · clear H
        have H := E41
        clear E41
        by_cases c30 : x26 ≤ 0
        · rw [if_pos c30] at H
          refine ex.t c30 ?_
          obtain rfl := Option.some.inj H
          exact ex.nd hR_t
        · rw [if_neg c30] at H
          refine ex.f c30 ?_
          obtain ⟨tt33, e31, H⟩ := am_bd H
          refine ex.j1 (sX10_drawsDeed hR_t  e31) (fun hh32 hR_tt33 => ?_)
          obtain rfl := Option.some.inj H
          exact ex.nd hR_tt33
      · clear E41
        have hR_tt29 : Rp hh28 tt29 := hq
        obtain ⟨tt36, e34, H⟩ := am_bd H
        refine ex.j1 (sX10_passes hR_tt29  e34) (fun hh35 hR_tt36 => ?_)
        refine ex.bd (r_gI hR_tt36 lk9 rfl) ?_
        obtain ⟨x39, e38, H⟩ := am_bd H
        refine ex.j1 (sX10_bits hR_tt36  e38) (fun z40 hz => ?_)
        obtain rfl : x39 = z40 := hz
        exact ih _ _ _ _ _ _ _ _ hR_tt36  H
set_option maxHeartbeats 4000000 in
set_option maxRecDepth 100000 in
theorem sX10_ages_L107 : ∀ (n : Nat) (v3 : Int32) (v4 : Int32) (v5 : Int32) (v6 : Int32) (h : am_H) (t : tS) (w5 : Int32), Rp h t → tX10_ages_L107 n v3 v4 v5 v6 t = some w5 → ex (fX10_ages_L107 n 218 v3 v4 v5 v6 h) (fun p => w5 = p) := by
  intro n
  induction n with
  | zero => intro _ _ _ _ _ _ _ _ H; cases H
  | succ n ih =>
    intro v3 v4 v5 v6 h t w5 hR_t H
    rw [tX10_ages_L107] at H
    rw [fX10_ages_L107]
    obtain ⟨x48, e47, H⟩ := am_bd H
    refine ex.j1 (sX10_days hR_t  e47) (fun z49 hz => ?_)
    obtain rfl : x48 = z49 := hz
    by_cases c50 : x48 ≤ v6
    · rw [if_pos c50] at H
      refine ex.t c50 ?_
      obtain rfl := Option.some.inj H
      exact ex.nd rfl
    · rw [if_neg c50] at H
      refine ex.f c50 ?_
      refine ex.bd (r_gR hR_t lk9 rfl) ?_
      obtain ⟨x52, e53, H⟩ := am_bd H
      refine ex.bd (r_aI hR_t (la9_24 (a := 218) (by decide)) e53) ?_
      exact ih _ _ _ _ _ _ _ hR_t  H
set_option maxHeartbeats 4000000 in
set_option maxRecDepth 100000 in
theorem sX10_ages {a1 : Int32} {a2 : Int32} {a3 : Int32} {h : am_H} {t : tS} {r : Int32} {t1 : tS} (hR_t : Rp h t)  (H : tX10_ages a1 a2 a3 t = some (r, t1)) : ex (fX10_ages 218 a1 a2 a3 h) (fun p => r = p.1 ∧ Rp p.2 t1) := by
  unfold tX10_ages at H
  unfold fX10_ages
  refine ex.bd (r_isO hR_t lk9) ?_
  obtain ⟨tt2, et3, H⟩ := am_bd H
  obtain ⟨hh1, e4, hR_tt2⟩ := r_pI (k := 0) (x := (0 : Int32)) hR_t lk9 rfl rfl
  rw [Option.some.inj et3] at hR_tt2
  refine ex.bd e4 ?_
  obtain ⟨x6, e5, H⟩ := am_bd H
  refine ex.j1 (sX10_within hR_tt2  e5) (fun z7 hz => ?_)
  obtain rfl : x6 = z7 := hz
  by_cases c8 : x6 = 0
  · rw [if_pos c8] at H
    refine ex.t c8 ?_
    obtain ⟨rfl, rfl⟩ := am_inj2 H
    exact ex.nd ⟨rfl, hR_tt2⟩
  · rw [if_neg c8] at H
    refine ex.f c8 ?_
    obtain ⟨x10, e9, H⟩ := am_bd H
    refine ex.j1 (sX10_within hR_tt2  e9) (fun z11 hz => ?_)
    obtain rfl : x10 = z11 := hz
    by_cases c12 : x10 = 0
    · rw [if_pos c12] at H
      refine ex.t c12 ?_
      obtain ⟨rfl, rfl⟩ := am_inj2 H
      exact ex.nd ⟨rfl, hR_tt2⟩
    · rw [if_neg c12] at H
      refine ex.f c12 ?_
      obtain ⟨x14, e13, H⟩ := am_bd H
      refine ex.j1 (sX10_within hR_tt2  e13) (fun z15 hz => ?_)
      obtain rfl : x14 = z15 := hz
      by_cases c16 : ¬ x14 = 0
      · rw [if_pos c16] at H
        refine ex.t c16 ?_
        obtain ⟨tt19, e17, H⟩ := am_bd H
        refine ex.j1 (sX10_copies hR_tt2  e17) (fun hh18 hR_tt19 => ?_)
        obtain ⟨tt21, et22, H⟩ := am_bd H
        obtain ⟨hh20, e23, hR_tt21⟩ := r_pL (k := 31) (x := a1.toInt64) hR_tt19 lk9 rfl rfl
        rw [Option.some.inj et22] at hR_tt21
        refine ex.bd e23 ?_
        obtain ⟨lw42, tt44, E46, H⟩ := am_bd2 H
        refine ex.j2 (sX10_ages_L59 _ _ _ _ _ _ _ _ _ hR_tt21  E46) (fun z45 hh43 hq => ?_)
        clear E46
        obtain ⟨rfl, hR_tt44⟩ : lw42 = z45 ∧ Rp hh43 tt44 := hq
        obtain ⟨lw54, E56, H⟩ := am_bd H
        refine ex.j1 (sX10_ages_L107 _ _ _ _ _ _ _ _ hR_tt44  E56) (fun z55 hq => ?_)
        clear E56
        obtain rfl : lw54 = z55 := hq
        obtain ⟨js57, E66, H⟩ := am_bd H
        refine ex.j1 (Q := fun p => js57 = p) ?_ (fun z67 hq => ?_)
        · clear H
          have H := E66
          clear E66
          by_cases c58 : ¬ a3 = 0
          · rw [if_pos c58] at H
            refine ex.t c58 ?_
            by_cases c59 : ¬ a3 = ((1 : Int32))
            · rw [if_pos c59] at H
              refine ex.t c59 ?_
              obtain rfl := Option.some.inj H
              exact ex.nd rfl
            · rw [if_neg c59] at H
              refine ex.f c59 ?_
              refine ex.bd (r_gR hR_tt44 lk9 rfl) ?_
              obtain ⟨x61, e62, H⟩ := am_bd H
              refine ex.bd (r_aI hR_tt44 (la9_24 (a := 218) (by decide)) e62) ?_
              refine ex.bd (r_gR hR_tt44 lk9 rfl) ?_
              obtain ⟨x64, e65, H⟩ := am_bd H
              refine ex.bd (r_aI hR_tt44 (la9_24 (a := 218) (by decide)) e65) ?_
              obtain rfl := Option.some.inj H
              exact ex.nd rfl
          · rw [if_neg c58] at H
            refine ex.f c58 ?_
            obtain rfl := Option.some.inj H
            exact ex.nd rfl
        · clear E66
          obtain rfl : js57 = z67 := hq
          obtain ⟨rfl, rfl⟩ := am_inj2 H
          exact ex.nd ⟨rfl, hR_tt44⟩
      · rw [if_neg c16] at H
        refine ex.f c16 ?_
        obtain ⟨rfl, rfl⟩ := am_inj2 H
        exact ex.nd ⟨rfl, hR_tt2⟩
