/-! typed functions -/
def tX4_passHouse (a1 : Nat) (a2 : Int32) (t : tS) : Option (Int32 × tS) :=
  (tX8_houseNamed a1 (t.2.2.2.1 1 6) t).bind fun x3 =>
  am_b2 (tX4_passTold x3 a2 t) fun x6 tt8 =>
  (am_z01 x6).bind fun b10 =>
  some (b10, tt8)
set_option maxHeartbeats 4000000 in
set_option maxRecDepth 100000 in
theorem sX4_passHouse {a1 : Nat} {a2 : Int32} {h : am_H} {t : tS} {r : Int32} {t1 : tS} (hR_t : Rp h t) (i1 : ly_Is 7 a1) (H : tX4_passHouse a1 a2 t = some (r, t1)) : ex (fX4_passHouse 1 a1 a2 h) (fun p => r = p.1 ∧ Rp p.2 t1) := by
  unfold tX4_passHouse at H
  unfold fX4_passHouse
  refine ex.bd (r_gL hR_t lk6 rfl) ?_
  obtain ⟨x3, e2, H⟩ := am_bd H
  refine ex.j1 (sX8_houseNamed hR_t i1 e2) (fun z4 hz => ?_)
  obtain rfl : x3 = z4 := hz
  obtain ⟨x6, tt8, e5, H⟩ := am_bd2 H
  refine ex.j2 (sX4_passTold hR_t  e5) (fun z9 hh7 hz => ?_)
  obtain ⟨rfl, hR_tt8⟩ : x6 = z9 ∧ Rp hh7 tt8 := hz
  obtain ⟨b10, e11, H⟩ := am_bd H
  refine ex.bd e11 ?_
  obtain ⟨rfl, rfl⟩ := am_inj2 H
  exact ex.nd ⟨rfl, hR_tt8⟩
def tX4_passKind  (t : tS) : Option (Int32 × tS) :=
  (tX7_isWord 1000014 t).bind fun x2 =>
  if x2 = 0 then
    (tX7_isWord 1000015 t).bind fun x6 =>
    if x6 = 0 then
      (tX7_isWord 1000016 t).bind fun x10 =>
      if x10 = 0 then
        (tX7_isWord 1000017 t).bind fun x14 =>
        if x14 = 0 then
          am_b2 (tX7_refuse ((1 : Int32)) t) fun x18 tt20 =>
          (am_z01 x18).bind fun b22 =>
          some (b22, tt20)
        else
          (some (uI t 1 8 ((3 : Int32)))).bind fun tt25 =>
          (tX7_step  tt25).bind fun tt30 =>
          some ((1 : Int32), tt30)
      else
        (some (uI t 1 8 ((2 : Int32)))).bind fun tt32 =>
        (tX7_step  tt32).bind fun tt37 =>
        some ((1 : Int32), tt37)
    else
      (some (uI t 1 8 ((1 : Int32)))).bind fun tt39 =>
      (tX7_step  tt39).bind fun tt44 =>
      some ((1 : Int32), tt44)
  else
    (some (uI t 1 8 ((0 : Int32)))).bind fun tt46 =>
    (tX7_step  tt46).bind fun tt51 =>
    some ((1 : Int32), tt51)
set_option maxHeartbeats 4000000 in
set_option maxRecDepth 100000 in
theorem sX4_passKind  {h : am_H} {t : tS} {r : Int32} {t1 : tS} (hR_t : Rp h t)  (H : tX4_passKind  t = some (r, t1)) : ex (fX4_passKind 1 h) (fun p => r = p.1 ∧ Rp p.2 t1) := by
  unfold tX4_passKind at H
  unfold fX4_passKind
  obtain ⟨x2, e1, H⟩ := am_bd H
  refine ex.j1 (sX7_isWord hR_t  e1) (fun z3 hz => ?_)
  obtain rfl : x2 = z3 := hz
  by_cases c4 : x2 = 0
  · rw [if_pos c4] at H
    refine ex.t c4 ?_
    obtain ⟨x6, e5, H⟩ := am_bd H
    refine ex.j1 (sX7_isWord hR_t  e5) (fun z7 hz => ?_)
    obtain rfl : x6 = z7 := hz
    by_cases c8 : x6 = 0
    · rw [if_pos c8] at H
      refine ex.t c8 ?_
      obtain ⟨x10, e9, H⟩ := am_bd H
      refine ex.j1 (sX7_isWord hR_t  e9) (fun z11 hz => ?_)
      obtain rfl : x10 = z11 := hz
      by_cases c12 : x10 = 0
      · rw [if_pos c12] at H
        refine ex.t c12 ?_
        obtain ⟨x14, e13, H⟩ := am_bd H
        refine ex.j1 (sX7_isWord hR_t  e13) (fun z15 hz => ?_)
        obtain rfl : x14 = z15 := hz
        by_cases c16 : x14 = 0
        · rw [if_pos c16] at H
          refine ex.t c16 ?_
          obtain ⟨x18, tt20, e17, H⟩ := am_bd2 H
          refine ex.j2 (sX7_refuse hR_t  e17) (fun z21 hh19 hz => ?_)
          obtain ⟨rfl, hR_tt20⟩ : x18 = z21 ∧ Rp hh19 tt20 := hz
          obtain ⟨b22, e23, H⟩ := am_bd H
          refine ex.bd e23 ?_
          obtain ⟨rfl, rfl⟩ := am_inj2 H
          exact ex.nd ⟨rfl, hR_tt20⟩
        · rw [if_neg c16] at H
          refine ex.f c16 ?_
          obtain ⟨tt25, et26, H⟩ := am_bd H
          obtain ⟨hh24, e27, hR_tt25⟩ := r_pI (k := 8) (x := (3 : Int32)) hR_t lk6 rfl rfl
          rw [Option.some.inj et26] at hR_tt25
          refine ex.bd e27 ?_
          obtain ⟨tt30, e28, H⟩ := am_bd H
          refine ex.j1 (sX7_step hR_tt25  e28) (fun hh29 hR_tt30 => ?_)
          obtain ⟨rfl, rfl⟩ := am_inj2 H
          exact ex.nd ⟨rfl, hR_tt30⟩
      · rw [if_neg c12] at H
        refine ex.f c12 ?_
        obtain ⟨tt32, et33, H⟩ := am_bd H
        obtain ⟨hh31, e34, hR_tt32⟩ := r_pI (k := 8) (x := (2 : Int32)) hR_t lk6 rfl rfl
        rw [Option.some.inj et33] at hR_tt32
        refine ex.bd e34 ?_
        obtain ⟨tt37, e35, H⟩ := am_bd H
        refine ex.j1 (sX7_step hR_tt32  e35) (fun hh36 hR_tt37 => ?_)
        obtain ⟨rfl, rfl⟩ := am_inj2 H
        exact ex.nd ⟨rfl, hR_tt37⟩
    · rw [if_neg c8] at H
      refine ex.f c8 ?_
      obtain ⟨tt39, et40, H⟩ := am_bd H
      obtain ⟨hh38, e41, hR_tt39⟩ := r_pI (k := 8) (x := (1 : Int32)) hR_t lk6 rfl rfl
      rw [Option.some.inj et40] at hR_tt39
      refine ex.bd e41 ?_
      obtain ⟨tt44, e42, H⟩ := am_bd H
      refine ex.j1 (sX7_step hR_tt39  e42) (fun hh43 hR_tt44 => ?_)
      obtain ⟨rfl, rfl⟩ := am_inj2 H
      exact ex.nd ⟨rfl, hR_tt44⟩
  · rw [if_neg c4] at H
    refine ex.f c4 ?_
    obtain ⟨tt46, et47, H⟩ := am_bd H
    obtain ⟨hh45, e48, hR_tt46⟩ := r_pI (k := 8) (x := (0 : Int32)) hR_t lk6 rfl rfl
    rw [Option.some.inj et47] at hR_tt46
    refine ex.bd e48 ?_
    obtain ⟨tt51, e49, H⟩ := am_bd H
    refine ex.j1 (sX7_step hR_tt46  e49) (fun hh50 hR_tt51 => ?_)
    obtain ⟨rfl, rfl⟩ := am_inj2 H
    exact ex.nd ⟨rfl, hR_tt51⟩
def tX4_passNewName (a1 : Nat) (t : tS) : Option (Int32 × tS) :=
  (tX7_isName  t).bind fun x2 =>
  if ¬ x2 = 0 then
    (tX8_houseNamed a1 (t.2.2.2.1 1 6) t).bind fun x7 =>
    if ¬ x7 = ((-1 : Int32)) then
      am_b2 (tX7_refuse ((3 : Int32)) t) fun x11 tt13 =>
      (am_z01 x11).bind fun b15 =>
      some (b15, tt13)
    else
      (tX8_dayNamed a1 (t.2.2.2.1 1 6) t).bind fun x19 =>
      if x19 = ((-1 : Int32)) then
        (tX7_step  t).bind fun tt24 =>
        some ((1 : Int32), tt24)
      else
        am_b2 (tX7_refuse ((3 : Int32)) t) fun x26 tt28 =>
        (am_z01 x26).bind fun b30 =>
        some (b30, tt28)
  else
    am_b2 (tX7_refuse ((1 : Int32)) t) fun x33 tt35 =>
    (am_z01 x33).bind fun b37 =>
    some (b37, tt35)
set_option maxHeartbeats 4000000 in
set_option maxRecDepth 100000 in
theorem sX4_passNewName {a1 : Nat} {h : am_H} {t : tS} {r : Int32} {t1 : tS} (hR_t : Rp h t) (i1 : ly_Is 7 a1) (H : tX4_passNewName a1 t = some (r, t1)) : ex (fX4_passNewName 1 a1 h) (fun p => r = p.1 ∧ Rp p.2 t1) := by
  unfold tX4_passNewName at H
  unfold fX4_passNewName
  obtain ⟨x2, e1, H⟩ := am_bd H
  refine ex.j1 (sX7_isName hR_t  e1) (fun z3 hz => ?_)
  obtain rfl : x2 = z3 := hz
  by_cases c4 : ¬ x2 = 0
  · rw [if_pos c4] at H
    refine ex.t c4 ?_
    refine ex.bd (r_gL hR_t lk6 rfl) ?_
    obtain ⟨x7, e6, H⟩ := am_bd H
    refine ex.j1 (sX8_houseNamed hR_t i1 e6) (fun z8 hz => ?_)
    obtain rfl : x7 = z8 := hz
    by_cases c9 : ¬ x7 = ((-1 : Int32))
    · rw [if_pos c9] at H
      refine ex.t c9 ?_
      obtain ⟨x11, tt13, e10, H⟩ := am_bd2 H
      refine ex.j2 (sX7_refuse hR_t  e10) (fun z14 hh12 hz => ?_)
      obtain ⟨rfl, hR_tt13⟩ : x11 = z14 ∧ Rp hh12 tt13 := hz
      obtain ⟨b15, e16, H⟩ := am_bd H
      refine ex.bd e16 ?_
      obtain ⟨rfl, rfl⟩ := am_inj2 H
      exact ex.nd ⟨rfl, hR_tt13⟩
    · rw [if_neg c9] at H
      refine ex.f c9 ?_
      refine ex.bd (r_gL hR_t lk6 rfl) ?_
      obtain ⟨x19, e18, H⟩ := am_bd H
      refine ex.j1 (sX8_dayNamed hR_t i1 e18) (fun z20 hz => ?_)
      obtain rfl : x19 = z20 := hz
      by_cases c21 : x19 = ((-1 : Int32))
      · rw [if_pos c21] at H
        refine ex.t c21 ?_
        obtain ⟨tt24, e22, H⟩ := am_bd H
        refine ex.j1 (sX7_step hR_t  e22) (fun hh23 hR_tt24 => ?_)
        obtain ⟨rfl, rfl⟩ := am_inj2 H
        exact ex.nd ⟨rfl, hR_tt24⟩
      · rw [if_neg c21] at H
        refine ex.f c21 ?_
        obtain ⟨x26, tt28, e25, H⟩ := am_bd2 H
        refine ex.j2 (sX7_refuse hR_t  e25) (fun z29 hh27 hz => ?_)
        obtain ⟨rfl, hR_tt28⟩ : x26 = z29 ∧ Rp hh27 tt28 := hz
        obtain ⟨b30, e31, H⟩ := am_bd H
        refine ex.bd e31 ?_
        obtain ⟨rfl, rfl⟩ := am_inj2 H
        exact ex.nd ⟨rfl, hR_tt28⟩
  · rw [if_neg c4] at H
    refine ex.f c4 ?_
    obtain ⟨x33, tt35, e32, H⟩ := am_bd2 H
    refine ex.j2 (sX7_refuse hR_t  e32) (fun z36 hh34 hz => ?_)
    obtain ⟨rfl, hR_tt35⟩ : x33 = z36 ∧ Rp hh34 tt35 := hz
    obtain ⟨b37, e38, H⟩ := am_bd H
    refine ex.bd e38 ?_
    obtain ⟨rfl, rfl⟩ := am_inj2 H
    exact ex.nd ⟨rfl, hR_tt35⟩
def tX7_passNumber (a1 : Int32) (a2 : Int32) (t : tS) : Option (Int32 × tS) :=
  (tX7_isNumber  t).bind fun x2 =>
  if ¬ x2 = 0 then
    (tX9_within (t.1 1 5) a1 a2 t).bind fun x7 =>
    if ¬ x7 = 0 then
      (some (uI t 1 8 (t.1 1 5))).bind fun tt12 =>
      (tX7_step  tt12).bind fun tt17 =>
      some ((1 : Int32), tt17)
    else
      am_b2 (tX7_refuse ((4 : Int32)) t) fun x19 tt21 =>
      (am_z01 x19).bind fun b23 =>
      some (b23, tt21)
  else
    am_b2 (tX7_refuse ((1 : Int32)) t) fun x26 tt28 =>
    (am_z01 x26).bind fun b30 =>
    some (b30, tt28)
set_option maxHeartbeats 4000000 in
set_option maxRecDepth 100000 in
theorem sX7_passNumber {a1 : Int32} {a2 : Int32} {h : am_H} {t : tS} {r : Int32} {t1 : tS} (hR_t : Rp h t)  (H : tX7_passNumber a1 a2 t = some (r, t1)) : ex (fX7_passNumber 1 a1 a2 h) (fun p => r = p.1 ∧ Rp p.2 t1) := by
  unfold tX7_passNumber at H
  unfold fX7_passNumber
  refine ex.bd (r_isO hR_t lk6) ?_
  obtain ⟨x2, e1, H⟩ := am_bd H
  refine ex.j1 (sX7_isNumber hR_t  e1) (fun z3 hz => ?_)
  obtain rfl : x2 = z3 := hz
  by_cases c4 : ¬ x2 = 0
  · rw [if_pos c4] at H
    refine ex.t c4 ?_
    refine ex.bd (r_gI hR_t lk6 rfl) ?_
    obtain ⟨x7, e6, H⟩ := am_bd H
    refine ex.j1 (sX9_within hR_t  e6) (fun z8 hz => ?_)
    obtain rfl : x7 = z8 := hz
    by_cases c9 : ¬ x7 = 0
    · rw [if_pos c9] at H
      refine ex.t c9 ?_
      refine ex.bd (r_gI hR_t lk6 rfl) ?_
      obtain ⟨tt12, et13, H⟩ := am_bd H
      obtain ⟨hh11, e14, hR_tt12⟩ := r_pI (k := 8) (x := t.1 1 5) hR_t lk6 rfl rfl
      rw [Option.some.inj et13] at hR_tt12
      refine ex.bd e14 ?_
      obtain ⟨tt17, e15, H⟩ := am_bd H
      refine ex.j1 (sX7_step hR_tt12  e15) (fun hh16 hR_tt17 => ?_)
      obtain ⟨rfl, rfl⟩ := am_inj2 H
      exact ex.nd ⟨rfl, hR_tt17⟩
    · rw [if_neg c9] at H
      refine ex.f c9 ?_
      obtain ⟨x19, tt21, e18, H⟩ := am_bd2 H
      refine ex.j2 (sX7_refuse hR_t  e18) (fun z22 hh20 hz => ?_)
      obtain ⟨rfl, hR_tt21⟩ : x19 = z22 ∧ Rp hh20 tt21 := hz
      obtain ⟨b23, e24, H⟩ := am_bd H
      refine ex.bd e24 ?_
      obtain ⟨rfl, rfl⟩ := am_inj2 H
      exact ex.nd ⟨rfl, hR_tt21⟩
  · rw [if_neg c4] at H
    refine ex.f c4 ?_
    obtain ⟨x26, tt28, e25, H⟩ := am_bd2 H
    refine ex.j2 (sX7_refuse hR_t  e25) (fun z29 hh27 hz => ?_)
    obtain ⟨rfl, hR_tt28⟩ : x26 = z29 ∧ Rp hh27 tt28 := hz
    obtain ⟨b30, e31, H⟩ := am_bd H
    refine ex.bd e31 ?_
    obtain ⟨rfl, rfl⟩ := am_inj2 H
    exact ex.nd ⟨rfl, hR_tt28⟩
def tX7_passWord (a1 : Nat) (t : tS) : Option (Int32 × tS) :=
  (tX7_isWord a1 t).bind fun x2 =>
  if ¬ x2 = 0 then
    (tX7_step  t).bind fun tt7 =>
    some ((1 : Int32), tt7)
  else
    am_b2 (tX7_refuse ((1 : Int32)) t) fun x9 tt11 =>
    (am_z01 x9).bind fun b13 =>
    some (b13, tt11)
set_option maxHeartbeats 4000000 in
set_option maxRecDepth 100000 in
theorem sX7_passWord {a1 : Nat} {h : am_H} {t : tS} {r : Int32} {t1 : tS} (hR_t : Rp h t)  (H : tX7_passWord a1 t = some (r, t1)) : ex (fX7_passWord 1 a1 h) (fun p => r = p.1 ∧ Rp p.2 t1) := by
  unfold tX7_passWord at H
  unfold fX7_passWord
  refine ex.bd (r_isO hR_t lk6) ?_
  obtain ⟨x2, e1, H⟩ := am_bd H
  refine ex.j1 (sX7_isWord hR_t  e1) (fun z3 hz => ?_)
  obtain rfl : x2 = z3 := hz
  by_cases c4 : ¬ x2 = 0
  · rw [if_pos c4] at H
    refine ex.t c4 ?_
    obtain ⟨tt7, e5, H⟩ := am_bd H
    refine ex.j1 (sX7_step hR_t  e5) (fun hh6 hR_tt7 => ?_)
    obtain ⟨rfl, rfl⟩ := am_inj2 H
    exact ex.nd ⟨rfl, hR_tt7⟩
  · rw [if_neg c4] at H
    refine ex.f c4 ?_
    obtain ⟨x9, tt11, e8, H⟩ := am_bd2 H
    refine ex.j2 (sX7_refuse hR_t  e8) (fun z12 hh10 hz => ?_)
    obtain ⟨rfl, hR_tt11⟩ : x9 = z12 ∧ Rp hh10 tt11 := hz
    obtain ⟨b13, e14, H⟩ := am_bd H
    refine ex.bd e14 ?_
    obtain ⟨rfl, rfl⟩ := am_inj2 H
    exact ex.nd ⟨rfl, hR_tt11⟩
def tX8_addDay (a0 : Nat) (a1 : Int64) (a2 : Int32) (a3 : Int32) (a4 : Int32) (a5 : Int32) (t : tS) : Option (tS) :=
  Option.bind (
    if ((6 : Int32)) ≤ (t.1 a0 12) then
      some t
    else
      (tWB t (a0 + 4) 6 (t.1 a0 12) a1).bind fun tt8 =>
      (tWA tt8 0 (a0 + 5) 6 (tt8.1 a0 12) a2).bind fun tt14 =>
      (tWA tt14 0 (a0 + 6) 6 (tt14.1 a0 12) a3).bind fun tt20 =>
      (tWA tt20 0 (a0 + 7) 6 (tt20.1 a0 12) a4).bind fun tt26 =>
      (tWA tt26 0 (a0 + 8) 6 (tt26.1 a0 12) a5).bind fun tt32 =>
      Option.bind (
        if ¬ a2 = ((1 : Int32)) then
          some ((1 : Int32))
        else
          some ((2 : Int32))) fun js37 =>
      (tWA tt32 0 (a0 + 10) 6 (tt32.1 a0 12) js37).bind fun tt40 =>
      (some (uI tt40 a0 12 ((tt40.1 a0 12) + ((1 : Int32))))).bind fun tt45 =>
      some tt45) fun tt3 =>
  some tt3
set_option maxHeartbeats 4000000 in
set_option maxRecDepth 100000 in
theorem sX8_addDay {a0 : Nat} {a1 : Int64} {a2 : Int32} {a3 : Int32} {a4 : Int32} {a5 : Int32} {h : am_H} {t : tS} {t1 : tS} (hR_t : Rp h t) (i0 : ly_Is 7 a0) (H : tX8_addDay a0 a1 a2 a3 a4 a5 t = some t1) : ex (fX8_addDay a0 a1 a2 a3 a4 a5 h) (fun h1 => Rp h1 t1) := by
  unfold tX8_addDay at H
  unfold fX8_addDay
  refine ex.bd (r_isO hR_t (lc7 i0)) ?_
  refine ex.bd (r_gI hR_t (lc7 i0) rfl) ?_
  obtain ⟨tt3, E50, H⟩ := am_bd H
  refine ex.j1 (Q := fun p => Rp p tt3) ?_ (fun hh2 hq => ?_)
  · clear H
    have H := E50
    clear E50
    by_cases c4 : ((6 : Int32)) ≤ (t.1 a0 12)
    · rw [if_pos c4] at H
      refine ex.t c4 ?_
      obtain rfl := Option.some.inj H
      exact ex.nd hR_t
    · rw [if_neg c4] at H
      refine ex.f c4 ?_
      refine ex.bd (r_gR hR_t (lc7 i0) rfl) ?_
      refine ex.bd (r_gI hR_t (lc7 i0) rfl) ?_
      obtain ⟨tt8, e9, H⟩ := am_bd H
      obtain ⟨hh7, e10, hR_tt8⟩ := r_sL hR_t (la7_3 i0) e9
      refine ex.bd e10 ?_
      refine ex.bd (r_gR hR_tt8 (lc7 i0) rfl) ?_
      refine ex.bd (r_gI hR_tt8 (lc7 i0) rfl) ?_
      obtain ⟨tt14, e15, H⟩ := am_bd H
      obtain ⟨hh13, e16, hR_tt14⟩ := r_sI hR_tt8 (la7_4 i0) e15
      refine ex.bd e16 ?_
      refine ex.bd (r_gR hR_tt14 (lc7 i0) rfl) ?_
      refine ex.bd (r_gI hR_tt14 (lc7 i0) rfl) ?_
      obtain ⟨tt20, e21, H⟩ := am_bd H
      obtain ⟨hh19, e22, hR_tt20⟩ := r_sI hR_tt14 (la7_5 i0) e21
      refine ex.bd e22 ?_
      refine ex.bd (r_gR hR_tt20 (lc7 i0) rfl) ?_
      refine ex.bd (r_gI hR_tt20 (lc7 i0) rfl) ?_
      obtain ⟨tt26, e27, H⟩ := am_bd H
      obtain ⟨hh25, e28, hR_tt26⟩ := r_sI hR_tt20 (la7_6 i0) e27
      refine ex.bd e28 ?_
      refine ex.bd (r_gR hR_tt26 (lc7 i0) rfl) ?_
      refine ex.bd (r_gI hR_tt26 (lc7 i0) rfl) ?_
      obtain ⟨tt32, e33, H⟩ := am_bd H
      obtain ⟨hh31, e34, hR_tt32⟩ := r_sI hR_tt26 (la7_7 i0) e33
      refine ex.bd e34 ?_
      refine ex.bd (r_gR hR_tt32 (lc7 i0) rfl) ?_
      refine ex.bd (r_gI hR_tt32 (lc7 i0) rfl) ?_
      obtain ⟨js37, E48, H⟩ := am_bd H
      refine ex.j1 (Q := fun p => js37 = p) ?_ (fun z49 hq => ?_)
      · clear H
        have H := E48
        clear E48
        by_cases c38 : ¬ a2 = ((1 : Int32))
        · rw [if_pos c38] at H
          refine ex.t c38 ?_
          obtain rfl := Option.some.inj H
          exact ex.nd rfl
        · rw [if_neg c38] at H
          refine ex.f c38 ?_
          obtain rfl := Option.some.inj H
          exact ex.nd rfl
      · clear E48
        obtain rfl : js37 = z49 := hq
        obtain ⟨tt40, e41, H⟩ := am_bd H
        obtain ⟨hh39, e42, hR_tt40⟩ := r_sI hR_tt32 (la7_9 i0) e41
        refine ex.bd e42 ?_
        refine ex.bd (r_gI hR_tt40 (lc7 i0) rfl) ?_
        obtain ⟨tt45, et46, H⟩ := am_bd H
        obtain ⟨hh44, e47, hR_tt45⟩ := r_pI (k := 12) (x := (tt40.1 a0 12) + ((1 : Int32))) hR_tt40 (lc7 i0) rfl rfl
        rw [Option.some.inj et46] at hR_tt45
        refine ex.bd e47 ?_
        obtain rfl := Option.some.inj H
        exact ex.nd hR_tt45
  · clear E50
    have hR_tt3 : Rp hh2 tt3 := hq
    obtain rfl := Option.some.inj H
    exact ex.nd hR_tt3
def tX4_readDay (a1 : Nat) (t : tS) : Option (Int32 × tS) :=
  if (t.1 a1 12) < ((6 : Int32)) then
    (tX7_step  t).bind fun tt5 =>
    am_b2 (tX4_passNewName a1 tt5) fun x8 tt10 =>
    if x8 = 0 then
      some ((0 : Int32), tt10)
    else
      am_b2 (tX4_passKind  tt10) fun x14 tt16 =>
      if ¬ x14 = 0 then
        am_b2 (tX7_passWord 1000004 tt16) fun x21 tt23 =>
        if x21 = 0 then
          some ((0 : Int32), tt23)
        else
          am_b2 (tX4_passHouse a1 ((0 : Int32)) tt23) fun x27 tt29 =>
          if ¬ x27 = 0 then
            am_b2 (tX7_passWord 1000005 tt29) fun x34 tt36 =>
            if x34 = 0 then
              some ((0 : Int32), tt36)
            else
              am_b2 (tX7_passNumber ((0 : Int32)) ((11 : Int32)) tt36) fun x40 tt42 =>
              if ¬ x40 = 0 then
                am_b2 (tX7_passWord 1000006 tt42) fun x47 tt49 =>
                if x47 = 0 then
                  some ((0 : Int32), tt49)
                else
                  am_b2 (tX7_passNumber ((0 : Int32)) ((40 : Int32)) tt49) fun x53 tt55 =>
                  if ¬ x53 = 0 then
                    (tX8_addDay a1 (tt5.2.2.2.1 1 6) (tt16.1 1 8) (tt29.1 1 8) (tt42.1 1 8) (tt55.1 1 8) tt55).bind fun tt61 =>
                    am_b2 (tX7_passSign ((59 : Int32)) tt61) fun x63 tt65 =>
                    (am_z01 x63).bind fun b67 =>
                    some (b67, tt65)
                  else
                    some ((0 : Int32), tt55)
              else
                some ((0 : Int32), tt42)
          else
            some ((0 : Int32), tt29)
      else
        some ((0 : Int32), tt16)
  else
    am_b2 (tX7_refuse ((5 : Int32)) t) fun x70 tt72 =>
    (am_z01 x70).bind fun b74 =>
    some (b74, tt72)
set_option maxHeartbeats 4000000 in
set_option maxRecDepth 100000 in
theorem sX4_readDay {a1 : Nat} {h : am_H} {t : tS} {r : Int32} {t1 : tS} (hR_t : Rp h t) (i1 : ly_Is 7 a1) (H : tX4_readDay a1 t = some (r, t1)) : ex (fX4_readDay 1 a1 h) (fun p => r = p.1 ∧ Rp p.2 t1) := by
  unfold tX4_readDay at H
  unfold fX4_readDay
  refine ex.bd (r_gI hR_t (lc7 i1) rfl) ?_
  by_cases c2 : (t.1 a1 12) < ((6 : Int32))
  · rw [if_pos c2] at H
    refine ex.t c2 ?_
    obtain ⟨tt5, e3, H⟩ := am_bd H
    refine ex.j1 (sX7_step hR_t  e3) (fun hh4 hR_tt5 => ?_)
    refine ex.bd (r_gL hR_tt5 lk6 rfl) ?_
    obtain ⟨x8, tt10, e7, H⟩ := am_bd2 H
    refine ex.j2 (sX4_passNewName hR_tt5 i1 e7) (fun z11 hh9 hz => ?_)
    obtain ⟨rfl, hR_tt10⟩ : x8 = z11 ∧ Rp hh9 tt10 := hz
    by_cases c12 : x8 = 0
    · rw [if_pos c12] at H
      refine ex.t c12 ?_
      obtain ⟨rfl, rfl⟩ := am_inj2 H
      exact ex.nd ⟨rfl, hR_tt10⟩
    · rw [if_neg c12] at H
      refine ex.f c12 ?_
      obtain ⟨x14, tt16, e13, H⟩ := am_bd2 H
      refine ex.j2 (sX4_passKind hR_tt10  e13) (fun z17 hh15 hz => ?_)
      obtain ⟨rfl, hR_tt16⟩ : x14 = z17 ∧ Rp hh15 tt16 := hz
      by_cases c18 : ¬ x14 = 0
      · rw [if_pos c18] at H
        refine ex.t c18 ?_
        refine ex.bd (r_gI hR_tt16 lk6 rfl) ?_
        obtain ⟨x21, tt23, e20, H⟩ := am_bd2 H
        refine ex.j2 (sX7_passWord hR_tt16  e20) (fun z24 hh22 hz => ?_)
        obtain ⟨rfl, hR_tt23⟩ : x21 = z24 ∧ Rp hh22 tt23 := hz
        by_cases c25 : x21 = 0
        · rw [if_pos c25] at H
          refine ex.t c25 ?_
          obtain ⟨rfl, rfl⟩ := am_inj2 H
          exact ex.nd ⟨rfl, hR_tt23⟩
        · rw [if_neg c25] at H
          refine ex.f c25 ?_
          obtain ⟨x27, tt29, e26, H⟩ := am_bd2 H
          refine ex.j2 (sX4_passHouse hR_tt23 i1 e26) (fun z30 hh28 hz => ?_)
          obtain ⟨rfl, hR_tt29⟩ : x27 = z30 ∧ Rp hh28 tt29 := hz
          by_cases c31 : ¬ x27 = 0
          · rw [if_pos c31] at H
            refine ex.t c31 ?_
            refine ex.bd (r_gI hR_tt29 lk6 rfl) ?_
            obtain ⟨x34, tt36, e33, H⟩ := am_bd2 H
            refine ex.j2 (sX7_passWord hR_tt29  e33) (fun z37 hh35 hz => ?_)
            obtain ⟨rfl, hR_tt36⟩ : x34 = z37 ∧ Rp hh35 tt36 := hz
            by_cases c38 : x34 = 0
            · rw [if_pos c38] at H
              refine ex.t c38 ?_
              obtain ⟨rfl, rfl⟩ := am_inj2 H
              exact ex.nd ⟨rfl, hR_tt36⟩
            · rw [if_neg c38] at H
              refine ex.f c38 ?_
              obtain ⟨x40, tt42, e39, H⟩ := am_bd2 H
              refine ex.j2 (sX7_passNumber hR_tt36  e39) (fun z43 hh41 hz => ?_)
              obtain ⟨rfl, hR_tt42⟩ : x40 = z43 ∧ Rp hh41 tt42 := hz
              by_cases c44 : ¬ x40 = 0
              · rw [if_pos c44] at H
                refine ex.t c44 ?_
                refine ex.bd (r_gI hR_tt42 lk6 rfl) ?_
                obtain ⟨x47, tt49, e46, H⟩ := am_bd2 H
                refine ex.j2 (sX7_passWord hR_tt42  e46) (fun z50 hh48 hz => ?_)
                obtain ⟨rfl, hR_tt49⟩ : x47 = z50 ∧ Rp hh48 tt49 := hz
                by_cases c51 : x47 = 0
                · rw [if_pos c51] at H
                  refine ex.t c51 ?_
                  obtain ⟨rfl, rfl⟩ := am_inj2 H
                  exact ex.nd ⟨rfl, hR_tt49⟩
                · rw [if_neg c51] at H
                  refine ex.f c51 ?_
                  obtain ⟨x53, tt55, e52, H⟩ := am_bd2 H
                  refine ex.j2 (sX7_passNumber hR_tt49  e52) (fun z56 hh54 hz => ?_)
                  obtain ⟨rfl, hR_tt55⟩ : x53 = z56 ∧ Rp hh54 tt55 := hz
                  by_cases c57 : ¬ x53 = 0
                  · rw [if_pos c57] at H
                    refine ex.t c57 ?_
                    refine ex.bd (r_gI hR_tt55 lk6 rfl) ?_
                    obtain ⟨tt61, e59, H⟩ := am_bd H
                    refine ex.j1 (sX8_addDay hR_tt55 i1 e59) (fun hh60 hR_tt61 => ?_)
                    obtain ⟨x63, tt65, e62, H⟩ := am_bd2 H
                    refine ex.j2 (sX7_passSign hR_tt61  e62) (fun z66 hh64 hz => ?_)
                    obtain ⟨rfl, hR_tt65⟩ : x63 = z66 ∧ Rp hh64 tt65 := hz
                    obtain ⟨b67, e68, H⟩ := am_bd H
                    refine ex.bd e68 ?_
                    obtain ⟨rfl, rfl⟩ := am_inj2 H
                    exact ex.nd ⟨rfl, hR_tt65⟩
                  · rw [if_neg c57] at H
                    refine ex.f c57 ?_
                    obtain ⟨rfl, rfl⟩ := am_inj2 H
                    exact ex.nd ⟨rfl, hR_tt55⟩
              · rw [if_neg c44] at H
                refine ex.f c44 ?_
                obtain ⟨rfl, rfl⟩ := am_inj2 H
                exact ex.nd ⟨rfl, hR_tt42⟩
          · rw [if_neg c31] at H
            refine ex.f c31 ?_
            obtain ⟨rfl, rfl⟩ := am_inj2 H
            exact ex.nd ⟨rfl, hR_tt29⟩
      · rw [if_neg c18] at H
        refine ex.f c18 ?_
        obtain ⟨rfl, rfl⟩ := am_inj2 H
        exact ex.nd ⟨rfl, hR_tt16⟩
  · rw [if_neg c2] at H
    refine ex.f c2 ?_
    obtain ⟨x70, tt72, e69, H⟩ := am_bd2 H
    refine ex.j2 (sX7_refuse hR_t  e69) (fun z73 hh71 hz => ?_)
    obtain ⟨rfl, hR_tt72⟩ : x70 = z73 ∧ Rp hh71 tt72 := hz
    obtain ⟨b74, e75, H⟩ := am_bd H
    refine ex.bd e75 ?_
    obtain ⟨rfl, rfl⟩ := am_inj2 H
    exact ex.nd ⟨rfl, hR_tt72⟩
def tX8_addHouse (a0 : Nat) (a1 : Int64) (a2 : Int32) (t : tS) : Option (tS) :=
  Option.bind (
    if ((4 : Int32)) ≤ (t.1 a0 11) then
      some t
    else
      (tWB t (a0 + 1) 4 (t.1 a0 11) a1).bind fun tt8 =>
      (tWA tt8 0 (a0 + 2) 4 (tt8.1 a0 11) a2).bind fun tt14 =>
      (some (uI tt14 a0 11 ((tt14.1 a0 11) + ((1 : Int32))))).bind fun tt19 =>
      some tt19) fun tt3 =>
  some tt3
set_option maxHeartbeats 4000000 in
set_option maxRecDepth 100000 in
theorem sX8_addHouse {a0 : Nat} {a1 : Int64} {a2 : Int32} {h : am_H} {t : tS} {t1 : tS} (hR_t : Rp h t) (i0 : ly_Is 7 a0) (H : tX8_addHouse a0 a1 a2 t = some t1) : ex (fX8_addHouse a0 a1 a2 h) (fun h1 => Rp h1 t1) := by
  unfold tX8_addHouse at H
  unfold fX8_addHouse
  refine ex.bd (r_isO hR_t (lc7 i0)) ?_
  refine ex.bd (r_gI hR_t (lc7 i0) rfl) ?_
  obtain ⟨tt3, E22, H⟩ := am_bd H
  refine ex.j1 (Q := fun p => Rp p tt3) ?_ (fun hh2 hq => ?_)
  · clear H
    have H := E22
    clear E22
    by_cases c4 : ((4 : Int32)) ≤ (t.1 a0 11)
    · rw [if_pos c4] at H
      refine ex.t c4 ?_
      obtain rfl := Option.some.inj H
      exact ex.nd hR_t
    · rw [if_neg c4] at H
      refine ex.f c4 ?_
      refine ex.bd (r_gR hR_t (lc7 i0) rfl) ?_
      refine ex.bd (r_gI hR_t (lc7 i0) rfl) ?_
      obtain ⟨tt8, e9, H⟩ := am_bd H
      obtain ⟨hh7, e10, hR_tt8⟩ := r_sL hR_t (la7_0 i0) e9
      refine ex.bd e10 ?_
      refine ex.bd (r_gR hR_tt8 (lc7 i0) rfl) ?_
      refine ex.bd (r_gI hR_tt8 (lc7 i0) rfl) ?_
      obtain ⟨tt14, e15, H⟩ := am_bd H
      obtain ⟨hh13, e16, hR_tt14⟩ := r_sI hR_tt8 (la7_1 i0) e15
      refine ex.bd e16 ?_
      refine ex.bd (r_gI hR_tt14 (lc7 i0) rfl) ?_
      obtain ⟨tt19, et20, H⟩ := am_bd H
      obtain ⟨hh18, e21, hR_tt19⟩ := r_pI (k := 11) (x := (tt14.1 a0 11) + ((1 : Int32))) hR_tt14 (lc7 i0) rfl rfl
      rw [Option.some.inj et20] at hR_tt19
      refine ex.bd e21 ?_
      obtain rfl := Option.some.inj H
      exact ex.nd hR_tt19
  · clear E22
    have hR_tt3 : Rp hh2 tt3 := hq
    obtain rfl := Option.some.inj H
    exact ex.nd hR_tt3
def tX4_readHouse (a1 : Nat) (t : tS) : Option (Int32 × tS) :=
  if (t.1 a1 11) < ((4 : Int32)) then
    (tX7_step  t).bind fun tt5 =>
    am_b2 (tX4_passNewName a1 tt5) fun x8 tt10 =>
    if x8 = 0 then
      some ((0 : Int32), tt10)
    else
      am_b2 (tX7_passWord 1000001 tt10) fun x14 tt16 =>
      if x14 = 0 then
        some ((0 : Int32), tt16)
      else
        am_b2 (tX7_passNumber ((1 : Int32)) ((6 : Int32)) tt16) fun x20 tt22 =>
        if ¬ x20 = 0 then
          (tX8_addHouse a1 (tt5.2.2.2.1 1 6) (tt22.1 1 8) tt22).bind fun tt28 =>
          am_b2 (tX7_passSign ((59 : Int32)) tt28) fun x30 tt32 =>
          (am_z01 x30).bind fun b34 =>
          some (b34, tt32)
        else
          some ((0 : Int32), tt22)
  else
    am_b2 (tX7_refuse ((5 : Int32)) t) fun x37 tt39 =>
    (am_z01 x37).bind fun b41 =>
    some (b41, tt39)
set_option maxHeartbeats 4000000 in
set_option maxRecDepth 100000 in
theorem sX4_readHouse {a1 : Nat} {h : am_H} {t : tS} {r : Int32} {t1 : tS} (hR_t : Rp h t) (i1 : ly_Is 7 a1) (H : tX4_readHouse a1 t = some (r, t1)) : ex (fX4_readHouse 1 a1 h) (fun p => r = p.1 ∧ Rp p.2 t1) := by
  unfold tX4_readHouse at H
  unfold fX4_readHouse
  refine ex.bd (r_gI hR_t (lc7 i1) rfl) ?_
  by_cases c2 : (t.1 a1 11) < ((4 : Int32))
  · rw [if_pos c2] at H
    refine ex.t c2 ?_
    obtain ⟨tt5, e3, H⟩ := am_bd H
    refine ex.j1 (sX7_step hR_t  e3) (fun hh4 hR_tt5 => ?_)
    refine ex.bd (r_gL hR_tt5 lk6 rfl) ?_
    obtain ⟨x8, tt10, e7, H⟩ := am_bd2 H
    refine ex.j2 (sX4_passNewName hR_tt5 i1 e7) (fun z11 hh9 hz => ?_)
    obtain ⟨rfl, hR_tt10⟩ : x8 = z11 ∧ Rp hh9 tt10 := hz
    by_cases c12 : x8 = 0
    · rw [if_pos c12] at H
      refine ex.t c12 ?_
      obtain ⟨rfl, rfl⟩ := am_inj2 H
      exact ex.nd ⟨rfl, hR_tt10⟩
    · rw [if_neg c12] at H
      refine ex.f c12 ?_
      obtain ⟨x14, tt16, e13, H⟩ := am_bd2 H
      refine ex.j2 (sX7_passWord hR_tt10  e13) (fun z17 hh15 hz => ?_)
      obtain ⟨rfl, hR_tt16⟩ : x14 = z17 ∧ Rp hh15 tt16 := hz
      by_cases c18 : x14 = 0
      · rw [if_pos c18] at H
        refine ex.t c18 ?_
        obtain ⟨rfl, rfl⟩ := am_inj2 H
        exact ex.nd ⟨rfl, hR_tt16⟩
      · rw [if_neg c18] at H
        refine ex.f c18 ?_
        obtain ⟨x20, tt22, e19, H⟩ := am_bd2 H
        refine ex.j2 (sX7_passNumber hR_tt16  e19) (fun z23 hh21 hz => ?_)
        obtain ⟨rfl, hR_tt22⟩ : x20 = z23 ∧ Rp hh21 tt22 := hz
        by_cases c24 : ¬ x20 = 0
        · rw [if_pos c24] at H
          refine ex.t c24 ?_
          refine ex.bd (r_gI hR_tt22 lk6 rfl) ?_
          obtain ⟨tt28, e26, H⟩ := am_bd H
          refine ex.j1 (sX8_addHouse hR_tt22 i1 e26) (fun hh27 hR_tt28 => ?_)
          obtain ⟨x30, tt32, e29, H⟩ := am_bd2 H
          refine ex.j2 (sX7_passSign hR_tt28  e29) (fun z33 hh31 hz => ?_)
          obtain ⟨rfl, hR_tt32⟩ : x30 = z33 ∧ Rp hh31 tt32 := hz
          obtain ⟨b34, e35, H⟩ := am_bd H
          refine ex.bd e35 ?_
          obtain ⟨rfl, rfl⟩ := am_inj2 H
          exact ex.nd ⟨rfl, hR_tt32⟩
        · rw [if_neg c24] at H
          refine ex.f c24 ?_
          obtain ⟨rfl, rfl⟩ := am_inj2 H
          exact ex.nd ⟨rfl, hR_tt22⟩
  · rw [if_neg c2] at H
    refine ex.f c2 ?_
    obtain ⟨x37, tt39, e36, H⟩ := am_bd2 H
    refine ex.j2 (sX7_refuse hR_t  e36) (fun z40 hh38 hz => ?_)
    obtain ⟨rfl, hR_tt39⟩ : x37 = z40 ∧ Rp hh38 tt39 := hz
    obtain ⟨b41, e42, H⟩ := am_bd H
    refine ex.bd e42 ?_
    obtain ⟨rfl, rfl⟩ := am_inj2 H
    exact ex.nd ⟨rfl, hR_tt39⟩
def tX4_readLends (a1 : Nat) (t : tS) : Option (Int32 × tS) :=
  (tX7_step  t).bind fun tt3 =>
  am_b2 (tX4_passHouse a1 ((0 : Int32)) tt3) fun x5 tt7 =>
  if ¬ x5 = 0 then
    (tA tt7 (a1 + 3) 4 (tt7.1 1 8)).bind fun x12 =>
    am_b2 (tX4_passHouse a1 ((((1 : Int32)) <<< ((tt7.1 1 8) &&& 31)) ||| x12) tt7) fun x15 tt17 =>
    if ¬ x15 = 0 then
      (tA tt17 (a1 + 3) 4 (tt7.1 1 8)).bind fun x22 =>
      (tWA tt17 0 (a1 + 3) 4 (tt7.1 1 8) (x22 ||| (((1 : Int32)) <<< ((tt17.1 1 8) &&& 31)))).bind fun tt25 =>
      (tA tt25 (a1 + 3) 4 (tt17.1 1 8)).bind fun x29 =>
      (tWA tt25 0 (a1 + 3) 4 (tt17.1 1 8) (x29 ||| (((1 : Int32)) <<< ((tt7.1 1 8) &&& 31)))).bind fun tt32 =>
      am_b2 (tX7_passSign ((59 : Int32)) tt32) fun x36 tt38 =>
      (am_z01 x36).bind fun b40 =>
      some (b40, tt38)
    else
      some ((0 : Int32), tt17)
  else
    some ((0 : Int32), tt7)
set_option maxHeartbeats 4000000 in
set_option maxRecDepth 100000 in
theorem sX4_readLends {a1 : Nat} {h : am_H} {t : tS} {r : Int32} {t1 : tS} (hR_t : Rp h t) (i1 : ly_Is 7 a1) (H : tX4_readLends a1 t = some (r, t1)) : ex (fX4_readLends 1 a1 h) (fun p => r = p.1 ∧ Rp p.2 t1) := by
  unfold tX4_readLends at H
  unfold fX4_readLends
  obtain ⟨tt3, e1, H⟩ := am_bd H
  refine ex.j1 (sX7_step hR_t  e1) (fun hh2 hR_tt3 => ?_)
  obtain ⟨x5, tt7, e4, H⟩ := am_bd2 H
  refine ex.j2 (sX4_passHouse hR_tt3 i1 e4) (fun z8 hh6 hz => ?_)
  obtain ⟨rfl, hR_tt7⟩ : x5 = z8 ∧ Rp hh6 tt7 := hz
  by_cases c9 : ¬ x5 = 0
  · rw [if_pos c9] at H
    refine ex.t c9 ?_
    refine ex.bd (r_gI hR_tt7 lk6 rfl) ?_
    refine ex.bd (r_gR hR_tt7 (lc7 i1) rfl) ?_
    obtain ⟨x12, e13, H⟩ := am_bd H
    refine ex.bd (r_aI hR_tt7 (la7_2 i1) e13) ?_
    obtain ⟨x15, tt17, e14, H⟩ := am_bd2 H
    refine ex.j2 (sX4_passHouse hR_tt7 i1 e14) (fun z18 hh16 hz => ?_)
    obtain ⟨rfl, hR_tt17⟩ : x15 = z18 ∧ Rp hh16 tt17 := hz
    by_cases c19 : ¬ x15 = 0
    · rw [if_pos c19] at H
      refine ex.t c19 ?_
      refine ex.bd (r_gI hR_tt17 lk6 rfl) ?_
      refine ex.bd (r_gR hR_tt17 (lc7 i1) rfl) ?_
      obtain ⟨x22, e23, H⟩ := am_bd H
      refine ex.bd (r_aI hR_tt17 (la7_2 i1) e23) ?_
      obtain ⟨tt25, e26, H⟩ := am_bd H
      obtain ⟨hh24, e27, hR_tt25⟩ := r_sI hR_tt17 (la7_2 i1) e26
      refine ex.bd e27 ?_
      refine ex.bd (r_gR hR_tt25 (lc7 i1) rfl) ?_
      obtain ⟨x29, e30, H⟩ := am_bd H
      refine ex.bd (r_aI hR_tt25 (la7_2 i1) e30) ?_
      obtain ⟨tt32, e33, H⟩ := am_bd H
      obtain ⟨hh31, e34, hR_tt32⟩ := r_sI hR_tt25 (la7_2 i1) e33
      refine ex.bd e34 ?_
      obtain ⟨x36, tt38, e35, H⟩ := am_bd2 H
      refine ex.j2 (sX7_passSign hR_tt32  e35) (fun z39 hh37 hz => ?_)
      obtain ⟨rfl, hR_tt38⟩ : x36 = z39 ∧ Rp hh37 tt38 := hz
      obtain ⟨b40, e41, H⟩ := am_bd H
      refine ex.bd e41 ?_
      obtain ⟨rfl, rfl⟩ := am_inj2 H
      exact ex.nd ⟨rfl, hR_tt38⟩
    · rw [if_neg c19] at H
      refine ex.f c19 ?_
      obtain ⟨rfl, rfl⟩ := am_inj2 H
      exact ex.nd ⟨rfl, hR_tt17⟩
  · rw [if_neg c9] at H
    refine ex.f c9 ?_
    obtain ⟨rfl, rfl⟩ := am_inj2 H
    exact ex.nd ⟨rfl, hR_tt7⟩
def tX4_readStays (a1 : Nat) (t : tS) : Option (Int32 × tS) :=
  if (t.1 a1 14) = 0 then
    (some (uI t a1 14 ((1 : Int32)))).bind fun tt4 =>
    (tX7_step  tt4).bind fun tt9 =>
    am_b2 (tX7_passNumber ((1 : Int32)) ((4 : Int32)) tt9) fun x11 tt13 =>
    if ¬ x11 = 0 then
      (some (uI tt13 a1 13 (tt13.1 1 8))).bind fun tt18 =>
      am_b2 (tX7_passSign ((59 : Int32)) tt18) fun x22 tt24 =>
      (am_z01 x22).bind fun b26 =>
      some (b26, tt24)
    else
      some ((0 : Int32), tt13)
  else
    am_b2 (tX7_refuse ((3 : Int32)) t) fun x29 tt31 =>
    (am_z01 x29).bind fun b33 =>
    some (b33, tt31)
set_option maxHeartbeats 4000000 in
set_option maxRecDepth 100000 in
theorem sX4_readStays {a1 : Nat} {h : am_H} {t : tS} {r : Int32} {t1 : tS} (hR_t : Rp h t) (i1 : ly_Is 7 a1) (H : tX4_readStays a1 t = some (r, t1)) : ex (fX4_readStays 1 a1 h) (fun p => r = p.1 ∧ Rp p.2 t1) := by
  unfold tX4_readStays at H
  unfold fX4_readStays
  refine ex.bd (r_gI hR_t (lc7 i1) rfl) ?_
  by_cases c2 : (t.1 a1 14) = 0
  · rw [if_pos c2] at H
    refine ex.t c2 ?_
    obtain ⟨tt4, et5, H⟩ := am_bd H
    obtain ⟨hh3, e6, hR_tt4⟩ := r_pI (k := 14) (x := (1 : Int32)) hR_t (lc7 i1) rfl rfl
    rw [Option.some.inj et5] at hR_tt4
    refine ex.bd e6 ?_
    obtain ⟨tt9, e7, H⟩ := am_bd H
    refine ex.j1 (sX7_step hR_tt4  e7) (fun hh8 hR_tt9 => ?_)
    obtain ⟨x11, tt13, e10, H⟩ := am_bd2 H
    refine ex.j2 (sX7_passNumber hR_tt9  e10) (fun z14 hh12 hz => ?_)
    obtain ⟨rfl, hR_tt13⟩ : x11 = z14 ∧ Rp hh12 tt13 := hz
    by_cases c15 : ¬ x11 = 0
    · rw [if_pos c15] at H
      refine ex.t c15 ?_
      refine ex.bd (r_gI hR_tt13 lk6 rfl) ?_
      obtain ⟨tt18, et19, H⟩ := am_bd H
      obtain ⟨hh17, e20, hR_tt18⟩ := r_pI (k := 13) (x := tt13.1 1 8) hR_tt13 (lc7 i1) rfl rfl
      rw [Option.some.inj et19] at hR_tt18
      refine ex.bd e20 ?_
      obtain ⟨x22, tt24, e21, H⟩ := am_bd2 H
      refine ex.j2 (sX7_passSign hR_tt18  e21) (fun z25 hh23 hz => ?_)
      obtain ⟨rfl, hR_tt24⟩ : x22 = z25 ∧ Rp hh23 tt24 := hz
      obtain ⟨b26, e27, H⟩ := am_bd H
      refine ex.bd e27 ?_
      obtain ⟨rfl, rfl⟩ := am_inj2 H
      exact ex.nd ⟨rfl, hR_tt24⟩
    · rw [if_neg c15] at H
      refine ex.f c15 ?_
      obtain ⟨rfl, rfl⟩ := am_inj2 H
      exact ex.nd ⟨rfl, hR_tt13⟩
  · rw [if_neg c2] at H
    refine ex.f c2 ?_
    obtain ⟨x29, tt31, e28, H⟩ := am_bd2 H
    refine ex.j2 (sX7_refuse hR_t  e28) (fun z32 hh30 hz => ?_)
    obtain ⟨rfl, hR_tt31⟩ : x29 = z32 ∧ Rp hh30 tt31 := hz
    obtain ⟨b33, e34, H⟩ := am_bd H
    refine ex.bd e34 ?_
    obtain ⟨rfl, rfl⟩ := am_inj2 H
    exact ex.nd ⟨rfl, hR_tt31⟩
def tX7_atEnd  (t : tS) : Option (Int32) :=
  Option.bind (
    if ¬ (t.1 1 4) = 0 then
      some ((0 : Int32))
    else
      some ((1 : Int32))) fun js2 =>
  (am_z01 js2).bind fun b4 =>
  some b4
set_option maxHeartbeats 4000000 in
set_option maxRecDepth 100000 in
theorem sX7_atEnd  {h : am_H} {t : tS} {r : Int32} (hR_t : Rp h t)  (H : tX7_atEnd  t = some r) : ex (fX7_atEnd 1 h) (fun x => r = x) := by
  unfold tX7_atEnd at H
  unfold fX7_atEnd
  refine ex.bd (r_isO hR_t lk6) ?_
  refine ex.bd (r_gI hR_t lk6 rfl) ?_
  obtain ⟨js2, E6, H⟩ := am_bd H
  refine ex.j1 (Q := fun p => js2 = p) ?_ (fun z7 hq => ?_)
  · clear H
    have H := E6
    clear E6
    by_cases c3 : ¬ (t.1 1 4) = 0
    · rw [if_pos c3] at H
      refine ex.t c3 ?_
      obtain rfl := Option.some.inj H
      exact ex.nd rfl
    · rw [if_neg c3] at H
      refine ex.f c3 ?_
      obtain rfl := Option.some.inj H
      exact ex.nd rfl
  · clear E6
    obtain rfl : js2 = z7 := hq
    obtain ⟨b4, e5, H⟩ := am_bd H
    refine ex.bd e5 ?_
    obtain rfl := Option.some.inj H
    exact ex.nd rfl
def tX7_begin  (t : tS) : Option (tS) :=
  (some (uI t 1 7 ((0 : Int32)))).bind fun tt2 =>
  (some (uI tt2 1 3 ((0 : Int32)))).bind fun tt6 =>
  (tX7_step  tt6).bind fun tt11 =>
  some tt11
set_option maxHeartbeats 4000000 in
set_option maxRecDepth 100000 in
theorem sX7_begin  {h : am_H} {t : tS} {t1 : tS} (hR_t : Rp h t)  (H : tX7_begin  t = some t1) : ex (fX7_begin 1 h) (fun h1 => Rp h1 t1) := by
  unfold tX7_begin at H
  unfold fX7_begin
  refine ex.bd (r_isO hR_t lk6) ?_
  obtain ⟨tt2, et3, H⟩ := am_bd H
  obtain ⟨hh1, e4, hR_tt2⟩ := r_pI (k := 7) (x := (0 : Int32)) hR_t lk6 rfl rfl
  rw [Option.some.inj et3] at hR_tt2
  refine ex.bd e4 ?_
  obtain ⟨tt6, et7, H⟩ := am_bd H
  obtain ⟨hh5, e8, hR_tt6⟩ := r_pI (k := 3) (x := (0 : Int32)) hR_tt2 lk6 rfl rfl
  rw [Option.some.inj et7] at hR_tt6
  refine ex.bd e8 ?_
  obtain ⟨tt11, e9, H⟩ := am_bd H
  refine ex.j1 (sX7_step hR_tt6  e9) (fun hh10 hR_tt11 => ?_)
  obtain rfl := Option.some.inj H
  exact ex.nd hR_tt11
def tX8_clear (a0 : Nat) (t : tS) : Option (tS) :=
  (some (uI t a0 11 ((0 : Int32)))).bind fun tt2 =>
  (some (uI tt2 a0 12 ((0 : Int32)))).bind fun tt6 =>
  (some (uI tt6 a0 13 ((1 : Int32)))).bind fun tt10 =>
  (some (uI tt10 a0 14 ((0 : Int32)))).bind fun tt14 =>
  (some (uI tt14 a0 15 ((0 : Int32)))).bind fun tt18 =>
  (tJ7_fill_53178 (a0 + 3) 4 ((0 : Int32)) tt18).bind fun tt24 =>
  (tJ7_fill_53178 (a0 + 9) 6 ((0 : Int32)) tt24).bind fun tt28 =>
  some tt28
set_option maxHeartbeats 4000000 in
set_option maxRecDepth 100000 in
theorem sX8_clear {a0 : Nat} {h : am_H} {t : tS} {t1 : tS} (hR_t : Rp h t) (i0 : ly_Is 7 a0) (H : tX8_clear a0 t = some t1) : ex (fX8_clear a0 h) (fun h1 => Rp h1 t1) := by
  unfold tX8_clear at H
  unfold fX8_clear
  refine ex.bd (r_isO hR_t (lc7 i0)) ?_
  obtain ⟨tt2, et3, H⟩ := am_bd H
  obtain ⟨hh1, e4, hR_tt2⟩ := r_pI (k := 11) (x := (0 : Int32)) hR_t (lc7 i0) rfl rfl
  rw [Option.some.inj et3] at hR_tt2
  refine ex.bd e4 ?_
  obtain ⟨tt6, et7, H⟩ := am_bd H
  obtain ⟨hh5, e8, hR_tt6⟩ := r_pI (k := 12) (x := (0 : Int32)) hR_tt2 (lc7 i0) rfl rfl
  rw [Option.some.inj et7] at hR_tt6
  refine ex.bd e8 ?_
  obtain ⟨tt10, et11, H⟩ := am_bd H
  obtain ⟨hh9, e12, hR_tt10⟩ := r_pI (k := 13) (x := (1 : Int32)) hR_tt6 (lc7 i0) rfl rfl
  rw [Option.some.inj et11] at hR_tt10
  refine ex.bd e12 ?_
  obtain ⟨tt14, et15, H⟩ := am_bd H
  obtain ⟨hh13, e16, hR_tt14⟩ := r_pI (k := 14) (x := (0 : Int32)) hR_tt10 (lc7 i0) rfl rfl
  rw [Option.some.inj et15] at hR_tt14
  refine ex.bd e16 ?_
  obtain ⟨tt18, et19, H⟩ := am_bd H
  obtain ⟨hh17, e20, hR_tt18⟩ := r_pI (k := 15) (x := (0 : Int32)) hR_tt14 (lc7 i0) rfl rfl
  rw [Option.some.inj et19] at hR_tt18
  refine ex.bd e20 ?_
  refine ex.bd (r_gR hR_tt18 (lc7 i0) rfl) ?_
  obtain ⟨tt24, e22, H⟩ := am_bd H
  refine ex.j1 (sJ7_fill_53178 hR_tt18 (la7_2 i0) e22) (fun hh23 hR_tt24 => ?_)
  refine ex.bd (r_gR hR_tt24 (lc7 i0) rfl) ?_
  obtain ⟨tt28, e26, H⟩ := am_bd H
  refine ex.j1 (sJ7_fill_53178 hR_tt24 (la7_8 i0) e26) (fun hh27 hR_tt28 => ?_)
  obtain rfl := Option.some.inj H
  exact ex.nd hR_tt28
def tX4_lineAct  (t : tS) : Option (Int32) :=
  (tX7_isWord 1000010 t).bind fun x2 =>
  if x2 = 0 then
    (tX7_isWord 1000011 t).bind fun x6 =>
    if x6 = 0 then
      (tX7_isWord 1000012 t).bind fun x10 =>
      if x10 = 0 then
        (tX7_isWord 1000013 t).bind fun x14 =>
        Option.bind (
          if x14 = 0 then
            some ((-1 : Int32))
          else
            some ((3 : Int32))) fun js16 =>
        some js16
      else
        some ((2 : Int32))
    else
      some ((1 : Int32))
  else
    some ((0 : Int32))
set_option maxHeartbeats 4000000 in
set_option maxRecDepth 100000 in
theorem sX4_lineAct  {h : am_H} {t : tS} {r : Int32} (hR_t : Rp h t)  (H : tX4_lineAct  t = some r) : ex (fX4_lineAct 1 h) (fun x => r = x) := by
  unfold tX4_lineAct at H
  unfold fX4_lineAct
  obtain ⟨x2, e1, H⟩ := am_bd H
  refine ex.j1 (sX7_isWord hR_t  e1) (fun z3 hz => ?_)
  obtain rfl : x2 = z3 := hz
  by_cases c4 : x2 = 0
  · rw [if_pos c4] at H
    refine ex.t c4 ?_
    obtain ⟨x6, e5, H⟩ := am_bd H
    refine ex.j1 (sX7_isWord hR_t  e5) (fun z7 hz => ?_)
    obtain rfl : x6 = z7 := hz
    by_cases c8 : x6 = 0
    · rw [if_pos c8] at H
      refine ex.t c8 ?_
      obtain ⟨x10, e9, H⟩ := am_bd H
      refine ex.j1 (sX7_isWord hR_t  e9) (fun z11 hz => ?_)
      obtain rfl : x10 = z11 := hz
      by_cases c12 : x10 = 0
      · rw [if_pos c12] at H
        refine ex.t c12 ?_
        obtain ⟨x14, e13, H⟩ := am_bd H
        refine ex.j1 (sX7_isWord hR_t  e13) (fun z15 hz => ?_)
        obtain rfl : x14 = z15 := hz
        obtain ⟨js16, E18, H⟩ := am_bd H
        refine ex.j1 (Q := fun p => js16 = p) ?_ (fun z19 hq => ?_)
        · clear H
          have H := E18
          clear E18
          by_cases c17 : x14 = 0
          · rw [if_pos c17] at H
            refine ex.t c17 ?_
            obtain rfl := Option.some.inj H
            exact ex.nd rfl
          · rw [if_neg c17] at H
            refine ex.f c17 ?_
            obtain rfl := Option.some.inj H
            exact ex.nd rfl
        · clear E18
          obtain rfl : js16 = z19 := hq
          obtain rfl := Option.some.inj H
          exact ex.nd rfl
      · rw [if_neg c12] at H
        refine ex.f c12 ?_
        obtain rfl := Option.some.inj H
        exact ex.nd rfl
    · rw [if_neg c8] at H
      refine ex.f c8 ?_
      obtain rfl := Option.some.inj H
      exact ex.nd rfl
  · rw [if_neg c4] at H
    refine ex.f c4 ?_
    obtain rfl := Option.some.inj H
    exact ex.nd rfl
def tX4_readPlanLine (a1 : Nat) (a2 : Nat) (t : tS) : Option (Int32 × tS) :=
  (tX4_lineAct  t).bind fun x2 =>
  if ¬ x2 = ((-1 : Int32)) then
    if (t.1 a2 3) < ((40 : Int32)) then
      (tX7_step  t).bind fun tt9 =>
      if x2 = ((1 : Int32)) then
        am_b2 (tX4_passDay a1 ((0 : Int32)) tt9) fun x12 tt14 =>
        if ¬ x12 = 0 then
          if x2 = ((1 : Int32)) then
            am_b2 (tX4_passHouse a1 ((0 : Int32)) tt14) fun x20 tt22 =>
            if ¬ x20 = 0 then
              (tX3_add a2 x2 (tt14.1 1 8) (tt22.1 1 8) tt22).bind fun tt28 =>
              am_b2 (tX7_passSign ((59 : Int32)) tt28) fun x30 tt32 =>
              (am_z01 x30).bind fun b34 =>
              some (b34, tt32)
            else
              some ((0 : Int32), tt22)
          else
            if ¬ x2 = ((3 : Int32)) then
              (tX3_add a2 x2 (tt14.1 1 8) ((-1 : Int32)) tt14).bind fun tt39 =>
              am_b2 (tX7_passSign ((59 : Int32)) tt39) fun x41 tt43 =>
              (am_z01 x41).bind fun b45 =>
              some (b45, tt43)
            else
              am_b2 (tX4_passHouse a1 ((0 : Int32)) tt14) fun x48 tt50 =>
              if ¬ x48 = 0 then
                (tX3_add a2 x2 (tt14.1 1 8) (tt50.1 1 8) tt50).bind fun tt56 =>
                am_b2 (tX7_passSign ((59 : Int32)) tt56) fun x58 tt60 =>
                (am_z01 x58).bind fun b62 =>
                some (b62, tt60)
              else
                some ((0 : Int32), tt50)
        else
          some ((0 : Int32), tt14)
      else
        if ¬ x2 = ((2 : Int32)) then
          if x2 = ((1 : Int32)) then
            am_b2 (tX4_passHouse a1 ((0 : Int32)) tt9) fun x67 tt69 =>
            if ¬ x67 = 0 then
              (tX3_add a2 x2 ((-1 : Int32)) (tt69.1 1 8) tt69).bind fun tt75 =>
              am_b2 (tX7_passSign ((59 : Int32)) tt75) fun x77 tt79 =>
              (am_z01 x77).bind fun b81 =>
              some (b81, tt79)
            else
              some ((0 : Int32), tt69)
          else
            if ¬ x2 = ((3 : Int32)) then
              (tX3_add a2 x2 ((-1 : Int32)) ((-1 : Int32)) tt9).bind fun tt86 =>
              am_b2 (tX7_passSign ((59 : Int32)) tt86) fun x88 tt90 =>
              (am_z01 x88).bind fun b92 =>
              some (b92, tt90)
            else
              am_b2 (tX4_passHouse a1 ((0 : Int32)) tt9) fun x95 tt97 =>
              if ¬ x95 = 0 then
                (tX3_add a2 x2 ((-1 : Int32)) (tt97.1 1 8) tt97).bind fun tt103 =>
                am_b2 (tX7_passSign ((59 : Int32)) tt103) fun x105 tt107 =>
                (am_z01 x105).bind fun b109 =>
                some (b109, tt107)
              else
                some ((0 : Int32), tt97)
        else
          am_b2 (tX4_passDay a1 ((0 : Int32)) tt9) fun x112 tt114 =>
          if ¬ x112 = 0 then
            if x2 = ((1 : Int32)) then
              am_b2 (tX4_passHouse a1 ((0 : Int32)) tt114) fun x120 tt122 =>
              if ¬ x120 = 0 then
                (tX3_add a2 x2 (tt114.1 1 8) (tt122.1 1 8) tt122).bind fun tt128 =>
                am_b2 (tX7_passSign ((59 : Int32)) tt128) fun x130 tt132 =>
                (am_z01 x130).bind fun b134 =>
                some (b134, tt132)
              else
                some ((0 : Int32), tt122)
            else
              if ¬ x2 = ((3 : Int32)) then
                (tX3_add a2 x2 (tt114.1 1 8) ((-1 : Int32)) tt114).bind fun tt139 =>
                am_b2 (tX7_passSign ((59 : Int32)) tt139) fun x141 tt143 =>
                (am_z01 x141).bind fun b145 =>
                some (b145, tt143)
              else
                am_b2 (tX4_passHouse a1 ((0 : Int32)) tt114) fun x148 tt150 =>
                if ¬ x148 = 0 then
                  (tX3_add a2 x2 (tt114.1 1 8) (tt150.1 1 8) tt150).bind fun tt156 =>
                  am_b2 (tX7_passSign ((59 : Int32)) tt156) fun x158 tt160 =>
                  (am_z01 x158).bind fun b162 =>
                  some (b162, tt160)
                else
                  some ((0 : Int32), tt150)
          else
            some ((0 : Int32), tt114)
    else
      am_b2 (tX7_refuse ((5 : Int32)) t) fun x165 tt167 =>
      (am_z01 x165).bind fun b169 =>
      some (b169, tt167)
  else
    am_b2 (tX7_refuse ((1 : Int32)) t) fun x172 tt174 =>
    (am_z01 x172).bind fun b176 =>
    some (b176, tt174)
set_option maxHeartbeats 4000000 in
set_option maxRecDepth 100000 in
theorem sX4_readPlanLine {a1 : Nat} {a2 : Nat} {h : am_H} {t : tS} {r : Int32} {t1 : tS} (hR_t : Rp h t) (i1 : ly_Is 7 a1) (i2 : ly_Is 3 a2) (H : tX4_readPlanLine a1 a2 t = some (r, t1)) : ex (fX4_readPlanLine 1 a1 a2 h) (fun p => r = p.1 ∧ Rp p.2 t1) := by
  unfold tX4_readPlanLine at H
  unfold fX4_readPlanLine
  obtain ⟨x2, e1, H⟩ := am_bd H
  refine ex.j1 (sX4_lineAct hR_t  e1) (fun z3 hz => ?_)
  obtain rfl : x2 = z3 := hz
  by_cases c4 : ¬ x2 = ((-1 : Int32))
  · rw [if_pos c4] at H
    refine ex.t c4 ?_
    refine ex.bd (r_gI hR_t (lc3 i2) rfl) ?_
    by_cases c6 : (t.1 a2 3) < ((40 : Int32))
    · rw [if_pos c6] at H
      refine ex.t c6 ?_
      obtain ⟨tt9, e7, H⟩ := am_bd H
      refine ex.j1 (sX7_step hR_t  e7) (fun hh8 hR_tt9 => ?_)
      by_cases c10 : x2 = ((1 : Int32))
      · rw [if_pos c10] at H
        refine ex.t c10 ?_
        obtain ⟨x12, tt14, e11, H⟩ := am_bd2 H
        refine ex.j2 (sX4_passDay hR_tt9 i1 e11) (fun z15 hh13 hz => ?_)
        obtain ⟨rfl, hR_tt14⟩ : x12 = z15 ∧ Rp hh13 tt14 := hz
        by_cases c16 : ¬ x12 = 0
        · rw [if_pos c16] at H
          refine ex.t c16 ?_
          refine ex.bd (r_gI hR_tt14 lk6 rfl) ?_
          by_cases c18 : x2 = ((1 : Int32))
          · rw [if_pos c18] at H
            refine ex.t c18 ?_
            obtain ⟨x20, tt22, e19, H⟩ := am_bd2 H
            refine ex.j2 (sX4_passHouse hR_tt14 i1 e19) (fun z23 hh21 hz => ?_)
            obtain ⟨rfl, hR_tt22⟩ : x20 = z23 ∧ Rp hh21 tt22 := hz
            by_cases c24 : ¬ x20 = 0
            · rw [if_pos c24] at H
              refine ex.t c24 ?_
              refine ex.bd (r_gI hR_tt22 lk6 rfl) ?_
              obtain ⟨tt28, e26, H⟩ := am_bd H
              refine ex.j1 (sX3_add hR_tt22 i2 e26) (fun hh27 hR_tt28 => ?_)
              obtain ⟨x30, tt32, e29, H⟩ := am_bd2 H
              refine ex.j2 (sX7_passSign hR_tt28  e29) (fun z33 hh31 hz => ?_)
              obtain ⟨rfl, hR_tt32⟩ : x30 = z33 ∧ Rp hh31 tt32 := hz
              obtain ⟨b34, e35, H⟩ := am_bd H
              refine ex.bd e35 ?_
              obtain ⟨rfl, rfl⟩ := am_inj2 H
              exact ex.nd ⟨rfl, hR_tt32⟩
            · rw [if_neg c24] at H
              refine ex.f c24 ?_
              obtain ⟨rfl, rfl⟩ := am_inj2 H
              exact ex.nd ⟨rfl, hR_tt22⟩
          · rw [if_neg c18] at H
            refine ex.f c18 ?_
            by_cases c36 : ¬ x2 = ((3 : Int32))
            · rw [if_pos c36] at H
              refine ex.t c36 ?_
              obtain ⟨tt39, e37, H⟩ := am_bd H
              refine ex.j1 (sX3_add hR_tt14 i2 e37) (fun hh38 hR_tt39 => ?_)
              obtain ⟨x41, tt43, e40, H⟩ := am_bd2 H
              refine ex.j2 (sX7_passSign hR_tt39  e40) (fun z44 hh42 hz => ?_)
              obtain ⟨rfl, hR_tt43⟩ : x41 = z44 ∧ Rp hh42 tt43 := hz
              obtain ⟨b45, e46, H⟩ := am_bd H
              refine ex.bd e46 ?_
              obtain ⟨rfl, rfl⟩ := am_inj2 H
              exact ex.nd ⟨rfl, hR_tt43⟩
            · rw [if_neg c36] at H
              refine ex.f c36 ?_
              obtain ⟨x48, tt50, e47, H⟩ := am_bd2 H
              refine ex.j2 (sX4_passHouse hR_tt14 i1 e47) (fun z51 hh49 hz => ?_)
              obtain ⟨rfl, hR_tt50⟩ : x48 = z51 ∧ Rp hh49 tt50 := hz
              by_cases c52 : ¬ x48 = 0
              · rw [if_pos c52] at H
                refine ex.t c52 ?_
                refine ex.bd (r_gI hR_tt50 lk6 rfl) ?_
                obtain ⟨tt56, e54, H⟩ := am_bd H
                refine ex.j1 (sX3_add hR_tt50 i2 e54) (fun hh55 hR_tt56 => ?_)
                obtain ⟨x58, tt60, e57, H⟩ := am_bd2 H
                refine ex.j2 (sX7_passSign hR_tt56  e57) (fun z61 hh59 hz => ?_)
                obtain ⟨rfl, hR_tt60⟩ : x58 = z61 ∧ Rp hh59 tt60 := hz
                obtain ⟨b62, e63, H⟩ := am_bd H
                refine ex.bd e63 ?_
                obtain ⟨rfl, rfl⟩ := am_inj2 H
                exact ex.nd ⟨rfl, hR_tt60⟩
              · rw [if_neg c52] at H
                refine ex.f c52 ?_
                obtain ⟨rfl, rfl⟩ := am_inj2 H
                exact ex.nd ⟨rfl, hR_tt50⟩
        · rw [if_neg c16] at H
          refine ex.f c16 ?_
          obtain ⟨rfl, rfl⟩ := am_inj2 H
          exact ex.nd ⟨rfl, hR_tt14⟩
      · rw [if_neg c10] at H
        refine ex.f c10 ?_
        by_cases c64 : ¬ x2 = ((2 : Int32))
        · rw [if_pos c64] at H
          refine ex.t c64 ?_
          by_cases c65 : x2 = ((1 : Int32))
          · rw [if_pos c65] at H
            refine ex.t c65 ?_
            obtain ⟨x67, tt69, e66, H⟩ := am_bd2 H
            refine ex.j2 (sX4_passHouse hR_tt9 i1 e66) (fun z70 hh68 hz => ?_)
            obtain ⟨rfl, hR_tt69⟩ : x67 = z70 ∧ Rp hh68 tt69 := hz
            by_cases c71 : ¬ x67 = 0
            · rw [if_pos c71] at H
              refine ex.t c71 ?_
              refine ex.bd (r_gI hR_tt69 lk6 rfl) ?_
              obtain ⟨tt75, e73, H⟩ := am_bd H
              refine ex.j1 (sX3_add hR_tt69 i2 e73) (fun hh74 hR_tt75 => ?_)
              obtain ⟨x77, tt79, e76, H⟩ := am_bd2 H
              refine ex.j2 (sX7_passSign hR_tt75  e76) (fun z80 hh78 hz => ?_)
              obtain ⟨rfl, hR_tt79⟩ : x77 = z80 ∧ Rp hh78 tt79 := hz
              obtain ⟨b81, e82, H⟩ := am_bd H
              refine ex.bd e82 ?_
              obtain ⟨rfl, rfl⟩ := am_inj2 H
              exact ex.nd ⟨rfl, hR_tt79⟩
            · rw [if_neg c71] at H
              refine ex.f c71 ?_
              obtain ⟨rfl, rfl⟩ := am_inj2 H
              exact ex.nd ⟨rfl, hR_tt69⟩
          · rw [if_neg c65] at H
            refine ex.f c65 ?_
            by_cases c83 : ¬ x2 = ((3 : Int32))
            · rw [if_pos c83] at H
              refine ex.t c83 ?_
              obtain ⟨tt86, e84, H⟩ := am_bd H
              refine ex.j1 (sX3_add hR_tt9 i2 e84) (fun hh85 hR_tt86 => ?_)
              obtain ⟨x88, tt90, e87, H⟩ := am_bd2 H
              refine ex.j2 (sX7_passSign hR_tt86  e87) (fun z91 hh89 hz => ?_)
              obtain ⟨rfl, hR_tt90⟩ : x88 = z91 ∧ Rp hh89 tt90 := hz
              obtain ⟨b92, e93, H⟩ := am_bd H
              refine ex.bd e93 ?_
              obtain ⟨rfl, rfl⟩ := am_inj2 H
              exact ex.nd ⟨rfl, hR_tt90⟩
            · rw [if_neg c83] at H
              refine ex.f c83 ?_
              obtain ⟨x95, tt97, e94, H⟩ := am_bd2 H
              refine ex.j2 (sX4_passHouse hR_tt9 i1 e94) (fun z98 hh96 hz => ?_)
              obtain ⟨rfl, hR_tt97⟩ : x95 = z98 ∧ Rp hh96 tt97 := hz
              by_cases c99 : ¬ x95 = 0
              · rw [if_pos c99] at H
                refine ex.t c99 ?_
                refine ex.bd (r_gI hR_tt97 lk6 rfl) ?_
                obtain ⟨tt103, e101, H⟩ := am_bd H
                refine ex.j1 (sX3_add hR_tt97 i2 e101) (fun hh102 hR_tt103 => ?_)
                obtain ⟨x105, tt107, e104, H⟩ := am_bd2 H
                refine ex.j2 (sX7_passSign hR_tt103  e104) (fun z108 hh106 hz => ?_)
                obtain ⟨rfl, hR_tt107⟩ : x105 = z108 ∧ Rp hh106 tt107 := hz
                obtain ⟨b109, e110, H⟩ := am_bd H
                refine ex.bd e110 ?_
                obtain ⟨rfl, rfl⟩ := am_inj2 H
                exact ex.nd ⟨rfl, hR_tt107⟩
              · rw [if_neg c99] at H
                refine ex.f c99 ?_
                obtain ⟨rfl, rfl⟩ := am_inj2 H
                exact ex.nd ⟨rfl, hR_tt97⟩
        · rw [if_neg c64] at H
          refine ex.f c64 ?_
          obtain ⟨x112, tt114, e111, H⟩ := am_bd2 H
          refine ex.j2 (sX4_passDay hR_tt9 i1 e111) (fun z115 hh113 hz => ?_)
          obtain ⟨rfl, hR_tt114⟩ : x112 = z115 ∧ Rp hh113 tt114 := hz
          by_cases c116 : ¬ x112 = 0
          · rw [if_pos c116] at H
            refine ex.t c116 ?_
            refine ex.bd (r_gI hR_tt114 lk6 rfl) ?_
            by_cases c118 : x2 = ((1 : Int32))
            · rw [if_pos c118] at H
              refine ex.t c118 ?_
              obtain ⟨x120, tt122, e119, H⟩ := am_bd2 H
              refine ex.j2 (sX4_passHouse hR_tt114 i1 e119) (fun z123 hh121 hz => ?_)
              obtain ⟨rfl, hR_tt122⟩ : x120 = z123 ∧ Rp hh121 tt122 := hz
              by_cases c124 : ¬ x120 = 0
              · rw [if_pos c124] at H
                refine ex.t c124 ?_
                refine ex.bd (r_gI hR_tt122 lk6 rfl) ?_
                obtain ⟨tt128, e126, H⟩ := am_bd H
                refine ex.j1 (sX3_add hR_tt122 i2 e126) (fun hh127 hR_tt128 => ?_)
                obtain ⟨x130, tt132, e129, H⟩ := am_bd2 H
                refine ex.j2 (sX7_passSign hR_tt128  e129) (fun z133 hh131 hz => ?_)
                obtain ⟨rfl, hR_tt132⟩ : x130 = z133 ∧ Rp hh131 tt132 := hz
                obtain ⟨b134, e135, H⟩ := am_bd H
                refine ex.bd e135 ?_
                obtain ⟨rfl, rfl⟩ := am_inj2 H
                exact ex.nd ⟨rfl, hR_tt132⟩
              · rw [if_neg c124] at H
                refine ex.f c124 ?_
                obtain ⟨rfl, rfl⟩ := am_inj2 H
                exact ex.nd ⟨rfl, hR_tt122⟩
            · rw [if_neg c118] at H
              refine ex.f c118 ?_
              by_cases c136 : ¬ x2 = ((3 : Int32))
              · rw [if_pos c136] at H
                refine ex.t c136 ?_
                obtain ⟨tt139, e137, H⟩ := am_bd H
                refine ex.j1 (sX3_add hR_tt114 i2 e137) (fun hh138 hR_tt139 => ?_)
                obtain ⟨x141, tt143, e140, H⟩ := am_bd2 H
                refine ex.j2 (sX7_passSign hR_tt139  e140) (fun z144 hh142 hz => ?_)
                obtain ⟨rfl, hR_tt143⟩ : x141 = z144 ∧ Rp hh142 tt143 := hz
                obtain ⟨b145, e146, H⟩ := am_bd H
                refine ex.bd e146 ?_
                obtain ⟨rfl, rfl⟩ := am_inj2 H
                exact ex.nd ⟨rfl, hR_tt143⟩
              · rw [if_neg c136] at H
                refine ex.f c136 ?_
                obtain ⟨x148, tt150, e147, H⟩ := am_bd2 H
                refine ex.j2 (sX4_passHouse hR_tt114 i1 e147) (fun z151 hh149 hz => ?_)
                obtain ⟨rfl, hR_tt150⟩ : x148 = z151 ∧ Rp hh149 tt150 := hz
                by_cases c152 : ¬ x148 = 0
                · rw [if_pos c152] at H
                  refine ex.t c152 ?_
                  refine ex.bd (r_gI hR_tt150 lk6 rfl) ?_
                  obtain ⟨tt156, e154, H⟩ := am_bd H
                  refine ex.j1 (sX3_add hR_tt150 i2 e154) (fun hh155 hR_tt156 => ?_)
                  obtain ⟨x158, tt160, e157, H⟩ := am_bd2 H
                  refine ex.j2 (sX7_passSign hR_tt156  e157) (fun z161 hh159 hz => ?_)
                  obtain ⟨rfl, hR_tt160⟩ : x158 = z161 ∧ Rp hh159 tt160 := hz
                  obtain ⟨b162, e163, H⟩ := am_bd H
                  refine ex.bd e163 ?_
                  obtain ⟨rfl, rfl⟩ := am_inj2 H
                  exact ex.nd ⟨rfl, hR_tt160⟩
                · rw [if_neg c152] at H
                  refine ex.f c152 ?_
                  obtain ⟨rfl, rfl⟩ := am_inj2 H
                  exact ex.nd ⟨rfl, hR_tt150⟩
          · rw [if_neg c116] at H
            refine ex.f c116 ?_
            obtain ⟨rfl, rfl⟩ := am_inj2 H
            exact ex.nd ⟨rfl, hR_tt114⟩
    · rw [if_neg c6] at H
      refine ex.f c6 ?_
      obtain ⟨x165, tt167, e164, H⟩ := am_bd2 H
      refine ex.j2 (sX7_refuse hR_t  e164) (fun z168 hh166 hz => ?_)
      obtain ⟨rfl, hR_tt167⟩ : x165 = z168 ∧ Rp hh166 tt167 := hz
      obtain ⟨b169, e170, H⟩ := am_bd H
      refine ex.bd e170 ?_
      obtain ⟨rfl, rfl⟩ := am_inj2 H
      exact ex.nd ⟨rfl, hR_tt167⟩
  · rw [if_neg c4] at H
    refine ex.f c4 ?_
    obtain ⟨x172, tt174, e171, H⟩ := am_bd2 H
    refine ex.j2 (sX7_refuse hR_t  e171) (fun z175 hh173 hz => ?_)
    obtain ⟨rfl, hR_tt174⟩ : x172 = z175 ∧ Rp hh173 tt174 := hz
    obtain ⟨b176, e177, H⟩ := am_bd H
    refine ex.bd e177 ?_
    obtain ⟨rfl, rfl⟩ := am_inj2 H
    exact ex.nd ⟨rfl, hR_tt174⟩
def tX4_readPlan_L11 : Nat → Nat → Nat → Int32 → tS → Option ((tS) ⊕ (Int32 × tS))
  | 0, _, _, _, _ => none
  | n + 1, v1, v2, v3, t =>
    if ((40 : Int32)) < v3 then
      some (.inl t)
    else
      (tX7_atEnd  t).bind fun x10 =>
      if ¬ x10 = 0 then
        some (.inl t)
      else
        am_b2 (tX4_readPlanLine v1 v2 t) fun x14 tt16 =>
        if ¬ x14 = 0 then
          tX4_readPlan_L11 n v1 v2 (v3 + (1 : Int32)) tt16
        else
          some (.inr (tt16.1 1 7, tt16))
def tX4_readPlan (a1 : Nat) (a2 : Nat) (t : tS) : Option (Int32 × tS) :=
  (some (uI t a2 3 ((0 : Int32)))).bind fun tt2 =>
  (tX7_begin  tt2).bind fun tt7 =>
  (tX4_readPlan_L11 4000 a1 a2 ((0 : Int32)) tt7).bind fun o23 => match o23 with
    | .inl tt21 =>
      some ((0 : Int32), tt21)
    | .inr y24 => some y24
set_option maxHeartbeats 4000000 in
set_option maxRecDepth 100000 in
theorem sX4_readPlan_L11 : ∀ (n : Nat) (v1 : Nat) (v2 : Nat) (v3 : Int32) (h : am_H) (t : tS) (o : (tS) ⊕ (Int32 × tS)), Rp h t → ly_Is 7 v1 → ly_Is 3 v2 → tX4_readPlan_L11 n v1 v2 v3 t = some o → ex (fX4_readPlan_L11 n 1 v1 v2 v3 h) (fun p => match o, p with
    | .inl t1, .inl h1 => Rp h1 t1
    | .inr y, .inr z => y.1 = z.1 ∧ Rp z.2 y.2
    | _, _ => False) := by
  intro n
  induction n with
  | zero => intro _ _ _ _ _ _ _ _ _ H; cases H
  | succ n ih =>
    intro v1 v2 v3 h t o hR_t i1 i2 H
    rw [tX4_readPlan_L11] at H
    rw [fX4_readPlan_L11]
    by_cases c8 : ((40 : Int32)) < v3
    · rw [if_pos c8] at H
      refine ex.t c8 ?_
      obtain rfl := Option.some.inj H
      exact ex.nd hR_t
    · rw [if_neg c8] at H
      refine ex.f c8 ?_
      obtain ⟨x10, e9, H⟩ := am_bd H
      refine ex.j1 (sX7_atEnd hR_t  e9) (fun z11 hz => ?_)
      obtain rfl : x10 = z11 := hz
      by_cases c12 : ¬ x10 = 0
      · rw [if_pos c12] at H
        refine ex.t c12 ?_
        obtain rfl := Option.some.inj H
        exact ex.nd hR_t
      · rw [if_neg c12] at H
        refine ex.f c12 ?_
        obtain ⟨x14, tt16, e13, H⟩ := am_bd2 H
        refine ex.j2 (sX4_readPlanLine hR_t i1 i2 e13) (fun z17 hh15 hz => ?_)
        obtain ⟨rfl, hR_tt16⟩ : x14 = z17 ∧ Rp hh15 tt16 := hz
        by_cases c18 : ¬ x14 = 0
        · rw [if_pos c18] at H
          refine ex.t c18 ?_
          exact ih _ _ _ _ _ _ hR_tt16 i1 i2 H
        · rw [if_neg c18] at H
          refine ex.f c18 ?_
          refine ex.bd (r_gI hR_tt16 lk6 rfl) ?_
          obtain rfl := Option.some.inj H
          exact ex.nd ⟨rfl, hR_tt16⟩
set_option maxHeartbeats 4000000 in
set_option maxRecDepth 100000 in
theorem sX4_readPlan {a1 : Nat} {a2 : Nat} {h : am_H} {t : tS} {r : Int32} {t1 : tS} (hR_t : Rp h t) (i1 : ly_Is 7 a1) (i2 : ly_Is 3 a2) (H : tX4_readPlan a1 a2 t = some (r, t1)) : ex (fX4_readPlan 1 a1 a2 h) (fun p => r = p.1 ∧ Rp p.2 t1) := by
  unfold tX4_readPlan at H
  unfold fX4_readPlan
  obtain ⟨tt2, et3, H⟩ := am_bd H
  obtain ⟨hh1, e4, hR_tt2⟩ := r_pI (k := 3) (x := (0 : Int32)) hR_t (lc3 i2) rfl rfl
  rw [Option.some.inj et3] at hR_tt2
  refine ex.bd e4 ?_
  obtain ⟨tt7, e5, H⟩ := am_bd H
  refine ex.j1 (sX7_begin hR_tt2  e5) (fun hh6 hR_tt7 => ?_)
  obtain ⟨o23, E22, H⟩ := am_bd H
  refine ex.j1 (sX4_readPlan_L11 _ _ _ _ _ _ _ hR_tt7 i1 i2 E22) (fun p25 hq => ?_)
  clear E22
  rcases o23 with tt21 | y24
  · rcases p25 with hh20 | z26
    · dsimp only at H hq ⊢
      have hR_tt21 : Rp hh20 tt21 := hq
      obtain ⟨rfl, rfl⟩ := am_inj2 H
      exact ex.nd ⟨rfl, hR_tt21⟩
    · exact hq.elim
  · rcases p25 with _ | z26
    · exact hq.elim
    · dsimp only at H ⊢
      obtain rfl := Option.some.inj H
      exact ex.nd hq
def tX5_add (a0 : Nat) (a1 : Int32) (a2 : Int32) (t : tS) : Option (Int32 × tS) :=
  if (t.1 a0 2) < ((8 : Int32)) then
    (tWA t 0 (a0 + 1) 8 (t.1 a0 2) a1).bind fun tt6 =>
    (tWA tt6 0 (a0 + 2) 8 (tt6.1 a0 2) a2).bind fun tt12 =>
    (some (uI tt12 a0 2 ((tt12.1 a0 2) + ((1 : Int32))))).bind fun tt17 =>
    some ((1 : Int32), tt17)
  else
    some ((0 : Int32), t)
set_option maxHeartbeats 4000000 in
set_option maxRecDepth 100000 in
theorem sX5_add {a0 : Nat} {a1 : Int32} {a2 : Int32} {h : am_H} {t : tS} {r : Int32} {t1 : tS} (hR_t : Rp h t) (i0 : ly_Is 4 a0) (H : tX5_add a0 a1 a2 t = some (r, t1)) : ex (fX5_add a0 a1 a2 h) (fun p => r = p.1 ∧ Rp p.2 t1) := by
  unfold tX5_add at H
  unfold fX5_add
  refine ex.bd (r_isO hR_t (lc4 i0)) ?_
  refine ex.bd (r_gI hR_t (lc4 i0) rfl) ?_
  by_cases c2 : (t.1 a0 2) < ((8 : Int32))
  · rw [if_pos c2] at H
    refine ex.t c2 ?_
    refine ex.bd (r_gR hR_t (lc4 i0) rfl) ?_
    refine ex.bd (r_gI hR_t (lc4 i0) rfl) ?_
    obtain ⟨tt6, e7, H⟩ := am_bd H
    obtain ⟨hh5, e8, hR_tt6⟩ := r_sI hR_t (la4_0 i0) e7
    refine ex.bd e8 ?_
    refine ex.bd (r_gR hR_tt6 (lc4 i0) rfl) ?_
    refine ex.bd (r_gI hR_tt6 (lc4 i0) rfl) ?_
    obtain ⟨tt12, e13, H⟩ := am_bd H
    obtain ⟨hh11, e14, hR_tt12⟩ := r_sI hR_tt6 (la4_1 i0) e13
    refine ex.bd e14 ?_
    refine ex.bd (r_gI hR_tt12 (lc4 i0) rfl) ?_
    obtain ⟨tt17, et18, H⟩ := am_bd H
    obtain ⟨hh16, e19, hR_tt17⟩ := r_pI (k := 2) (x := (tt12.1 a0 2) + ((1 : Int32))) hR_tt12 (lc4 i0) rfl rfl
    rw [Option.some.inj et18] at hR_tt17
    refine ex.bd e19 ?_
    obtain ⟨rfl, rfl⟩ := am_inj2 H
    exact ex.nd ⟨rfl, hR_tt17⟩
  · rw [if_neg c2] at H
    refine ex.f c2 ?_
    obtain ⟨rfl, rfl⟩ := am_inj2 H
    exact ex.nd ⟨rfl, hR_t⟩
def tX6_begin (a0 : Nat) (a1 : Nat) (t : tS) : Option (tS) :=
  (tWC t (a1 + 2) 4 ((0 : Int32)) (a0 + 1) 4 ((0 : Int32)) ((4 : Int32))).bind fun tt4 =>
  (tWC tt4 (a1 + 7) 6 ((0 : Int32)) (a0 + 2) 6 ((0 : Int32)) ((6 : Int32))).bind fun tt10 =>
  (tWC tt10 (a1 + 8) 6 ((0 : Int32)) (a0 + 3) 6 ((0 : Int32)) ((6 : Int32))).bind fun tt16 =>
  (tJ7_fill_53178 (a0 + 4) 6 ((-1 : Int32)) tt16).bind fun tt22 =>
  (tJ7_fill_53178 (a0 + 5) 6 ((0 : Int32)) tt22).bind fun tt26 =>
  (tJ7_fill_53178 (a0 + 6) 6 ((0 : Int32)) tt26).bind fun tt30 =>
  (some (uI tt30 a0 6 ((0 : Int32)))).bind fun tt32 =>
  (some (uI tt32 a0 7 ((0 : Int32)))).bind fun tt36 =>
  (some (uI tt36 a0 8 ((0 : Int32)))).bind fun tt40 =>
  some tt40
set_option maxHeartbeats 4000000 in
set_option maxRecDepth 100000 in
theorem sX6_begin {a0 : Nat} {a1 : Nat} {h : am_H} {t : tS} {t1 : tS} (hR_t : Rp h t) (i0 : ly_Is 5 a0) (i1 : ly_Is 7 a1) (H : tX6_begin a0 a1 t = some t1) : ex (fX6_begin a0 a1 h) (fun h1 => Rp h1 t1) := by
  unfold tX6_begin at H
  unfold fX6_begin
  refine ex.bd (r_isO hR_t (lc5 i0)) ?_
  refine ex.bd (r_gR hR_t (lc7 i1) rfl) ?_
  refine ex.bd (r_gR hR_t (lc5 i0) rfl) ?_
  obtain ⟨tt4, e5, H⟩ := am_bd H
  obtain ⟨hh3, e6, hR_tt4⟩ := r_cp hR_t (la7_1 i1) (la5_0 i0) e5
  refine ex.bd e6 ?_
  refine ex.bd (r_gR hR_tt4 (lc7 i1) rfl) ?_
  refine ex.bd (r_gR hR_tt4 (lc5 i0) rfl) ?_
  obtain ⟨tt10, e11, H⟩ := am_bd H
  obtain ⟨hh9, e12, hR_tt10⟩ := r_cp hR_tt4 (la7_6 i1) (la5_1 i0) e11
  refine ex.bd e12 ?_
  refine ex.bd (r_gR hR_tt10 (lc7 i1) rfl) ?_
  refine ex.bd (r_gR hR_tt10 (lc5 i0) rfl) ?_
  obtain ⟨tt16, e17, H⟩ := am_bd H
  obtain ⟨hh15, e18, hR_tt16⟩ := r_cp hR_tt10 (la7_7 i1) (la5_2 i0) e17
  refine ex.bd e18 ?_
  refine ex.bd (r_gR hR_tt16 (lc5 i0) rfl) ?_
  obtain ⟨tt22, e20, H⟩ := am_bd H
  refine ex.j1 (sJ7_fill_53178 hR_tt16 (la5_3 i0) e20) (fun hh21 hR_tt22 => ?_)
  refine ex.bd (r_gR hR_tt22 (lc5 i0) rfl) ?_
  obtain ⟨tt26, e24, H⟩ := am_bd H
  refine ex.j1 (sJ7_fill_53178 hR_tt22 (la5_4 i0) e24) (fun hh25 hR_tt26 => ?_)
  refine ex.bd (r_gR hR_tt26 (lc5 i0) rfl) ?_
  obtain ⟨tt30, e28, H⟩ := am_bd H
  refine ex.j1 (sJ7_fill_53178 hR_tt26 (la5_5 i0) e28) (fun hh29 hR_tt30 => ?_)
  obtain ⟨tt32, et33, H⟩ := am_bd H
  obtain ⟨hh31, e34, hR_tt32⟩ := r_pI (k := 6) (x := (0 : Int32)) hR_tt30 (lc5 i0) rfl rfl
  rw [Option.some.inj et33] at hR_tt32
  refine ex.bd e34 ?_
  obtain ⟨tt36, et37, H⟩ := am_bd H
  obtain ⟨hh35, e38, hR_tt36⟩ := r_pI (k := 7) (x := (0 : Int32)) hR_tt32 (lc5 i0) rfl rfl
  rw [Option.some.inj et37] at hR_tt36
  refine ex.bd e38 ?_
  obtain ⟨tt40, et41, H⟩ := am_bd H
  obtain ⟨hh39, e42, hR_tt40⟩ := r_pI (k := 8) (x := (0 : Int32)) hR_tt36 (lc5 i0) rfl rfl
  rw [Option.some.inj et41] at hR_tt40
  refine ex.bd e42 ?_
  obtain rfl := Option.some.inj H
  exact ex.nd hR_tt40
def tX6_flood (a0 : Nat) (t : tS) : Option (tS) :=
  (tJ7_fill_53178 (a0 + 4) 6 ((-1 : Int32)) t).bind fun tt4 =>
  (tJ7_fill_53178 (a0 + 5) 6 ((0 : Int32)) tt4).bind fun tt8 =>
  some tt8
set_option maxHeartbeats 4000000 in
set_option maxRecDepth 100000 in
theorem sX6_flood {a0 : Nat} {h : am_H} {t : tS} {t1 : tS} (hR_t : Rp h t) (i0 : ly_Is 5 a0) (H : tX6_flood a0 t = some t1) : ex (fX6_flood a0 h) (fun h1 => Rp h1 t1) := by
  unfold tX6_flood at H
  unfold fX6_flood
  refine ex.bd (r_isO hR_t (lc5 i0)) ?_
  refine ex.bd (r_gR hR_t (lc5 i0) rfl) ?_
  obtain ⟨tt4, e2, H⟩ := am_bd H
  refine ex.j1 (sJ7_fill_53178 hR_t (la5_3 i0) e2) (fun hh3 hR_tt4 => ?_)
  refine ex.bd (r_gR hR_tt4 (lc5 i0) rfl) ?_
  obtain ⟨tt8, e6, H⟩ := am_bd H
  refine ex.j1 (sJ7_fill_53178 hR_tt4 (la5_4 i0) e6) (fun hh7 hR_tt8 => ?_)
  obtain rfl := Option.some.inj H
  exact ex.nd hR_tt8
def tX6_somewhere (a0 : Nat) (a1 : Nat) (t : tS) : Option (Int32) :=
  (tX6_guests a0 a1 ((-1 : Int32)) t).bind fun x3 =>
  some (((((1 : Int32)) <<< ((t.1 a1 12) &&& 31)) - ((1 : Int32))) &&& (x3 ^^^ ((-1 : Int32))))
set_option maxHeartbeats 4000000 in
set_option maxRecDepth 100000 in
theorem sX6_somewhere {a0 : Nat} {a1 : Nat} {h : am_H} {t : tS} {r : Int32} (hR_t : Rp h t) (i0 : ly_Is 5 a0) (i1 : ly_Is 7 a1) (H : tX6_somewhere a0 a1 t = some r) : ex (fX6_somewhere a0 a1 h) (fun x => r = x) := by
  unfold tX6_somewhere at H
  unfold fX6_somewhere
  refine ex.bd (r_isO hR_t (lc5 i0)) ?_
  refine ex.bd (r_gI hR_t (lc7 i1) rfl) ?_
  obtain ⟨x3, e2, H⟩ := am_bd H
  refine ex.j1 (sX6_guests hR_t i0 i1 e2) (fun z4 hz => ?_)
  obtain rfl : x3 = z4 := hz
  obtain rfl := Option.some.inj H
  exact ex.nd rfl
def tX6_talk_L5 : Nat → Nat → Nat → Int32 → Int32 → Int32 → tS → Option (Int32)
  | 0, _, _, _, _, _, _ => none
  | n + 1, v0, v1, v2, v3, v4, t =>
    if (t.1 v1 12) ≤ v4 then
      some v3
    else
      (tA t (v0 + 4) 6 v4).bind fun x4 =>
      Option.bind (
        if ¬ x4 = v2 then
          some v3
        else
          (tA t (v0 + 3) 6 v4).bind fun x9 =>
          some (v3 + x9)) fun jv6 =>
      tX6_talk_L5 n v0 v1 v2 jv6 (v4 + (1 : Int32)) t
def tX6_talk (a0 : Nat) (a1 : Nat) (a2 : Int32) (t : tS) : Option (Int32) :=
  Option.bind (tX6_talk_L5 4000 a0 a1 a2 ((0 : Int32)) ((0 : Int32)) t) fun lw13 =>
  some lw13
set_option maxHeartbeats 4000000 in
set_option maxRecDepth 100000 in
theorem sX6_talk_L5 : ∀ (n : Nat) (v0 : Nat) (v1 : Nat) (v2 : Int32) (v3 : Int32) (v4 : Int32) (h : am_H) (t : tS) (w3 : Int32), Rp h t → ly_Is 5 v0 → ly_Is 7 v1 → tX6_talk_L5 n v0 v1 v2 v3 v4 t = some w3 → ex (fX6_talk_L5 n v0 v1 v2 v3 v4 h) (fun p => w3 = p) := by
  intro n
  induction n with
  | zero => intro _ _ _ _ _ _ _ _ _ _ _ H; cases H
  | succ n ih =>
    intro v0 v1 v2 v3 v4 h t w3 hR_t i0 i1 H
    rw [tX6_talk_L5] at H
    rw [fX6_talk_L5]
    refine ex.bd (r_gI hR_t (lc7 i1) rfl) ?_
    by_cases c2 : (t.1 v1 12) ≤ v4
    · rw [if_pos c2] at H
      refine ex.t c2 ?_
      obtain rfl := Option.some.inj H
      exact ex.nd rfl
    · rw [if_neg c2] at H
      refine ex.f c2 ?_
      refine ex.bd (r_gR hR_t (lc5 i0) rfl) ?_
      obtain ⟨x4, e5, H⟩ := am_bd H
      refine ex.bd (r_aI hR_t (la5_3 i0) e5) ?_
      obtain ⟨jv6, E11, H⟩ := am_bd H
      refine ex.j1 (Q := fun p => jv6 = p) ?_ (fun z12 hq => ?_)
      · clear H
        have H := E11
        clear E11
        by_cases c7 : ¬ x4 = v2
        · rw [if_pos c7] at H
          refine ex.t c7 ?_
          obtain rfl := Option.some.inj H
          exact ex.nd rfl
        · rw [if_neg c7] at H
          refine ex.f c7 ?_
          refine ex.bd (r_gR hR_t (lc5 i0) rfl) ?_
          obtain ⟨x9, e10, H⟩ := am_bd H
          refine ex.bd (r_aI hR_t (la5_2 i0) e10) ?_
          obtain rfl := Option.some.inj H
          exact ex.nd rfl
      · clear E11
        obtain rfl : jv6 = z12 := hq
        exact ih _ _ _ _ _ _ _ _ hR_t i0 i1 H
set_option maxHeartbeats 4000000 in
set_option maxRecDepth 100000 in
theorem sX6_talk {a0 : Nat} {a1 : Nat} {a2 : Int32} {h : am_H} {t : tS} {r : Int32} (hR_t : Rp h t) (i0 : ly_Is 5 a0) (i1 : ly_Is 7 a1) (H : tX6_talk a0 a1 a2 t = some r) : ex (fX6_talk a0 a1 a2 h) (fun x => r = x) := by
  unfold tX6_talk at H
  unfold fX6_talk
  refine ex.bd (r_isO hR_t (lc5 i0)) ?_
  obtain ⟨lw13, E15, H⟩ := am_bd H
  refine ex.j1 (sX6_talk_L5 _ _ _ _ _ _ _ _ _ hR_t i0 i1 E15) (fun z14 hq => ?_)
  clear E15
  obtain rfl : lw13 = z14 := hq
  obtain rfl := Option.some.inj H
  exact ex.nd rfl
def tX6_talkOfAll_L4 : Nat → Nat → Nat → Int32 → Int32 → tS → Option (Int32)
  | 0, _, _, _, _, _ => none
  | n + 1, v0, v1, v2, v3, t =>
    if (t.1 v1 12) ≤ v3 then
      some v2
    else
      (tA t (v0 + 3) 6 v3).bind fun x4 =>
      tX6_talkOfAll_L4 n v0 v1 (v2 + x4) (v3 + (1 : Int32)) t
def tX6_talkOfAll (a0 : Nat) (a1 : Nat) (t : tS) : Option (Int32) :=
  Option.bind (tX6_talkOfAll_L4 4000 a0 a1 ((0 : Int32)) ((0 : Int32)) t) fun lw6 =>
  some lw6
set_option maxHeartbeats 4000000 in
set_option maxRecDepth 100000 in
theorem sX6_talkOfAll_L4 : ∀ (n : Nat) (v0 : Nat) (v1 : Nat) (v2 : Int32) (v3 : Int32) (h : am_H) (t : tS) (w2 : Int32), Rp h t → ly_Is 5 v0 → ly_Is 7 v1 → tX6_talkOfAll_L4 n v0 v1 v2 v3 t = some w2 → ex (fX6_talkOfAll_L4 n v0 v1 v2 v3 h) (fun p => w2 = p) := by
  intro n
  induction n with
  | zero => intro _ _ _ _ _ _ _ _ _ _ H; cases H
  | succ n ih =>
    intro v0 v1 v2 v3 h t w2 hR_t i0 i1 H
    rw [tX6_talkOfAll_L4] at H
    rw [fX6_talkOfAll_L4]
    refine ex.bd (r_gI hR_t (lc7 i1) rfl) ?_
    by_cases c2 : (t.1 v1 12) ≤ v3
    · rw [if_pos c2] at H
      refine ex.t c2 ?_
      obtain rfl := Option.some.inj H
      exact ex.nd rfl
    · rw [if_neg c2] at H
      refine ex.f c2 ?_
      refine ex.bd (r_gR hR_t (lc5 i0) rfl) ?_
      obtain ⟨x4, e5, H⟩ := am_bd H
      refine ex.bd (r_aI hR_t (la5_2 i0) e5) ?_
      exact ih _ _ _ _ _ _ _ hR_t i0 i1 H
set_option maxHeartbeats 4000000 in
set_option maxRecDepth 100000 in
theorem sX6_talkOfAll {a0 : Nat} {a1 : Nat} {h : am_H} {t : tS} {r : Int32} (hR_t : Rp h t) (i0 : ly_Is 5 a0) (i1 : ly_Is 7 a1) (H : tX6_talkOfAll a0 a1 t = some r) : ex (fX6_talkOfAll a0 a1 h) (fun x => r = x) := by
  unfold tX6_talkOfAll at H
  unfold fX6_talkOfAll
  refine ex.bd (r_isO hR_t (lc5 i0)) ?_
  obtain ⟨lw6, E8, H⟩ := am_bd H
  refine ex.j1 (sX6_talkOfAll_L4 _ _ _ _ _ _ _ _ hR_t i0 i1 E8) (fun z7 hq => ?_)
  clear E8
  obtain rfl : lw6 = z7 := hq
  obtain rfl := Option.some.inj H
  exact ex.nd rfl
def tX6_bedsOfAll_L4 : Nat → Nat → Nat → Int32 → Int32 → tS → Option (Int32)
  | 0, _, _, _, _, _ => none
  | n + 1, v0, v1, v2, v3, t =>
    if (t.1 v1 11) ≤ v3 then
      some v2
    else
      (tA t (v0 + 1) 4 v3).bind fun x4 =>
      tX6_bedsOfAll_L4 n v0 v1 (v2 + x4) (v3 + (1 : Int32)) t
def tX6_bedsOfAll (a0 : Nat) (a1 : Nat) (t : tS) : Option (Int32) :=
  Option.bind (tX6_bedsOfAll_L4 4000 a0 a1 ((0 : Int32)) ((0 : Int32)) t) fun lw6 =>
  some lw6
set_option maxHeartbeats 4000000 in
set_option maxRecDepth 100000 in
theorem sX6_bedsOfAll_L4 : ∀ (n : Nat) (v0 : Nat) (v1 : Nat) (v2 : Int32) (v3 : Int32) (h : am_H) (t : tS) (w2 : Int32), Rp h t → ly_Is 5 v0 → ly_Is 7 v1 → tX6_bedsOfAll_L4 n v0 v1 v2 v3 t = some w2 → ex (fX6_bedsOfAll_L4 n v0 v1 v2 v3 h) (fun p => w2 = p) := by
  intro n
  induction n with
  | zero => intro _ _ _ _ _ _ _ _ _ _ H; cases H
  | succ n ih =>
    intro v0 v1 v2 v3 h t w2 hR_t i0 i1 H
    rw [tX6_bedsOfAll_L4] at H
    rw [fX6_bedsOfAll_L4]
    refine ex.bd (r_gI hR_t (lc7 i1) rfl) ?_
    by_cases c2 : (t.1 v1 11) ≤ v3
    · rw [if_pos c2] at H
      refine ex.t c2 ?_
      obtain rfl := Option.some.inj H
      exact ex.nd rfl
    · rw [if_neg c2] at H
      refine ex.f c2 ?_
      refine ex.bd (r_gR hR_t (lc5 i0) rfl) ?_
      obtain ⟨x4, e5, H⟩ := am_bd H
      refine ex.bd (r_aI hR_t (la5_0 i0) e5) ?_
      exact ih _ _ _ _ _ _ _ hR_t i0 i1 H
set_option maxHeartbeats 4000000 in
set_option maxRecDepth 100000 in
theorem sX6_bedsOfAll {a0 : Nat} {a1 : Nat} {h : am_H} {t : tS} {r : Int32} (hR_t : Rp h t) (i0 : ly_Is 5 a0) (i1 : ly_Is 7 a1) (H : tX6_bedsOfAll a0 a1 t = some r) : ex (fX6_bedsOfAll a0 a1 h) (fun x => r = x) := by
  unfold tX6_bedsOfAll at H
  unfold fX6_bedsOfAll
  refine ex.bd (r_isO hR_t (lc5 i0)) ?_
  obtain ⟨lw6, E8, H⟩ := am_bd H
  refine ex.j1 (sX6_bedsOfAll_L4 _ _ _ _ _ _ _ _ hR_t i0 i1 E8) (fun z7 hq => ?_)
  clear E8
  obtain rfl : lw6 = z7 := hq
  obtain rfl := Option.some.inj H
  exact ex.nd rfl
def tX6_faded_L4 : Nat → Nat → Nat → Int32 → Int32 → tS → Option (Int32)
  | 0, _, _, _, _, _ => none
  | n + 1, v0, v1, v2, v3, t =>
    if (t.1 v1 12) ≤ v3 then
      some v2
    else
      (tA t (v0 + 3) 6 v3).bind fun x4 =>
      Option.bind (
        if ¬ x4 = 0 then
          some v2
        else
          some (v2 ||| (((1 : Int32)) <<< (v3 &&& 31)))) fun jv6 =>
      tX6_faded_L4 n v0 v1 jv6 (v3 + (1 : Int32)) t
def tX6_faded (a0 : Nat) (a1 : Nat) (t : tS) : Option (Int32) :=
  Option.bind (tX6_faded_L4 4000 a0 a1 ((0 : Int32)) ((0 : Int32)) t) fun lw10 =>
  some lw10
set_option maxHeartbeats 4000000 in
set_option maxRecDepth 100000 in
theorem sX6_faded_L4 : ∀ (n : Nat) (v0 : Nat) (v1 : Nat) (v2 : Int32) (v3 : Int32) (h : am_H) (t : tS) (w2 : Int32), Rp h t → ly_Is 5 v0 → ly_Is 7 v1 → tX6_faded_L4 n v0 v1 v2 v3 t = some w2 → ex (fX6_faded_L4 n v0 v1 v2 v3 h) (fun p => w2 = p) := by
  intro n
  induction n with
  | zero => intro _ _ _ _ _ _ _ _ _ _ H; cases H
  | succ n ih =>
    intro v0 v1 v2 v3 h t w2 hR_t i0 i1 H
    rw [tX6_faded_L4] at H
    rw [fX6_faded_L4]
    refine ex.bd (r_gI hR_t (lc7 i1) rfl) ?_
    by_cases c2 : (t.1 v1 12) ≤ v3
    · rw [if_pos c2] at H
      refine ex.t c2 ?_
      obtain rfl := Option.some.inj H
      exact ex.nd rfl
    · rw [if_neg c2] at H
      refine ex.f c2 ?_
      refine ex.bd (r_gR hR_t (lc5 i0) rfl) ?_
      obtain ⟨x4, e5, H⟩ := am_bd H
      refine ex.bd (r_aI hR_t (la5_2 i0) e5) ?_
      obtain ⟨jv6, E8, H⟩ := am_bd H
      refine ex.j1 (Q := fun p => jv6 = p) ?_ (fun z9 hq => ?_)
      · clear H
        have H := E8
        clear E8
        by_cases c7 : ¬ x4 = 0
        · rw [if_pos c7] at H
          refine ex.t c7 ?_
          obtain rfl := Option.some.inj H
          exact ex.nd rfl
        · rw [if_neg c7] at H
          refine ex.f c7 ?_
          obtain rfl := Option.some.inj H
          exact ex.nd rfl
      · clear E8
        obtain rfl : jv6 = z9 := hq
        exact ih _ _ _ _ _ _ _ hR_t i0 i1 H
set_option maxHeartbeats 4000000 in
set_option maxRecDepth 100000 in
theorem sX6_faded {a0 : Nat} {a1 : Nat} {h : am_H} {t : tS} {r : Int32} (hR_t : Rp h t) (i0 : ly_Is 5 a0) (i1 : ly_Is 7 a1) (H : tX6_faded a0 a1 t = some r) : ex (fX6_faded a0 a1 h) (fun x => r = x) := by
  unfold tX6_faded at H
  unfold fX6_faded
  refine ex.bd (r_isO hR_t (lc5 i0)) ?_
  obtain ⟨lw10, E12, H⟩ := am_bd H
  refine ex.j1 (sX6_faded_L4 _ _ _ _ _ _ _ _ hR_t i0 i1 E12) (fun z11 hq => ?_)
  clear E12
  obtain rfl : lw10 = z11 := hq
  obtain rfl := Option.some.inj H
  exact ex.nd rfl
def tX7_add (a1 : Int32) (t : tS) : Option (tS) :=
  Option.bind (
    if (Int32.ofNat 1000) ≤ (t.1 1 1) then
      some t
    else
      if a1 = ((10 : Int32)) then
        (tWA t 2 2 1000 (t.1 1 1) a1.toInt8.toInt32).bind fun tt11 =>
        (some (uI tt11 1 1 ((tt11.1 1 1) + ((1 : Int32))))).bind fun tt16 =>
        some tt16
      else
        (tX9_within a1 ((32 : Int32)) ((126 : Int32)) t).bind fun x20 =>
        if x20 = 0 then
          some t
        else
          (tWA t 2 2 1000 (t.1 1 1) a1.toInt8.toInt32).bind fun tt26 =>
          (some (uI tt26 1 1 ((tt26.1 1 1) + ((1 : Int32))))).bind fun tt31 =>
          some tt31) fun tt5 =>
  some tt5
set_option maxHeartbeats 4000000 in
set_option maxRecDepth 100000 in
theorem sX7_add {a1 : Int32} {h : am_H} {t : tS} {t1 : tS} (hR_t : Rp h t)  (H : tX7_add a1 t = some t1) : ex (fX7_add 1 a1 h) (fun h1 => Rp h1 t1) := by
  unfold tX7_add at H
  unfold fX7_add
  refine ex.bd (r_isO hR_t lk6) ?_
  refine ex.bd (r_gI hR_t lk6 rfl) ?_
  refine ex.bd (r_gR hR_t lk6 rfl) ?_
  refine ex.bd (r_len hR_t (la6_0 (a := 1) (by decide)) (by decide)) ?_
  obtain ⟨tt5, E34, H⟩ := am_bd H
  refine ex.j1 (Q := fun p => Rp p tt5) ?_ (fun hh4 hq => ?_)
  · clear H
    have H := E34
    clear E34
    by_cases c6 : (Int32.ofNat 1000) ≤ (t.1 1 1)
    · rw [if_pos c6] at H
      refine ex.t c6 ?_
      obtain rfl := Option.some.inj H
      exact ex.nd hR_t
    · rw [if_neg c6] at H
      refine ex.f c6 ?_
      by_cases c7 : a1 = ((10 : Int32))
      · rw [if_pos c7] at H
        refine ex.t c7 ?_
        refine ex.bd (r_gR hR_t lk6 rfl) ?_
        refine ex.bd (r_gI hR_t lk6 rfl) ?_
        obtain ⟨tt11, e12, H⟩ := am_bd H
        obtain ⟨hh10, e13, hR_tt11⟩ := r_sI hR_t (la6_0 (a := 1) (by decide)) e12
        refine ex.bd e13 ?_
        refine ex.bd (r_gI hR_tt11 lk6 rfl) ?_
        obtain ⟨tt16, et17, H⟩ := am_bd H
        obtain ⟨hh15, e18, hR_tt16⟩ := r_pI (k := 1) (x := (tt11.1 1 1) + ((1 : Int32))) hR_tt11 lk6 rfl rfl
        rw [Option.some.inj et17] at hR_tt16
        refine ex.bd e18 ?_
        obtain rfl := Option.some.inj H
        exact ex.nd hR_tt16
      · rw [if_neg c7] at H
        refine ex.f c7 ?_
        obtain ⟨x20, e19, H⟩ := am_bd H
        refine ex.j1 (sX9_within hR_t  e19) (fun z21 hz => ?_)
        obtain rfl : x20 = z21 := hz
        by_cases c22 : x20 = 0
        · rw [if_pos c22] at H
          refine ex.t c22 ?_
          obtain rfl := Option.some.inj H
          exact ex.nd hR_t
        · rw [if_neg c22] at H
          refine ex.f c22 ?_
          refine ex.bd (r_gR hR_t lk6 rfl) ?_
          refine ex.bd (r_gI hR_t lk6 rfl) ?_
          obtain ⟨tt26, e27, H⟩ := am_bd H
          obtain ⟨hh25, e28, hR_tt26⟩ := r_sI hR_t (la6_0 (a := 1) (by decide)) e27
          refine ex.bd e28 ?_
          refine ex.bd (r_gI hR_tt26 lk6 rfl) ?_
          obtain ⟨tt31, et32, H⟩ := am_bd H
          obtain ⟨hh30, e33, hR_tt31⟩ := r_pI (k := 1) (x := (tt26.1 1 1) + ((1 : Int32))) hR_tt26 lk6 rfl rfl
          rw [Option.some.inj et32] at hR_tt31
          refine ex.bd e33 ?_
          obtain rfl := Option.some.inj H
          exact ex.nd hR_tt31
  · clear E34
    have hR_tt5 : Rp hh4 tt5 := hq
    obtain rfl := Option.some.inj H
    exact ex.nd hR_tt5
def tX9_feedBytes_L3 : Nat → Int64 → Int32 → tS → Option (tS)
  | 0, _, _, _ => none
  | n + 1, v1, v3, t =>
    if v3 < 0 then
      some t
    else
      (tX7_add ((((v1.toUInt64 >>> (v3.toInt64.toUInt64 &&& Int64.toUInt64 63)).toInt64).toInt32) &&& ((255 : Int32))) t).bind fun tt5 =>
      tX9_feedBytes_L3 n v1 (v3 + (-8 : Int32)) tt5
def tX9_feedBytes (a1 : Int64) (t : tS) : Option (tS) :=
  Option.bind (tX9_feedBytes_L3 4000 a1 ((56 : Int32)) t) fun tt7 =>
  some tt7
set_option maxHeartbeats 4000000 in
set_option maxRecDepth 100000 in
theorem sX9_feedBytes_L3 : ∀ (n : Nat) (v1 : Int64) (v3 : Int32) (h : am_H) (t : tS) (t1 : tS), Rp h t → tX9_feedBytes_L3 n v1 v3 t = some t1 → ex (fX9_feedBytes_L3 n 0 v1 v3 h) (fun p => Rp p t1) := by
  intro n
  induction n with
  | zero => intro _ _ _ _ _ _ H; cases H
  | succ n ih =>
    intro v1 v3 h t t1 hR_t H
    rw [tX9_feedBytes_L3] at H
    rw [fX9_feedBytes_L3]
    by_cases c1 : v3 < 0
    · rw [if_pos c1] at H
      refine ex.t c1 ?_
      obtain rfl := Option.some.inj H
      exact ex.nd hR_t
    · rw [if_neg c1] at H
      refine ex.f c1 ?_
      refine ex.bd (r_gR hR_t lk8 rfl) ?_
      obtain ⟨tt5, e3, H⟩ := am_bd H
      refine ex.j1 (sX7_add hR_t  e3) (fun hh4 hR_tt5 => ?_)
      exact ih _ _ _ _ _ hR_tt5  H
set_option maxHeartbeats 4000000 in
set_option maxRecDepth 100000 in
theorem sX9_feedBytes {a1 : Int64} {h : am_H} {t : tS} {t1 : tS} (hR_t : Rp h t)  (H : tX9_feedBytes a1 t = some t1) : ex (fX9_feedBytes 0 a1 h) (fun h1 => Rp h1 t1) := by
  unfold tX9_feedBytes at H
  unfold fX9_feedBytes
  refine ex.bd (r_isO hR_t lk8) ?_
  obtain ⟨tt7, E8, H⟩ := am_bd H
  refine ex.j1 (sX9_feedBytes_L3 _ _ _ _ _ _ hR_t  E8) (fun hh6 hq => ?_)
  clear E8
  have hR_tt7 : Rp hh6 tt7 := hq
  obtain rfl := Option.some.inj H
  exact ex.nd hR_tt7
def tX9_feed (a1 : Int64) (a2 : Int64) (a3 : Int64) (t : tS) : Option (Int32 × tS) :=
  (tX9_feedBytes a1 t).bind fun tt3 =>
  (tX9_feedBytes a2 tt3).bind fun tt6 =>
  (tX9_feedBytes a3 tt6).bind fun tt9 =>
  some (tt9.1 1 1, tt9)
set_option maxHeartbeats 4000000 in
set_option maxRecDepth 100000 in
theorem sX9_feed {a1 : Int64} {a2 : Int64} {a3 : Int64} {h : am_H} {t : tS} {r : Int32} {t1 : tS} (hR_t : Rp h t)  (H : tX9_feed a1 a2 a3 t = some (r, t1)) : ex (fX9_feed 0 a1 a2 a3 h) (fun p => r = p.1 ∧ Rp p.2 t1) := by
  unfold tX9_feed at H
  unfold fX9_feed
  refine ex.bd (r_isO hR_t lk8) ?_
  obtain ⟨tt3, e1, H⟩ := am_bd H
  refine ex.j1 (sX9_feedBytes hR_t  e1) (fun hh2 hR_tt3 => ?_)
  obtain ⟨tt6, e4, H⟩ := am_bd H
  refine ex.j1 (sX9_feedBytes hR_tt3  e4) (fun hh5 hR_tt6 => ?_)
  obtain ⟨tt9, e7, H⟩ := am_bd H
  refine ex.j1 (sX9_feedBytes hR_tt6  e7) (fun hh8 hR_tt9 => ?_)
  refine ex.bd (r_gR hR_tt9 lk8 rfl) ?_
  refine ex.bd (r_gI hR_tt9 lk6 rfl) ?_
  obtain ⟨rfl, rfl⟩ := am_inj2 H
  exact ex.nd ⟨rfl, hR_tt9⟩
def tX9_startAnew_L37 : Nat → Int32 → tS → Option (tS)
  | 0, _, _ => none
  | n + 1, v1, t =>
    if ((4 : Int32)) ≤ v1 then
      some t
    else
      (tQ 132 11 4 v1).bind fun r27 =>
      (some (uI t r27 2 ((0 : Int32)))).bind fun tt32 =>
      tX9_startAnew_L37 n (v1 + (1 : Int32)) tt32
def tX9_startAnew  (t : tS) : Option (tS) :=
  (tX6_begin 3 (t.2.2.2.2 0 9) t).bind fun tt7 =>
  (some (uI tt7 (tt7.2.2.2.2 0 11) 3 ((0 : Int32)))).bind fun tt12 =>
  (some (uI tt12 176 2 ((0 : Int32)))).bind fun tt17 =>
  (some (uI tt17 17 2 ((0 : Int32)))).bind fun tt22 =>
  Option.bind (tX9_startAnew_L37 4000 ((0 : Int32)) tt22) fun tt36 =>
  some tt36
set_option maxHeartbeats 4000000 in
set_option maxRecDepth 100000 in
theorem sX9_startAnew_L37 : ∀ (n : Nat) (v1 : Int32) (h : am_H) (t : tS) (t1 : tS), Rp h t → tX9_startAnew_L37 n v1 t = some t1 → ex (fX9_startAnew_L37 n 0 v1 h) (fun p => Rp p t1) := by
  intro n
  induction n with
  | zero => intro _ _ _ _ _ H; cases H
  | succ n ih =>
    intro v1 h t t1 hR_t H
    rw [tX9_startAnew_L37] at H
    rw [fX9_startAnew_L37]
    by_cases c25 : ((4 : Int32)) ≤ v1
    · rw [if_pos c25] at H
      refine ex.t c25 ?_
      obtain rfl := Option.some.inj H
      exact ex.nd hR_t
    · rw [if_neg c25] at H
      refine ex.f c25 ?_
      refine ex.bd (r_gR hR_t lk8 rfl) ?_
      obtain ⟨r27, e28, H⟩ := am_bd H
      obtain ⟨q29, iq30⟩ := r_aM hR_t e28
      refine ex.bd q29 ?_
      obtain ⟨tt32, et33, H⟩ := am_bd H
      obtain ⟨hh31, e34, hR_tt32⟩ := r_pI (k := 2) (x := (0 : Int32)) hR_t (lc2 iq30) rfl rfl
      rw [Option.some.inj et33] at hR_tt32
      refine ex.bd e34 ?_
      exact ih _ _ _ _ hR_tt32  H
set_option maxHeartbeats 4000000 in
set_option maxRecDepth 100000 in
theorem sX9_startAnew  {h : am_H} {t : tS} {t1 : tS} (hR_t : Rp h t)  (H : tX9_startAnew  t = some t1) : ex (fX9_startAnew 0 h) (fun h1 => Rp h1 t1) := by
  unfold tX9_startAnew at H
  unfold fX9_startAnew
  refine ex.bd (r_isO hR_t lk8) ?_
  refine ex.bd (r_gR hR_t lk8 rfl) ?_
  obtain ⟨eD3, iD4⟩ := r_gD hR_t (k := 9) (by decide) (by decide)
  refine ex.bd eD3 ?_
  obtain ⟨tt7, e5, H⟩ := am_bd H
  refine ex.j1 (sX6_begin hR_t (show ly_Is 5 3 by decide) iD4 e5) (fun hh6 hR_tt7 => ?_)
  obtain ⟨eD9, iD10⟩ := r_gD hR_tt7 (k := 11) (by decide) (by decide)
  refine ex.bd eD9 ?_
  obtain ⟨tt12, et13, H⟩ := am_bd H
  obtain ⟨hh11, e14, hR_tt12⟩ := r_pI (k := 3) (x := (0 : Int32)) hR_tt7 (lc3 iD10) rfl rfl
  rw [Option.some.inj et13] at hR_tt12
  refine ex.bd e14 ?_
  refine ex.bd (r_gR hR_tt12 lk8 rfl) ?_
  obtain ⟨tt17, et18, H⟩ := am_bd H
  obtain ⟨hh16, e19, hR_tt17⟩ := r_pI (k := 2) (x := (0 : Int32)) hR_tt12 (lc4 (show ly_Is 4 176 by decide)) rfl rfl
  rw [Option.some.inj et18] at hR_tt17
  refine ex.bd e19 ?_
  refine ex.bd (r_gR hR_tt17 lk8 rfl) ?_
  obtain ⟨tt22, et23, H⟩ := am_bd H
  obtain ⟨hh21, e24, hR_tt22⟩ := r_pI (k := 2) (x := (0 : Int32)) hR_tt17 lk0 rfl rfl
  rw [Option.some.inj et23] at hR_tt22
  refine ex.bd e24 ?_
  obtain ⟨tt36, E37, H⟩ := am_bd H
  refine ex.j1 (sX9_startAnew_L37 _ _ _ _ _ hR_tt22  E37) (fun hh35 hq => ?_)
  clear E37
  have hR_tt36 : Rp hh35 tt36 := hq
  obtain rfl := Option.some.inj H
  exact ex.nd hR_tt36
def tX9_year  (t : tS) : Option (Int32 × tS) :=
  am_b2 (tX4_readPlan (t.2.2.2.2 0 9) (t.2.2.2.2 0 12) t) fun x9 tt11 =>
  (some (uI tt11 1 1 ((0 : Int32)))).bind fun tt15 =>
  Option.bind (
    if ¬ x9 = 0 then
      some tt15
    else
      (some (uR tt15 0 11 (tt15.2.2.2.2 0 12))).bind fun tt28 =>
      (some (uR tt28 0 12 (tt15.2.2.2.2 0 11))).bind fun tt32 =>
      some tt32) fun tt19 =>
  some (x9, tt19)
set_option maxHeartbeats 4000000 in
set_option maxRecDepth 100000 in
theorem sX9_year  {h : am_H} {t : tS} {r : Int32} {t1 : tS} (hR_t : Rp h t)  (H : tX9_year  t = some (r, t1)) : ex (fX9_year 0 h) (fun p => r = p.1 ∧ Rp p.2 t1) := by
  unfold tX9_year at H
  unfold fX9_year
  refine ex.bd (r_isO hR_t lk8) ?_
  refine ex.bd (r_gR hR_t lk8 rfl) ?_
  obtain ⟨eD3, iD4⟩ := r_gD hR_t (k := 9) (by decide) (by decide)
  refine ex.bd eD3 ?_
  obtain ⟨eD6, iD7⟩ := r_gD hR_t (k := 12) (by decide) (by decide)
  refine ex.bd eD6 ?_
  obtain ⟨x9, tt11, e8, H⟩ := am_bd2 H
  refine ex.j2 (sX4_readPlan hR_t iD4 iD7 e8) (fun z12 hh10 hz => ?_)
  obtain ⟨rfl, hR_tt11⟩ : x9 = z12 ∧ Rp hh10 tt11 := hz
  refine ex.bd (r_gR hR_tt11 lk8 rfl) ?_
  obtain ⟨tt15, et16, H⟩ := am_bd H
  obtain ⟨hh14, e17, hR_tt15⟩ := r_pI (k := 1) (x := (0 : Int32)) hR_tt11 lk6 rfl rfl
  rw [Option.some.inj et16] at hR_tt15
  refine ex.bd e17 ?_
  obtain ⟨tt19, E35, H⟩ := am_bd H
  refine ex.j1 (Q := fun p => Rp p tt19) ?_ (fun hh18 hq => ?_)
  · clear H
    have H := E35
    clear E35
    by_cases c20 : ¬ x9 = 0
    · rw [if_pos c20] at H
      refine ex.t c20 ?_
      obtain rfl := Option.some.inj H
      exact ex.nd hR_tt15
    · rw [if_neg c20] at H
      refine ex.f c20 ?_
      obtain ⟨eD22, iD23⟩ := r_gD hR_tt15 (k := 11) (by decide) (by decide)
      refine ex.bd eD22 ?_
      obtain ⟨eD25, iD26⟩ := r_gD hR_tt15 (k := 12) (by decide) (by decide)
      refine ex.bd eD25 ?_
      obtain ⟨tt28, et29, H⟩ := am_bd H
      obtain ⟨hh27, e30, hR_tt28⟩ := r_pD (k := 11) hR_tt15 (by decide) (by decide) iD26
      rw [Option.some.inj et29] at hR_tt28
      refine ex.bd e30 ?_
      obtain ⟨tt32, et33, H⟩ := am_bd H
      obtain ⟨hh31, e34, hR_tt32⟩ := r_pD (k := 12) hR_tt28 (by decide) (by decide) iD23
      rw [Option.some.inj et33] at hR_tt32
      refine ex.bd e34 ?_
      obtain rfl := Option.some.inj H
      exact ex.nd hR_tt32
  · clear E35
    have hR_tt19 : Rp hh18 tt19 := hq
    obtain ⟨rfl, rfl⟩ := am_inj2 H
    exact ex.nd ⟨rfl, hR_tt19⟩
def tX9_isHouse (a1 : Int32) (t : tS) : Option (Int32) :=
  (tX9_within a1 ((0 : Int32)) ((t.1 (t.2.2.2.2 0 9) 11) - ((1 : Int32))) t).bind fun x6 =>
  (am_z01 x6).bind fun b8 =>
  some b8
set_option maxHeartbeats 4000000 in
set_option maxRecDepth 100000 in
theorem sX9_isHouse {a1 : Int32} {h : am_H} {t : tS} {r : Int32} (hR_t : Rp h t)  (H : tX9_isHouse a1 t = some r) : ex (fX9_isHouse 0 a1 h) (fun x => r = x) := by
  unfold tX9_isHouse at H
  unfold fX9_isHouse
  refine ex.bd (r_isO hR_t lk8) ?_
  obtain ⟨eD2, iD3⟩ := r_gD hR_t (k := 9) (by decide) (by decide)
  refine ex.bd eD2 ?_
  refine ex.bd (r_gI hR_t (lc7 iD3) rfl) ?_
  obtain ⟨x6, e5, H⟩ := am_bd H
  refine ex.j1 (sX9_within hR_t  e5) (fun z7 hz => ?_)
  obtain rfl : x6 = z7 := hz
  obtain ⟨b8, e9, H⟩ := am_bd H
  refine ex.bd e9 ?_
  obtain rfl := Option.some.inj H
  exact ex.nd rfl
def tX9_house (a1 : Int32) (a2 : Int32) (t : tS) : Option (Int32) :=
  (tX9_isHouse a1 t).bind fun x2 =>
  if ¬ x2 = 0 then
    if a2.toInt < 0 ∨ 4 < a2.toInt then
      some ((-2 : Int32))
    else (some (a2.toInt - 0).toNat).bind fun k6 =>
    if k6 = 0 then
      (tA t 4 4 a1).bind fun x10 =>
      some x10
    else if k6 = 1 then
      (tX6_freeBeds 3 (t.2.2.2.2 0 9) a1 t).bind fun x18 =>
      some x18
    else if k6 = 2 then
      (tX6_guests 3 (t.2.2.2.2 0 9) a1 t).bind fun x26 =>
      some x26
    else if k6 = 3 then
      (tA t (t.2.2.2.2 0 9 + 3) 4 a1).bind fun x33 =>
      some x33
    else if k6 = 4 then
      (tX6_talk 3 (t.2.2.2.2 0 9) a1 t).bind fun x41 =>
      some x41
    else none
  else
    some ((-2 : Int32))
set_option maxHeartbeats 4000000 in
set_option maxRecDepth 100000 in
theorem sX9_house {a1 : Int32} {a2 : Int32} {h : am_H} {t : tS} {r : Int32} (hR_t : Rp h t)  (H : tX9_house a1 a2 t = some r) : ex (fX9_house 0 a1 a2 h) (fun x => r = x) := by
  unfold tX9_house at H
  unfold fX9_house
  refine ex.bd (r_isO hR_t lk8) ?_
  obtain ⟨x2, e1, H⟩ := am_bd H
  refine ex.j1 (sX9_isHouse hR_t  e1) (fun z3 hz => ?_)
  obtain rfl : x2 = z3 := hz
  by_cases c4 : ¬ x2 = 0
  · rw [if_pos c4] at H
    refine ex.t c4 ?_
    by_cases c5 : a2.toInt < 0 ∨ 4 < a2.toInt
    · rw [if_pos c5] at H
      refine ex.t c5 ?_
      obtain rfl := Option.some.inj H
      exact ex.nd rfl
    · rw [if_neg c5] at H
      refine ex.f c5 ?_
      obtain ⟨k6, e7, H⟩ := am_bd H
      refine ex.bd e7 ?_
      by_cases c12 : k6 = 0
      · rw [if_pos c12] at H
        refine ex.t c12 ?_
        refine ex.bd (r_gR hR_t lk8 rfl) ?_
        refine ex.bd (r_gR hR_t (lc5 (show ly_Is 5 3 by decide)) rfl) ?_
        obtain ⟨x10, e11, H⟩ := am_bd H
        refine ex.bd (r_aI hR_t (la5_0 (show ly_Is 5 3 by decide)) e11) ?_
        obtain rfl := Option.some.inj H
        exact ex.nd rfl
      · rw [if_neg c12] at H
        refine ex.f c12 ?_
        by_cases c20 : k6 = 1
        · rw [if_pos c20] at H
          refine ex.t c20 ?_
          refine ex.bd (r_gR hR_t lk8 rfl) ?_
          obtain ⟨eD15, iD16⟩ := r_gD hR_t (k := 9) (by decide) (by decide)
          refine ex.bd eD15 ?_
          obtain ⟨x18, e17, H⟩ := am_bd H
          refine ex.j1 (sX6_freeBeds hR_t (show ly_Is 5 3 by decide) iD16 e17) (fun z19 hz => ?_)
          obtain rfl : x18 = z19 := hz
          obtain rfl := Option.some.inj H
          exact ex.nd rfl
        · rw [if_neg c20] at H
          refine ex.f c20 ?_
          by_cases c28 : k6 = 2
          · rw [if_pos c28] at H
            refine ex.t c28 ?_
            refine ex.bd (r_gR hR_t lk8 rfl) ?_
            obtain ⟨eD23, iD24⟩ := r_gD hR_t (k := 9) (by decide) (by decide)
            refine ex.bd eD23 ?_
            obtain ⟨x26, e25, H⟩ := am_bd H
            refine ex.j1 (sX6_guests hR_t (show ly_Is 5 3 by decide) iD24 e25) (fun z27 hz => ?_)
            obtain rfl : x26 = z27 := hz
            obtain rfl := Option.some.inj H
            exact ex.nd rfl
          · rw [if_neg c28] at H
            refine ex.f c28 ?_
            by_cases c35 : k6 = 3
            · rw [if_pos c35] at H
              refine ex.t c35 ?_
              obtain ⟨eD30, iD31⟩ := r_gD hR_t (k := 9) (by decide) (by decide)
              refine ex.bd eD30 ?_
              refine ex.bd (r_gR hR_t (lc7 iD31) rfl) ?_
              obtain ⟨x33, e34, H⟩ := am_bd H
              refine ex.bd (r_aI hR_t (la7_2 iD31) e34) ?_
              obtain rfl := Option.some.inj H
              exact ex.nd rfl
            · rw [if_neg c35] at H
              refine ex.f c35 ?_
              by_cases c43 : k6 = 4
              · rw [if_pos c43] at H
                refine ex.t c43 ?_
                refine ex.bd (r_gR hR_t lk8 rfl) ?_
                obtain ⟨eD38, iD39⟩ := r_gD hR_t (k := 9) (by decide) (by decide)
                refine ex.bd eD38 ?_
                obtain ⟨x41, e40, H⟩ := am_bd H
                refine ex.j1 (sX6_talk hR_t (show ly_Is 5 3 by decide) iD39 e40) (fun z42 hz => ?_)
                obtain rfl : x41 = z42 := hz
                obtain rfl := Option.some.inj H
                exact ex.nd rfl
              · rw [if_neg c43] at H
                refine ex.f c43 ?_
                cases H
  · rw [if_neg c4] at H
    refine ex.f c4 ?_
    obtain rfl := Option.some.inj H
    exact ex.nd rfl
def tX9_isDay (a1 : Int32) (t : tS) : Option (Int32) :=
  (tX9_within a1 ((0 : Int32)) ((t.1 (t.2.2.2.2 0 9) 12) - ((1 : Int32))) t).bind fun x6 =>
  (am_z01 x6).bind fun b8 =>
  some b8
set_option maxHeartbeats 4000000 in
set_option maxRecDepth 100000 in
theorem sX9_isDay {a1 : Int32} {h : am_H} {t : tS} {r : Int32} (hR_t : Rp h t)  (H : tX9_isDay a1 t = some r) : ex (fX9_isDay 0 a1 h) (fun x => r = x) := by
  unfold tX9_isDay at H
  unfold fX9_isDay
  refine ex.bd (r_isO hR_t lk8) ?_
  obtain ⟨eD2, iD3⟩ := r_gD hR_t (k := 9) (by decide) (by decide)
  refine ex.bd eD2 ?_
  refine ex.bd (r_gI hR_t (lc7 iD3) rfl) ?_
  obtain ⟨x6, e5, H⟩ := am_bd H
  refine ex.j1 (sX9_within hR_t  e5) (fun z7 hz => ?_)
  obtain rfl : x6 = z7 := hz
  obtain ⟨b8, e9, H⟩ := am_bd H
  refine ex.bd e9 ?_
  obtain rfl := Option.some.inj H
  exact ex.nd rfl
def tX9_day (a1 : Int32) (a2 : Int32) (t : tS) : Option (Int32) :=
  (tX9_isDay a1 t).bind fun x2 =>
  if ¬ x2 = 0 then
    if a2.toInt < 0 ∨ 7 < a2.toInt then
      some ((-2 : Int32))
    else (some (a2.toInt - 0).toNat).bind fun k6 =>
    if k6 = 0 then
      (tA t (t.2.2.2.2 0 9 + 5) 6 a1).bind fun x12 =>
      some x12
    else if k6 = 1 then
      (tA t (t.2.2.2.2 0 9 + 6) 6 a1).bind fun x19 =>
      some x19
    else if k6 = 2 then
      (tA t (t.2.2.2.2 0 9 + 7) 6 a1).bind fun x26 =>
      some x26
    else if k6 = 3 then
      (tA t 6 6 a1).bind fun x31 =>
      some x31
    else if k6 = 4 then
      (tA t 7 6 a1).bind fun x36 =>
      some x36
    else if k6 = 5 then
      (tA t 8 6 a1).bind fun x41 =>
      some x41
    else if k6 = 6 then
      (tA t 9 6 a1).bind fun x46 =>
      some x46
    else if k6 = 7 then
      (tA t (t.2.2.2.2 0 9 + 9) 6 a1).bind fun x53 =>
      some x53
    else none
  else
    some ((-2 : Int32))
set_option maxHeartbeats 4000000 in
set_option maxRecDepth 100000 in
theorem sX9_day {a1 : Int32} {a2 : Int32} {h : am_H} {t : tS} {r : Int32} (hR_t : Rp h t)  (H : tX9_day a1 a2 t = some r) : ex (fX9_day 0 a1 a2 h) (fun x => r = x) := by
  unfold tX9_day at H
  unfold fX9_day
  refine ex.bd (r_isO hR_t lk8) ?_
  obtain ⟨x2, e1, H⟩ := am_bd H
  refine ex.j1 (sX9_isDay hR_t  e1) (fun z3 hz => ?_)
  obtain rfl : x2 = z3 := hz
  by_cases c4 : ¬ x2 = 0
  · rw [if_pos c4] at H
    refine ex.t c4 ?_
    by_cases c5 : a2.toInt < 0 ∨ 7 < a2.toInt
    · rw [if_pos c5] at H
      refine ex.t c5 ?_
      obtain rfl := Option.some.inj H
      exact ex.nd rfl
    · rw [if_neg c5] at H
      refine ex.f c5 ?_
      obtain ⟨k6, e7, H⟩ := am_bd H
      refine ex.bd e7 ?_
      by_cases c14 : k6 = 0
      · rw [if_pos c14] at H
        refine ex.t c14 ?_
        obtain ⟨eD9, iD10⟩ := r_gD hR_t (k := 9) (by decide) (by decide)
        refine ex.bd eD9 ?_
        refine ex.bd (r_gR hR_t (lc7 iD10) rfl) ?_
        obtain ⟨x12, e13, H⟩ := am_bd H
        refine ex.bd (r_aI hR_t (la7_4 iD10) e13) ?_
        obtain rfl := Option.some.inj H
        exact ex.nd rfl
      · rw [if_neg c14] at H
        refine ex.f c14 ?_
        by_cases c21 : k6 = 1
        · rw [if_pos c21] at H
          refine ex.t c21 ?_
          obtain ⟨eD16, iD17⟩ := r_gD hR_t (k := 9) (by decide) (by decide)
          refine ex.bd eD16 ?_
          refine ex.bd (r_gR hR_t (lc7 iD17) rfl) ?_
          obtain ⟨x19, e20, H⟩ := am_bd H
          refine ex.bd (r_aI hR_t (la7_5 iD17) e20) ?_
          obtain rfl := Option.some.inj H
          exact ex.nd rfl
        · rw [if_neg c21] at H
          refine ex.f c21 ?_
          by_cases c28 : k6 = 2
          · rw [if_pos c28] at H
            refine ex.t c28 ?_
            obtain ⟨eD23, iD24⟩ := r_gD hR_t (k := 9) (by decide) (by decide)
            refine ex.bd eD23 ?_
            refine ex.bd (r_gR hR_t (lc7 iD24) rfl) ?_
            obtain ⟨x26, e27, H⟩ := am_bd H
            refine ex.bd (r_aI hR_t (la7_6 iD24) e27) ?_
            obtain rfl := Option.some.inj H
            exact ex.nd rfl
          · rw [if_neg c28] at H
            refine ex.f c28 ?_
            by_cases c33 : k6 = 3
            · rw [if_pos c33] at H
              refine ex.t c33 ?_
              refine ex.bd (r_gR hR_t lk8 rfl) ?_
              refine ex.bd (r_gR hR_t (lc5 (show ly_Is 5 3 by decide)) rfl) ?_
              obtain ⟨x31, e32, H⟩ := am_bd H
              refine ex.bd (r_aI hR_t (la5_2 (show ly_Is 5 3 by decide)) e32) ?_
              obtain rfl := Option.some.inj H
              exact ex.nd rfl
            · rw [if_neg c33] at H
              refine ex.f c33 ?_
              by_cases c38 : k6 = 4
              · rw [if_pos c38] at H
                refine ex.t c38 ?_
                refine ex.bd (r_gR hR_t lk8 rfl) ?_
                refine ex.bd (r_gR hR_t (lc5 (show ly_Is 5 3 by decide)) rfl) ?_
                obtain ⟨x36, e37, H⟩ := am_bd H
                refine ex.bd (r_aI hR_t (la5_3 (show ly_Is 5 3 by decide)) e37) ?_
                obtain rfl := Option.some.inj H
                exact ex.nd rfl
              · rw [if_neg c38] at H
                refine ex.f c38 ?_
                by_cases c43 : k6 = 5
                · rw [if_pos c43] at H
                  refine ex.t c43 ?_
                  refine ex.bd (r_gR hR_t lk8 rfl) ?_
                  refine ex.bd (r_gR hR_t (lc5 (show ly_Is 5 3 by decide)) rfl) ?_
                  obtain ⟨x41, e42, H⟩ := am_bd H
                  refine ex.bd (r_aI hR_t (la5_4 (show ly_Is 5 3 by decide)) e42) ?_
                  obtain rfl := Option.some.inj H
                  exact ex.nd rfl
                · rw [if_neg c43] at H
                  refine ex.f c43 ?_
                  by_cases c48 : k6 = 6
                  · rw [if_pos c48] at H
                    refine ex.t c48 ?_
                    refine ex.bd (r_gR hR_t lk8 rfl) ?_
                    refine ex.bd (r_gR hR_t (lc5 (show ly_Is 5 3 by decide)) rfl) ?_
                    obtain ⟨x46, e47, H⟩ := am_bd H
                    refine ex.bd (r_aI hR_t (la5_5 (show ly_Is 5 3 by decide)) e47) ?_
                    obtain rfl := Option.some.inj H
                    exact ex.nd rfl
                  · rw [if_neg c48] at H
                    refine ex.f c48 ?_
                    by_cases c55 : k6 = 7
                    · rw [if_pos c55] at H
                      refine ex.t c55 ?_
                      obtain ⟨eD50, iD51⟩ := r_gD hR_t (k := 9) (by decide) (by decide)
                      refine ex.bd eD50 ?_
                      refine ex.bd (r_gR hR_t (lc7 iD51) rfl) ?_
                      obtain ⟨x53, e54, H⟩ := am_bd H
                      refine ex.bd (r_aI hR_t (la7_8 iD51) e54) ?_
                      obtain rfl := Option.some.inj H
                      exact ex.nd rfl
                    · rw [if_neg c55] at H
                      refine ex.f c55 ?_
                      cases H
  · rw [if_neg c4] at H
    refine ex.f c4 ?_
    obtain rfl := Option.some.inj H
    exact ex.nd rfl
def tX9_date  (t : tS) : Option (Int32 × tS) :=
  (tX0_keep 3 t).bind fun tt5 =>
  (tX6_passDate 3 (tt5.2.2.2.2 0 9) tt5).bind fun tt12 =>
  some (tt12.1 3 9, tt12)
set_option maxHeartbeats 4000000 in
set_option maxRecDepth 100000 in
theorem sX9_date  {h : am_H} {t : tS} {r : Int32} {t1 : tS} (hR_t : Rp h t)  (H : tX9_date  t = some (r, t1)) : ex (fX9_date 0 h) (fun p => r = p.1 ∧ Rp p.2 t1) := by
  unfold tX9_date at H
  unfold fX9_date
  refine ex.bd (r_isO hR_t lk8) ?_
  refine ex.bd (r_gR hR_t lk8 rfl) ?_
  refine ex.bd (r_gR hR_t lk8 rfl) ?_
  obtain ⟨tt5, e3, H⟩ := am_bd H
  refine ex.j1 (sX0_keep hR_t (show ly_Is 5 3 by decide) e3) (fun hh4 hR_tt5 => ?_)
  refine ex.bd (r_gR hR_tt5 lk8 rfl) ?_
  obtain ⟨eD8, iD9⟩ := r_gD hR_tt5 (k := 9) (by decide) (by decide)
  refine ex.bd eD8 ?_
  obtain ⟨tt12, e10, H⟩ := am_bd H
  refine ex.j1 (sX6_passDate hR_tt5 (show ly_Is 5 3 by decide) iD9 e10) (fun hh11 hR_tt12 => ?_)
  refine ex.bd (r_gR hR_tt12 lk8 rfl) ?_
  refine ex.bd (r_gI hR_tt12 (lc5 (show ly_Is 5 3 by decide)) rfl) ?_
  obtain ⟨rfl, rfl⟩ := am_inj2 H
  exact ex.nd ⟨rfl, hR_tt12⟩
def tX9_move (a1 : Int32) (a2 : Int32) (t : tS) : Option (Int32 × tS) :=
  (tX9_isDay a1 t).bind fun x2 =>
  if x2 = 0 then
    some ((0 : Int32), t)
  else
    (tX9_isHouse a2 t).bind fun x6 =>
    if x6 = 0 then
      some ((0 : Int32), t)
    else
      (tX6_canShift 3 (t.2.2.2.2 0 9) a1 a2 t).bind fun x14 =>
      if ¬ x14 = 0 then
        (tX0_keep 3 t).bind fun tt21 =>
        (tX6_shift 3 a1 a2 tt21).bind fun tt25 =>
        some ((1 : Int32), tt25)
      else
        some ((0 : Int32), t)
set_option maxHeartbeats 4000000 in
set_option maxRecDepth 100000 in
theorem sX9_move {a1 : Int32} {a2 : Int32} {h : am_H} {t : tS} {r : Int32} {t1 : tS} (hR_t : Rp h t)  (H : tX9_move a1 a2 t = some (r, t1)) : ex (fX9_move 0 a1 a2 h) (fun p => r = p.1 ∧ Rp p.2 t1) := by
  unfold tX9_move at H
  unfold fX9_move
  refine ex.bd (r_isO hR_t lk8) ?_
  obtain ⟨x2, e1, H⟩ := am_bd H
  refine ex.j1 (sX9_isDay hR_t  e1) (fun z3 hz => ?_)
  obtain rfl : x2 = z3 := hz
  by_cases c4 : x2 = 0
  · rw [if_pos c4] at H
    refine ex.t c4 ?_
    obtain ⟨rfl, rfl⟩ := am_inj2 H
    exact ex.nd ⟨rfl, hR_t⟩
  · rw [if_neg c4] at H
    refine ex.f c4 ?_
    obtain ⟨x6, e5, H⟩ := am_bd H
    refine ex.j1 (sX9_isHouse hR_t  e5) (fun z7 hz => ?_)
    obtain rfl : x6 = z7 := hz
    by_cases c8 : x6 = 0
    · rw [if_pos c8] at H
      refine ex.t c8 ?_
      obtain ⟨rfl, rfl⟩ := am_inj2 H
      exact ex.nd ⟨rfl, hR_t⟩
    · rw [if_neg c8] at H
      refine ex.f c8 ?_
      refine ex.bd (r_gR hR_t lk8 rfl) ?_
      obtain ⟨eD11, iD12⟩ := r_gD hR_t (k := 9) (by decide) (by decide)
      refine ex.bd eD11 ?_
      obtain ⟨x14, e13, H⟩ := am_bd H
      refine ex.j1 (sX6_canShift hR_t (show ly_Is 5 3 by decide) iD12 e13) (fun z15 hz => ?_)
      obtain rfl : x14 = z15 := hz
      by_cases c16 : ¬ x14 = 0
      · rw [if_pos c16] at H
        refine ex.t c16 ?_
        refine ex.bd (r_gR hR_t lk8 rfl) ?_
        refine ex.bd (r_gR hR_t lk8 rfl) ?_
        obtain ⟨tt21, e19, H⟩ := am_bd H
        refine ex.j1 (sX0_keep hR_t (show ly_Is 5 3 by decide) e19) (fun hh20 hR_tt21 => ?_)
        refine ex.bd (r_gR hR_tt21 lk8 rfl) ?_
        obtain ⟨tt25, e23, H⟩ := am_bd H
        refine ex.j1 (sX6_shift hR_tt21 (show ly_Is 5 3 by decide) e23) (fun hh24 hR_tt25 => ?_)
        obtain ⟨rfl, rfl⟩ := am_inj2 H
        exact ex.nd ⟨rfl, hR_tt25⟩
      · rw [if_neg c16] at H
        refine ex.f c16 ?_
        obtain ⟨rfl, rfl⟩ := am_inj2 H
        exact ex.nd ⟨rfl, hR_t⟩
def tX9_send (a1 : Int32) (t : tS) : Option (Int32 × tS) :=
  (tX9_isDay a1 t).bind fun x2 =>
  if x2 = 0 then
    some ((0 : Int32), t)
  else
    (tA t 7 6 a1).bind fun x7 =>
    if ¬ x7 = ((-1 : Int32)) then
      (tX0_keep 3 t).bind fun tt14 =>
      (tX6_leave 3 a1 tt14).bind fun tt18 =>
      some ((1 : Int32), tt18)
    else
      some ((0 : Int32), t)
set_option maxHeartbeats 4000000 in
set_option maxRecDepth 100000 in
theorem sX9_send {a1 : Int32} {h : am_H} {t : tS} {r : Int32} {t1 : tS} (hR_t : Rp h t)  (H : tX9_send a1 t = some (r, t1)) : ex (fX9_send 0 a1 h) (fun p => r = p.1 ∧ Rp p.2 t1) := by
  unfold tX9_send at H
  unfold fX9_send
  refine ex.bd (r_isO hR_t lk8) ?_
  obtain ⟨x2, e1, H⟩ := am_bd H
  refine ex.j1 (sX9_isDay hR_t  e1) (fun z3 hz => ?_)
  obtain rfl : x2 = z3 := hz
  by_cases c4 : x2 = 0
  · rw [if_pos c4] at H
    refine ex.t c4 ?_
    obtain ⟨rfl, rfl⟩ := am_inj2 H
    exact ex.nd ⟨rfl, hR_t⟩
  · rw [if_neg c4] at H
    refine ex.f c4 ?_
    refine ex.bd (r_gR hR_t lk8 rfl) ?_
    refine ex.bd (r_gR hR_t (lc5 (show ly_Is 5 3 by decide)) rfl) ?_
    obtain ⟨x7, e8, H⟩ := am_bd H
    refine ex.bd (r_aI hR_t (la5_3 (show ly_Is 5 3 by decide)) e8) ?_
    by_cases c9 : ¬ x7 = ((-1 : Int32))
    · rw [if_pos c9] at H
      refine ex.t c9 ?_
      refine ex.bd (r_gR hR_t lk8 rfl) ?_
      refine ex.bd (r_gR hR_t lk8 rfl) ?_
      obtain ⟨tt14, e12, H⟩ := am_bd H
      refine ex.j1 (sX0_keep hR_t (show ly_Is 5 3 by decide) e12) (fun hh13 hR_tt14 => ?_)
      refine ex.bd (r_gR hR_tt14 lk8 rfl) ?_
      obtain ⟨tt18, e16, H⟩ := am_bd H
      refine ex.j1 (sX6_leave hR_tt14 (show ly_Is 5 3 by decide) e16) (fun hh17 hR_tt18 => ?_)
      obtain ⟨rfl, rfl⟩ := am_inj2 H
      exact ex.nd ⟨rfl, hR_tt18⟩
    · rw [if_neg c9] at H
      refine ex.f c9 ?_
      obtain ⟨rfl, rfl⟩ := am_inj2 H
      exact ex.nd ⟨rfl, hR_t⟩
def tX9_build (a1 : Int32) (t : tS) : Option (Int32 × tS) :=
  (tX9_isHouse a1 t).bind fun x2 =>
  if x2 = 0 then
    some ((-1 : Int32), t)
  else
    (tA t 4 4 a1).bind fun x7 =>
    if x7 < ((9 : Int32)) then
      (tX0_keep 3 t).bind fun tt14 =>
      (tA tt14 4 4 a1).bind fun x17 =>
      (tWA tt14 0 4 4 a1 (x17 + ((1 : Int32)))).bind fun tt20 =>
      (tA tt20 4 4 a1).bind fun x25 =>
      some (x25, tt20)
    else
      some ((-1 : Int32), t)
set_option maxHeartbeats 4000000 in
set_option maxRecDepth 100000 in
theorem sX9_build {a1 : Int32} {h : am_H} {t : tS} {r : Int32} {t1 : tS} (hR_t : Rp h t)  (H : tX9_build a1 t = some (r, t1)) : ex (fX9_build 0 a1 h) (fun p => r = p.1 ∧ Rp p.2 t1) := by
  unfold tX9_build at H
  unfold fX9_build
  refine ex.bd (r_isO hR_t lk8) ?_
  obtain ⟨x2, e1, H⟩ := am_bd H
  refine ex.j1 (sX9_isHouse hR_t  e1) (fun z3 hz => ?_)
  obtain rfl : x2 = z3 := hz
  by_cases c4 : x2 = 0
  · rw [if_pos c4] at H
    refine ex.t c4 ?_
    obtain ⟨rfl, rfl⟩ := am_inj2 H
    exact ex.nd ⟨rfl, hR_t⟩
  · rw [if_neg c4] at H
    refine ex.f c4 ?_
    refine ex.bd (r_gR hR_t lk8 rfl) ?_
    refine ex.bd (r_gR hR_t (lc5 (show ly_Is 5 3 by decide)) rfl) ?_
    obtain ⟨x7, e8, H⟩ := am_bd H
    refine ex.bd (r_aI hR_t (la5_0 (show ly_Is 5 3 by decide)) e8) ?_
    by_cases c9 : x7 < ((9 : Int32))
    · rw [if_pos c9] at H
      refine ex.t c9 ?_
      refine ex.bd (r_gR hR_t lk8 rfl) ?_
      refine ex.bd (r_gR hR_t lk8 rfl) ?_
      obtain ⟨tt14, e12, H⟩ := am_bd H
      refine ex.j1 (sX0_keep hR_t (show ly_Is 5 3 by decide) e12) (fun hh13 hR_tt14 => ?_)
      refine ex.bd (r_gR hR_tt14 lk8 rfl) ?_
      refine ex.bd (r_gR hR_tt14 (lc5 (show ly_Is 5 3 by decide)) rfl) ?_
      obtain ⟨x17, e18, H⟩ := am_bd H
      refine ex.bd (r_aI hR_tt14 (la5_0 (show ly_Is 5 3 by decide)) e18) ?_
      obtain ⟨tt20, e21, H⟩ := am_bd H
      obtain ⟨hh19, e22, hR_tt20⟩ := r_sI hR_tt14 (la5_0 (show ly_Is 5 3 by decide)) e21
      refine ex.bd e22 ?_
      refine ex.bd (r_gR hR_tt20 lk8 rfl) ?_
      refine ex.bd (r_gR hR_tt20 (lc5 (show ly_Is 5 3 by decide)) rfl) ?_
      obtain ⟨x25, e26, H⟩ := am_bd H
      refine ex.bd (r_aI hR_tt20 (la5_0 (show ly_Is 5 3 by decide)) e26) ?_
      obtain ⟨rfl, rfl⟩ := am_inj2 H
      exact ex.nd ⟨rfl, hR_tt20⟩
    · rw [if_neg c9] at H
      refine ex.f c9 ?_
      obtain ⟨rfl, rfl⟩ := am_inj2 H
      exact ex.nd ⟨rfl, hR_t⟩
def tX9_undo  (t : tS) : Option (Int32 × tS) :=
  am_b2 (tX0_bringBack 3 t) fun x4 tt6 =>
  (am_z01 x4).bind fun b8 =>
  some (b8, tt6)
set_option maxHeartbeats 4000000 in
set_option maxRecDepth 100000 in
theorem sX9_undo  {h : am_H} {t : tS} {r : Int32} {t1 : tS} (hR_t : Rp h t)  (H : tX9_undo  t = some (r, t1)) : ex (fX9_undo 0 h) (fun p => r = p.1 ∧ Rp p.2 t1) := by
  unfold tX9_undo at H
  unfold fX9_undo
  refine ex.bd (r_isO hR_t lk8) ?_
  refine ex.bd (r_gR hR_t lk8 rfl) ?_
  refine ex.bd (r_gR hR_t lk8 rfl) ?_
  obtain ⟨x4, tt6, e3, H⟩ := am_bd2 H
  refine ex.j2 (sX0_bringBack hR_t (show ly_Is 5 3 by decide) e3) (fun z7 hh5 hz => ?_)
  obtain ⟨rfl, hR_tt6⟩ : x4 = z7 ∧ Rp hh5 tt6 := hz
  obtain ⟨b8, e9, H⟩ := am_bd H
  refine ex.bd e9 ?_
  obtain ⟨rfl, rfl⟩ := am_inj2 H
  exact ex.nd ⟨rfl, hR_tt6⟩
def tX9_judged_L30 : Nat → Int32 → Int32 → Int32 → Int32 → tS → Option (Int32 × Int32 × tS)
  | 0, _, _, _, _, _ => none
  | n + 1, v1, v2, v3, v4, t =>
    if (t.1 (t.2.2.2.2 0 11) 3) ≤ v4 then
      some (v2, v3, t)
    else
      am_b2 (tX3_carryOut (t.2.2.2.2 0 11) v4 (t.2.2.2.2 0 9) 10 t) fun x27 tt29 =>
      Option.bind (
        if ¬ x27 = 0 then
          some v2
        else
          if ¬ v2 = ((-1 : Int32)) then
            some v2
          else
            some v4) fun jv31 =>
      Option.bind (
        if (tt29.1 10 8) ≤ (t.1 10 8) then
          some v3
        else
          if ¬ v3 = ((-1 : Int32)) then
            some v3
          else
            some v4) fun jv36 =>
      tX9_judged_L30 n v1 jv31 jv36 (v4 + (1 : Int32)) tt29
def tX9_judged (a1 : Int32) (t : tS) : Option (Int32 × tS) :=
  (tX9_within a1 ((0 : Int32)) ((2 : Int32)) t).bind fun x2 =>
  if ¬ x2 = 0 then
    (tX6_begin 10 (t.2.2.2.2 0 9) t).bind fun tt11 =>
    am_b3 (tX9_judged_L30 4000 a1 ((-1 : Int32)) ((-1 : Int32)) ((0 : Int32)) tt11) fun lw43 lw44 tt46 =>
    if ¬ a1 = 0 then
      Option.bind (
        if ¬ a1 = ((1 : Int32)) then
          some (tt46.1 10 8)
        else
          some lw44) fun js51 =>
      some (js51, tt46)
    else
      some (lw43, tt46)
  else
    some ((-2 : Int32), t)
set_option maxHeartbeats 4000000 in
set_option maxRecDepth 100000 in
theorem sX9_judged_L30 : ∀ (n : Nat) (v1 : Int32) (v2 : Int32) (v3 : Int32) (v4 : Int32) (h : am_H) (t : tS) (w2 : Int32) (w3 : Int32) (t1 : tS), Rp h t → tX9_judged_L30 n v1 v2 v3 v4 t = some (w2, w3, t1) → ex (fX9_judged_L30 n 0 v1 v2 v3 v4 h) (fun p => w2 = p.1 ∧ w3 = p.2.1 ∧ Rp p.2.2 t1) := by
  intro n
  induction n with
  | zero => intro _ _ _ _ _ _ _ _ _ _ H; cases H
  | succ n ih =>
    intro v1 v2 v3 v4 h t w2 w3 t1 hR_t H
    rw [tX9_judged_L30] at H
    rw [fX9_judged_L30]
    obtain ⟨eD13, iD14⟩ := r_gD hR_t (k := 11) (by decide) (by decide)
    refine ex.bd eD13 ?_
    refine ex.bd (r_gI hR_t (lc3 iD14) rfl) ?_
    by_cases c16 : (t.1 (t.2.2.2.2 0 11) 3) ≤ v4
    · rw [if_pos c16] at H
      refine ex.t c16 ?_
      obtain ⟨rfl, rfl, rfl⟩ := am_inj3 H
      exact ex.nd ⟨rfl, rfl, hR_t⟩
    · rw [if_neg c16] at H
      refine ex.f c16 ?_
      refine ex.bd (r_gR hR_t lk8 rfl) ?_
      refine ex.bd (r_gI hR_t (lc5 (show ly_Is 5 10 by decide)) rfl) ?_
      obtain ⟨eD20, iD21⟩ := r_gD hR_t (k := 11) (by decide) (by decide)
      refine ex.bd eD20 ?_
      obtain ⟨eD23, iD24⟩ := r_gD hR_t (k := 9) (by decide) (by decide)
      refine ex.bd eD23 ?_
      refine ex.bd (r_gR hR_t lk8 rfl) ?_
      obtain ⟨x27, tt29, e26, H⟩ := am_bd2 H
      refine ex.j2 (sX3_carryOut hR_t iD21 iD24 (show ly_Is 5 10 by decide) e26) (fun z30 hh28 hz => ?_)
      obtain ⟨rfl, hR_tt29⟩ : x27 = z30 ∧ Rp hh28 tt29 := hz
      obtain ⟨jv31, E41, H⟩ := am_bd H
      refine ex.j1 (Q := fun p => jv31 = p) ?_ (fun z42 hq => ?_)
      · clear H
        have H := E41
        clear E41
        by_cases c32 : ¬ x27 = 0
        · rw [if_pos c32] at H
          refine ex.t c32 ?_
          obtain rfl := Option.some.inj H
          exact ex.nd rfl
        · rw [if_neg c32] at H
          refine ex.f c32 ?_
          by_cases c33 : ¬ v2 = ((-1 : Int32))
          · rw [if_pos c33] at H
            refine ex.t c33 ?_
            obtain rfl := Option.some.inj H
            exact ex.nd rfl
          · rw [if_neg c33] at H
            refine ex.f c33 ?_
            obtain rfl := Option.some.inj H
            exact ex.nd rfl
      · clear E41
        obtain rfl : jv31 = z42 := hq
        refine ex.bd (r_gR hR_tt29 lk8 rfl) ?_
        refine ex.bd (r_gI hR_tt29 (lc5 (show ly_Is 5 10 by decide)) rfl) ?_
        obtain ⟨jv36, E39, H⟩ := am_bd H
        refine ex.j1 (Q := fun p => jv36 = p) ?_ (fun z40 hq => ?_)
        · clear H
          have H := E39
          clear E39
          by_cases c37 : (tt29.1 10 8) ≤ (t.1 10 8)
          · rw [if_pos c37] at H
            refine ex.t c37 ?_
            obtain rfl := Option.some.inj H
            exact ex.nd rfl
          · rw [if_neg c37] at H
            refine ex.f c37 ?_
            by_cases c38 : ¬ v3 = ((-1 : Int32))
            · rw [if_pos c38] at H
              refine ex.t c38 ?_
              obtain rfl := Option.some.inj H
              exact ex.nd rfl
            · rw [if_neg c38] at H
              refine ex.f c38 ?_
              obtain rfl := Option.some.inj H
              exact ex.nd rfl
        · clear E39
          obtain rfl : jv36 = z40 := hq
          exact ih _ _ _ _ _ _ _ _ _ hR_tt29  H
set_option maxHeartbeats 4000000 in
set_option maxRecDepth 100000 in
theorem sX9_judged {a1 : Int32} {h : am_H} {t : tS} {r : Int32} {t1 : tS} (hR_t : Rp h t)  (H : tX9_judged a1 t = some (r, t1)) : ex (fX9_judged 0 a1 h) (fun p => r = p.1 ∧ Rp p.2 t1) := by
  unfold tX9_judged at H
  unfold fX9_judged
  refine ex.bd (r_isO hR_t lk8) ?_
  obtain ⟨x2, e1, H⟩ := am_bd H
  refine ex.j1 (sX9_within hR_t  e1) (fun z3 hz => ?_)
  obtain rfl : x2 = z3 := hz
  by_cases c4 : ¬ x2 = 0
  · rw [if_pos c4] at H
    refine ex.t c4 ?_
    refine ex.bd (r_gR hR_t lk8 rfl) ?_
    obtain ⟨eD7, iD8⟩ := r_gD hR_t (k := 9) (by decide) (by decide)
    refine ex.bd eD7 ?_
    obtain ⟨tt11, e9, H⟩ := am_bd H
    refine ex.j1 (sX6_begin hR_t (show ly_Is 5 10 by decide) iD8 e9) (fun hh10 hR_tt11 => ?_)
    obtain ⟨lw43, lw44, tt46, E49, H⟩ := am_bd3 H
    refine ex.j3 (sX9_judged_L30 _ _ _ _ _ _ _ _ _ _ hR_tt11  E49) (fun z47 z48 hh45 hq => ?_)
    clear E49
    obtain ⟨rfl, rfl, hR_tt46⟩ : lw43 = z47 ∧ lw44 = z48 ∧ Rp hh45 tt46 := hq
    by_cases c50 : ¬ a1 = 0
    · rw [if_pos c50] at H
      refine ex.t c50 ?_
      obtain ⟨js51, E55, H⟩ := am_bd H
      refine ex.j1 (Q := fun p => js51 = p) ?_ (fun z56 hq => ?_)
      · clear H
        have H := E55
        clear E55
        by_cases c52 : ¬ a1 = ((1 : Int32))
        · rw [if_pos c52] at H
          refine ex.t c52 ?_
          refine ex.bd (r_gR hR_tt46 lk8 rfl) ?_
          refine ex.bd (r_gI hR_tt46 (lc5 (show ly_Is 5 10 by decide)) rfl) ?_
          obtain rfl := Option.some.inj H
          exact ex.nd rfl
        · rw [if_neg c52] at H
          refine ex.f c52 ?_
          obtain rfl := Option.some.inj H
          exact ex.nd rfl
      · clear E55
        obtain rfl : js51 = z56 := hq
        obtain ⟨rfl, rfl⟩ := am_inj2 H
        exact ex.nd ⟨rfl, hR_tt46⟩
    · rw [if_neg c50] at H
      refine ex.f c50 ?_
      obtain ⟨rfl, rfl⟩ := am_inj2 H
      exact ex.nd ⟨rfl, hR_tt46⟩
  · rw [if_neg c4] at H
    refine ex.f c4 ?_
    obtain ⟨rfl, rfl⟩ := am_inj2 H
    exact ex.nd ⟨rfl, hR_t⟩
def tX9_where_L34 : Nat → Int32 → Int32 → Int32 → tS → Option (tS)
  | 0, _, _, _, _ => none
  | n + 1, v1, v2, v3, t =>
    if v2 ≤ v3 then
      some t
    else
      (tX6_passDate 10 (t.2.2.2.2 0 9) t).bind fun tt21 =>
      tX9_where_L34 n v1 v2 (v3 + (1 : Int32)) tt21
def tX9_where (a1 : Int32) (a2 : Int32) (t : tS) : Option (Int32 × tS) :=
  (tX9_isDay a1 t).bind fun x2 =>
  if x2 = 0 then
    some ((-2 : Int32), t)
  else
    (tX9_within a2 ((0 : Int32)) ((60 : Int32)) t).bind fun x6 =>
    if ¬ x6 = 0 then
      (tX6_copyFrom 10 3 t).bind fun tt13 =>
      Option.bind (tX9_where_L34 4000 a1 a2 ((0 : Int32)) tt13) fun tt23 =>
      (tA tt23 14 6 a1).bind fun x27 =>
      some (x27, tt23)
    else
      some ((-2 : Int32), t)
set_option maxHeartbeats 4000000 in
set_option maxRecDepth 100000 in
theorem sX9_where_L34 : ∀ (n : Nat) (v1 : Int32) (v2 : Int32) (v3 : Int32) (h : am_H) (t : tS) (t1 : tS), Rp h t → tX9_where_L34 n v1 v2 v3 t = some t1 → ex (fX9_where_L34 n 0 v1 v2 v3 h) (fun p => Rp p t1) := by
  intro n
  induction n with
  | zero => intro _ _ _ _ _ _ _ H; cases H
  | succ n ih =>
    intro v1 v2 v3 h t t1 hR_t H
    rw [tX9_where_L34] at H
    rw [fX9_where_L34]
    by_cases c14 : v2 ≤ v3
    · rw [if_pos c14] at H
      refine ex.t c14 ?_
      obtain rfl := Option.some.inj H
      exact ex.nd hR_t
    · rw [if_neg c14] at H
      refine ex.f c14 ?_
      refine ex.bd (r_gR hR_t lk8 rfl) ?_
      obtain ⟨eD17, iD18⟩ := r_gD hR_t (k := 9) (by decide) (by decide)
      refine ex.bd eD17 ?_
      obtain ⟨tt21, e19, H⟩ := am_bd H
      refine ex.j1 (sX6_passDate hR_t (show ly_Is 5 10 by decide) iD18 e19) (fun hh20 hR_tt21 => ?_)
      exact ih _ _ _ _ _ _ hR_tt21  H
set_option maxHeartbeats 4000000 in
set_option maxRecDepth 100000 in
theorem sX9_where {a1 : Int32} {a2 : Int32} {h : am_H} {t : tS} {r : Int32} {t1 : tS} (hR_t : Rp h t)  (H : tX9_where a1 a2 t = some (r, t1)) : ex (fX9_where 0 a1 a2 h) (fun p => r = p.1 ∧ Rp p.2 t1) := by
  unfold tX9_where at H
  unfold fX9_where
  refine ex.bd (r_isO hR_t lk8) ?_
  obtain ⟨x2, e1, H⟩ := am_bd H
  refine ex.j1 (sX9_isDay hR_t  e1) (fun z3 hz => ?_)
  obtain rfl : x2 = z3 := hz
  by_cases c4 : x2 = 0
  · rw [if_pos c4] at H
    refine ex.t c4 ?_
    obtain ⟨rfl, rfl⟩ := am_inj2 H
    exact ex.nd ⟨rfl, hR_t⟩
  · rw [if_neg c4] at H
    refine ex.f c4 ?_
    obtain ⟨x6, e5, H⟩ := am_bd H
    refine ex.j1 (sX9_within hR_t  e5) (fun z7 hz => ?_)
    obtain rfl : x6 = z7 := hz
    by_cases c8 : ¬ x6 = 0
    · rw [if_pos c8] at H
      refine ex.t c8 ?_
      refine ex.bd (r_gR hR_t lk8 rfl) ?_
      refine ex.bd (r_gR hR_t lk8 rfl) ?_
      obtain ⟨tt13, e11, H⟩ := am_bd H
      refine ex.j1 (sX6_copyFrom hR_t (show ly_Is 5 10 by decide) (show ly_Is 5 3 by decide) e11) (fun hh12 hR_tt13 => ?_)
      obtain ⟨tt23, E24, H⟩ := am_bd H
      refine ex.j1 (sX9_where_L34 _ _ _ _ _ _ _ hR_tt13  E24) (fun hh22 hq => ?_)
      clear E24
      have hR_tt23 : Rp hh22 tt23 := hq
      refine ex.bd (r_gR hR_tt23 lk8 rfl) ?_
      refine ex.bd (r_gR hR_tt23 (lc5 (show ly_Is 5 10 by decide)) rfl) ?_
      obtain ⟨x27, e28, H⟩ := am_bd H
      refine ex.bd (r_aI hR_tt23 (la5_3 (show ly_Is 5 10 by decide)) e28) ?_
      obtain ⟨rfl, rfl⟩ := am_inj2 H
      exact ex.nd ⟨rfl, hR_tt23⟩
    · rw [if_neg c8] at H
      refine ex.f c8 ?_
      obtain ⟨rfl, rfl⟩ := am_inj2 H
      exact ex.nd ⟨rfl, hR_t⟩
def tX9_next_L23 : Nat → Int32 → Int32 → tS → Option ((tS) ⊕ (Int32 × tS))
  | 0, _, _, _ => none
  | n + 1, v1, v2, t =>
    if ((60 : Int32)) < v2 then
      some (.inl t)
    else
      (tX6_passDate 10 (t.2.2.2.2 0 9) t).bind fun tt17 =>
      (tX9_has ((tt17.1 10 9) ||| (tt17.1 10 10)) v1 tt17).bind fun x23 =>
      if x23 = 0 then
        tX9_next_L23 n v1 (v2 + (1 : Int32)) tt17
      else
        some (.inr (v2, tt17))
def tX9_next (a1 : Int32) (t : tS) : Option (Int32 × tS) :=
  (tX9_isDay a1 t).bind fun x2 =>
  if ¬ x2 = 0 then
    (tX6_copyFrom 10 3 t).bind fun tt9 =>
    (tX9_next_L23 4000 a1 ((1 : Int32)) tt9).bind fun o29 => match o29 with
      | .inl tt27 =>
        some ((-1 : Int32), tt27)
      | .inr y30 => some y30
  else
    some ((-1 : Int32), t)
set_option maxHeartbeats 4000000 in
set_option maxRecDepth 100000 in
theorem sX9_next_L23 : ∀ (n : Nat) (v1 : Int32) (v2 : Int32) (h : am_H) (t : tS) (o : (tS) ⊕ (Int32 × tS)), Rp h t → tX9_next_L23 n v1 v2 t = some o → ex (fX9_next_L23 n 0 v1 v2 h) (fun p => match o, p with
    | .inl t1, .inl h1 => Rp h1 t1
    | .inr y, .inr z => y.1 = z.1 ∧ Rp z.2 y.2
    | _, _ => False) := by
  intro n
  induction n with
  | zero => intro _ _ _ _ _ _ H; cases H
  | succ n ih =>
    intro v1 v2 h t o hR_t H
    rw [tX9_next_L23] at H
    rw [fX9_next_L23]
    by_cases c10 : ((60 : Int32)) < v2
    · rw [if_pos c10] at H
      refine ex.t c10 ?_
      obtain rfl := Option.some.inj H
      exact ex.nd hR_t
    · rw [if_neg c10] at H
      refine ex.f c10 ?_
      refine ex.bd (r_gR hR_t lk8 rfl) ?_
      obtain ⟨eD13, iD14⟩ := r_gD hR_t (k := 9) (by decide) (by decide)
      refine ex.bd eD13 ?_
      obtain ⟨tt17, e15, H⟩ := am_bd H
      refine ex.j1 (sX6_passDate hR_t (show ly_Is 5 10 by decide) iD14 e15) (fun hh16 hR_tt17 => ?_)
      refine ex.bd (r_gR hR_tt17 lk8 rfl) ?_
      refine ex.bd (r_gI hR_tt17 (lc5 (show ly_Is 5 10 by decide)) rfl) ?_
      refine ex.bd (r_gR hR_tt17 lk8 rfl) ?_
      refine ex.bd (r_gI hR_tt17 (lc5 (show ly_Is 5 10 by decide)) rfl) ?_
      obtain ⟨x23, e22, H⟩ := am_bd H
      refine ex.j1 (sX9_has hR_tt17  e22) (fun z24 hz => ?_)
      obtain rfl : x23 = z24 := hz
      by_cases c25 : x23 = 0
      · rw [if_pos c25] at H
        refine ex.t c25 ?_
        exact ih _ _ _ _ _ hR_tt17  H
      · rw [if_neg c25] at H
        refine ex.f c25 ?_
        obtain rfl := Option.some.inj H
        exact ex.nd ⟨rfl, hR_tt17⟩
set_option maxHeartbeats 4000000 in
set_option maxRecDepth 100000 in
theorem sX9_next {a1 : Int32} {h : am_H} {t : tS} {r : Int32} {t1 : tS} (hR_t : Rp h t)  (H : tX9_next a1 t = some (r, t1)) : ex (fX9_next 0 a1 h) (fun p => r = p.1 ∧ Rp p.2 t1) := by
  unfold tX9_next at H
  unfold fX9_next
  refine ex.bd (r_isO hR_t lk8) ?_
  obtain ⟨x2, e1, H⟩ := am_bd H
  refine ex.j1 (sX9_isDay hR_t  e1) (fun z3 hz => ?_)
  obtain rfl : x2 = z3 := hz
  by_cases c4 : ¬ x2 = 0
  · rw [if_pos c4] at H
    refine ex.t c4 ?_
    refine ex.bd (r_gR hR_t lk8 rfl) ?_
    refine ex.bd (r_gR hR_t lk8 rfl) ?_
    obtain ⟨tt9, e7, H⟩ := am_bd H
    refine ex.j1 (sX6_copyFrom hR_t (show ly_Is 5 10 by decide) (show ly_Is 5 3 by decide) e7) (fun hh8 hR_tt9 => ?_)
    obtain ⟨o29, E28, H⟩ := am_bd H
    refine ex.j1 (sX9_next_L23 _ _ _ _ _ _ hR_tt9  E28) (fun p31 hq => ?_)
    clear E28
    rcases o29 with tt27 | y30
    · rcases p31 with hh26 | z32
      · dsimp only at H hq ⊢
        have hR_tt27 : Rp hh26 tt27 := hq
        obtain ⟨rfl, rfl⟩ := am_inj2 H
        exact ex.nd ⟨rfl, hR_tt27⟩
      · exact hq.elim
    · rcases p31 with _ | z32
      · exact hq.elim
      · dsimp only at H ⊢
        obtain rfl := Option.some.inj H
        exact ex.nd hq
  · rw [if_neg c4] at H
    refine ex.f c4 ?_
    obtain ⟨rfl, rfl⟩ := am_inj2 H
    exact ex.nd ⟨rfl, hR_t⟩
def tX9_gone_L23 : Nat → Int32 → Int32 → tS → Option ((tS) ⊕ (Int32 × tS))
  | 0, _, _, _ => none
  | n + 1, v1, v2, t =>
    if ((99 : Int32)) < v2 then
      some (.inl t)
    else
      (tA t 13 6 v1).bind fun x13 =>
      if ¬ x13 = 0 then
        (tX6_passDate 10 (t.2.2.2.2 0 9) t).bind fun tt22 =>
        tX9_gone_L23 n v1 (v2 + (1 : Int32)) tt22
      else
        some (.inr (v2, t))
def tX9_gone (a1 : Int32) (t : tS) : Option (Int32 × tS) :=
  (tX9_isDay a1 t).bind fun x2 =>
  if ¬ x2 = 0 then
    (tX6_copyFrom 10 3 t).bind fun tt9 =>
    (tX9_gone_L23 4000 a1 ((0 : Int32)) tt9).bind fun o26 => match o26 with
      | .inl tt24 =>
        some ((-1 : Int32), tt24)
      | .inr y27 => some y27
  else
    some ((-1 : Int32), t)
set_option maxHeartbeats 4000000 in
set_option maxRecDepth 100000 in
theorem sX9_gone_L23 : ∀ (n : Nat) (v1 : Int32) (v2 : Int32) (h : am_H) (t : tS) (o : (tS) ⊕ (Int32 × tS)), Rp h t → tX9_gone_L23 n v1 v2 t = some o → ex (fX9_gone_L23 n 0 v1 v2 h) (fun p => match o, p with
    | .inl t1, .inl h1 => Rp h1 t1
    | .inr y, .inr z => y.1 = z.1 ∧ Rp z.2 y.2
    | _, _ => False) := by
  intro n
  induction n with
  | zero => intro _ _ _ _ _ _ H; cases H
  | succ n ih =>
    intro v1 v2 h t o hR_t H
    rw [tX9_gone_L23] at H
    rw [fX9_gone_L23]
    by_cases c10 : ((99 : Int32)) < v2
    · rw [if_pos c10] at H
      refine ex.t c10 ?_
      obtain rfl := Option.some.inj H
      exact ex.nd hR_t
    · rw [if_neg c10] at H
      refine ex.f c10 ?_
      refine ex.bd (r_gR hR_t lk8 rfl) ?_
      refine ex.bd (r_gR hR_t (lc5 (show ly_Is 5 10 by decide)) rfl) ?_
      obtain ⟨x13, e14, H⟩ := am_bd H
      refine ex.bd (r_aI hR_t (la5_2 (show ly_Is 5 10 by decide)) e14) ?_
      by_cases c15 : ¬ x13 = 0
      · rw [if_pos c15] at H
        refine ex.t c15 ?_
        refine ex.bd (r_gR hR_t lk8 rfl) ?_
        obtain ⟨eD18, iD19⟩ := r_gD hR_t (k := 9) (by decide) (by decide)
        refine ex.bd eD18 ?_
        obtain ⟨tt22, e20, H⟩ := am_bd H
        refine ex.j1 (sX6_passDate hR_t (show ly_Is 5 10 by decide) iD19 e20) (fun hh21 hR_tt22 => ?_)
        exact ih _ _ _ _ _ hR_tt22  H
      · rw [if_neg c15] at H
        refine ex.f c15 ?_
        obtain rfl := Option.some.inj H
        exact ex.nd ⟨rfl, hR_t⟩
set_option maxHeartbeats 4000000 in
set_option maxRecDepth 100000 in
theorem sX9_gone {a1 : Int32} {h : am_H} {t : tS} {r : Int32} {t1 : tS} (hR_t : Rp h t)  (H : tX9_gone a1 t = some (r, t1)) : ex (fX9_gone 0 a1 h) (fun p => r = p.1 ∧ Rp p.2 t1) := by
  unfold tX9_gone at H
  unfold fX9_gone
  refine ex.bd (r_isO hR_t lk8) ?_
  obtain ⟨x2, e1, H⟩ := am_bd H
  refine ex.j1 (sX9_isDay hR_t  e1) (fun z3 hz => ?_)
  obtain rfl : x2 = z3 := hz
  by_cases c4 : ¬ x2 = 0
  · rw [if_pos c4] at H
    refine ex.t c4 ?_
    refine ex.bd (r_gR hR_t lk8 rfl) ?_
    refine ex.bd (r_gR hR_t lk8 rfl) ?_
    obtain ⟨tt9, e7, H⟩ := am_bd H
    refine ex.j1 (sX6_copyFrom hR_t (show ly_Is 5 10 by decide) (show ly_Is 5 3 by decide) e7) (fun hh8 hR_tt9 => ?_)
    obtain ⟨o26, E25, H⟩ := am_bd H
    refine ex.j1 (sX9_gone_L23 _ _ _ _ _ _ hR_tt9  E25) (fun p28 hq => ?_)
    clear E25
    rcases o26 with tt24 | y27
    · rcases p28 with hh23 | z29
      · dsimp only at H hq ⊢
        have hR_tt24 : Rp hh23 tt24 := hq
        obtain ⟨rfl, rfl⟩ := am_inj2 H
        exact ex.nd ⟨rfl, hR_tt24⟩
      · exact hq.elim
    · rcases p28 with _ | z29
      · exact hq.elim
      · dsimp only at H ⊢
        obtain rfl := Option.some.inj H
        exact ex.nd hq
  · rw [if_neg c4] at H
    refine ex.f c4 ?_
    obtain ⟨rfl, rfl⟩ := am_inj2 H
    exact ex.nd ⟨rfl, hR_t⟩
def tX9_crowd_L17 : Nat → Int32 → Int32 → Int32 → tS → Option (Int32 × tS)
  | 0, _, _, _, _ => none
  | n + 1, v1, v2, v3, t =>
    if ((60 : Int32)) < v3 then
      some (v1, t)
    else
      (tX6_somewhere 10 (t.2.2.2.2 0 9) t).bind fun x12 =>
      (tJ6_bitCount_0f7a4 x12 t).bind fun x15 =>
      am_b2 (
        if x15 ≤ v2 then
          some (v1, v2)
        else
          some (v3, x15)) fun jv17 jv18 =>
      (tX6_passDate 10 (t.2.2.2.2 0 9) t).bind fun tt26 =>
      tX9_crowd_L17 n jv17 jv18 (v3 + (1 : Int32)) tt26
def tX9_crowd  (t : tS) : Option (Int32 × tS) :=
  (tX6_copyFrom 10 3 t).bind fun tt5 =>
  am_b2 (tX9_crowd_L17 4000 ((0 : Int32)) ((-1 : Int32)) ((0 : Int32)) tt5) fun lw30 tt32 =>
  some (lw30, tt32)
set_option maxHeartbeats 4000000 in
set_option maxRecDepth 100000 in
theorem sX9_crowd_L17 : ∀ (n : Nat) (v1 : Int32) (v2 : Int32) (v3 : Int32) (h : am_H) (t : tS) (w1 : Int32) (t1 : tS), Rp h t → tX9_crowd_L17 n v1 v2 v3 t = some (w1, t1) → ex (fX9_crowd_L17 n 0 v1 v2 v3 h) (fun p => w1 = p.1 ∧ Rp p.2 t1) := by
  intro n
  induction n with
  | zero => intro _ _ _ _ _ _ _ _ H; cases H
  | succ n ih =>
    intro v1 v2 v3 h t w1 t1 hR_t H
    rw [tX9_crowd_L17] at H
    rw [fX9_crowd_L17]
    by_cases c6 : ((60 : Int32)) < v3
    · rw [if_pos c6] at H
      refine ex.t c6 ?_
      obtain ⟨rfl, rfl⟩ := am_inj2 H
      exact ex.nd ⟨rfl, hR_t⟩
    · rw [if_neg c6] at H
      refine ex.f c6 ?_
      refine ex.bd (r_gR hR_t lk8 rfl) ?_
      obtain ⟨eD9, iD10⟩ := r_gD hR_t (k := 9) (by decide) (by decide)
      refine ex.bd eD9 ?_
      obtain ⟨x12, e11, H⟩ := am_bd H
      refine ex.j1 (sX6_somewhere hR_t (show ly_Is 5 10 by decide) iD10 e11) (fun z13 hz => ?_)
      obtain rfl : x12 = z13 := hz
      obtain ⟨x15, e14, H⟩ := am_bd H
      refine ex.j1 (sJ6_bitCount_0f7a4 hR_t  e14) (fun z16 hz => ?_)
      obtain rfl : x15 = z16 := hz
      obtain ⟨jv17, jv18, E27, H⟩ := am_bd2 H
      refine ex.j2 (Q := fun p => jv17 = p.1 ∧ jv18 = p.2) ?_ (fun z28 z29 hq => ?_)
      · clear H
        have H := E27
        clear E27
        by_cases c19 : x15 ≤ v2
        · rw [if_pos c19] at H
          refine ex.t c19 ?_
          obtain ⟨rfl, rfl⟩ := am_inj2 H
          exact ex.nd ⟨rfl, rfl⟩
        · rw [if_neg c19] at H
          refine ex.f c19 ?_
          obtain ⟨rfl, rfl⟩ := am_inj2 H
          exact ex.nd ⟨rfl, rfl⟩
      · clear E27
        obtain ⟨rfl, rfl⟩ : jv17 = z28 ∧ jv18 = z29 := hq
        refine ex.bd (r_gR hR_t lk8 rfl) ?_
        obtain ⟨eD22, iD23⟩ := r_gD hR_t (k := 9) (by decide) (by decide)
        refine ex.bd eD22 ?_
        obtain ⟨tt26, e24, H⟩ := am_bd H
        refine ex.j1 (sX6_passDate hR_t (show ly_Is 5 10 by decide) iD23 e24) (fun hh25 hR_tt26 => ?_)
        exact ih _ _ _ _ _ _ _ hR_tt26  H
set_option maxHeartbeats 4000000 in
set_option maxRecDepth 100000 in
theorem sX9_crowd  {h : am_H} {t : tS} {r : Int32} {t1 : tS} (hR_t : Rp h t)  (H : tX9_crowd  t = some (r, t1)) : ex (fX9_crowd 0 h) (fun p => r = p.1 ∧ Rp p.2 t1) := by
  unfold tX9_crowd at H
  unfold fX9_crowd
  refine ex.bd (r_isO hR_t lk8) ?_
  refine ex.bd (r_gR hR_t lk8 rfl) ?_
  refine ex.bd (r_gR hR_t lk8 rfl) ?_
  obtain ⟨tt5, e3, H⟩ := am_bd H
  refine ex.j1 (sX6_copyFrom hR_t (show ly_Is 5 10 by decide) (show ly_Is 5 3 by decide) e3) (fun hh4 hR_tt5 => ?_)
  obtain ⟨lw30, tt32, E34, H⟩ := am_bd2 H
  refine ex.j2 (sX9_crowd_L17 _ _ _ _ _ _ _ _ hR_tt5  E34) (fun z33 hh31 hq => ?_)
  clear E34
  obtain ⟨rfl, hR_tt32⟩ : lw30 = z33 ∧ Rp hh31 tt32 := hq
  obtain ⟨rfl, rfl⟩ := am_inj2 H
  exact ex.nd ⟨rfl, hR_tt32⟩
def tJ6_numberOfTrailingZeros_0f7a4 (a0 : Int32) (t : tS) : Option (Int32) :=
  if 0 < ((a0 ^^^ ((-1 : Int32))) &&& (a0 - ((1 : Int32)))) then
    am_b2 (
      if ((a0 ^^^ ((-1 : Int32))) &&& (a0 - ((1 : Int32)))) ≤ ((65536 : Int32)) then
        some ((a0 ^^^ ((-1 : Int32))) &&& (a0 - ((1 : Int32))), (1 : Int32))
      else
        some ((((a0 ^^^ ((-1 : Int32))) &&& (a0 - ((1 : Int32)))).toUInt32 >>> (((16 : Int32)).toUInt32 &&& Int32.toUInt32 31)).toInt32, ((1 : Int32)) + (16 : Int32))) fun jv2 jv3 =>
    am_b2 (
      if jv2 ≤ ((256 : Int32)) then
        some (jv2, jv3)
      else
        some ((jv2.toUInt32 >>> (((8 : Int32)).toUInt32 &&& Int32.toUInt32 31)).toInt32, jv3 + (8 : Int32))) fun jv5 jv6 =>
    am_b2 (
      if jv5 ≤ ((16 : Int32)) then
        some (jv5, jv6)
      else
        some ((jv5.toUInt32 >>> (((4 : Int32)).toUInt32 &&& Int32.toUInt32 31)).toInt32, jv6 + (4 : Int32))) fun jv8 jv9 =>
    am_b2 (
      if jv8 ≤ ((4 : Int32)) then
        some (jv8, jv9)
      else
        some ((jv8.toUInt32 >>> (((2 : Int32)).toUInt32 &&& Int32.toUInt32 31)).toInt32, jv9 + (2 : Int32))) fun jv11 jv12 =>
    some (jv12 + ((jv11.toUInt32 >>> (((1 : Int32)).toUInt32 &&& Int32.toUInt32 31)).toInt32))
  else
    some (((a0 ^^^ ((-1 : Int32))) &&& (a0 - ((1 : Int32)))) &&& ((32 : Int32)))
set_option maxHeartbeats 4000000 in
set_option maxRecDepth 100000 in
theorem sJ6_numberOfTrailingZeros_0f7a4 {a0 : Int32} {h : am_H} {t : tS} {r : Int32} (hR_t : Rp h t)  (H : tJ6_numberOfTrailingZeros_0f7a4 a0 t = some r) : ex (fJ6_numberOfTrailingZeros_0f7a4 a0 h) (fun x => r = x) := by
  unfold tJ6_numberOfTrailingZeros_0f7a4 at H
  unfold fJ6_numberOfTrailingZeros_0f7a4
  by_cases c1 : 0 < ((a0 ^^^ ((-1 : Int32))) &&& (a0 - ((1 : Int32))))
  · rw [if_pos c1] at H
    refine ex.t c1 ?_
    obtain ⟨jv2, jv3, E23, H⟩ := am_bd2 H
    refine ex.j2 (Q := fun p => jv2 = p.1 ∧ jv3 = p.2) ?_ (fun z24 z25 hq => ?_)
    · clear H
      have H := E23
      clear E23
      by_cases c4 : ((a0 ^^^ ((-1 : Int32))) &&& (a0 - ((1 : Int32)))) ≤ ((65536 : Int32))
      · rw [if_pos c4] at H
        refine ex.t c4 ?_
        obtain ⟨rfl, rfl⟩ := am_inj2 H
        exact ex.nd ⟨rfl, rfl⟩
      · rw [if_neg c4] at H
        refine ex.f c4 ?_
        obtain ⟨rfl, rfl⟩ := am_inj2 H
        exact ex.nd ⟨rfl, rfl⟩
    · clear E23
      obtain ⟨rfl, rfl⟩ : jv2 = z24 ∧ jv3 = z25 := hq
      obtain ⟨jv5, jv6, E20, H⟩ := am_bd2 H
      refine ex.j2 (Q := fun p => jv5 = p.1 ∧ jv6 = p.2) ?_ (fun z21 z22 hq => ?_)
      · clear H
        have H := E20
        clear E20
        by_cases c7 : jv2 ≤ ((256 : Int32))
        · rw [if_pos c7] at H
          refine ex.t c7 ?_
          obtain ⟨rfl, rfl⟩ := am_inj2 H
          exact ex.nd ⟨rfl, rfl⟩
        · rw [if_neg c7] at H
          refine ex.f c7 ?_
          obtain ⟨rfl, rfl⟩ := am_inj2 H
          exact ex.nd ⟨rfl, rfl⟩
      · clear E20
        obtain ⟨rfl, rfl⟩ : jv5 = z21 ∧ jv6 = z22 := hq
        obtain ⟨jv8, jv9, E17, H⟩ := am_bd2 H
        refine ex.j2 (Q := fun p => jv8 = p.1 ∧ jv9 = p.2) ?_ (fun z18 z19 hq => ?_)
        · clear H
          have H := E17
          clear E17
          by_cases c10 : jv5 ≤ ((16 : Int32))
          · rw [if_pos c10] at H
            refine ex.t c10 ?_
            obtain ⟨rfl, rfl⟩ := am_inj2 H
            exact ex.nd ⟨rfl, rfl⟩
          · rw [if_neg c10] at H
            refine ex.f c10 ?_
            obtain ⟨rfl, rfl⟩ := am_inj2 H
            exact ex.nd ⟨rfl, rfl⟩
        · clear E17
          obtain ⟨rfl, rfl⟩ : jv8 = z18 ∧ jv9 = z19 := hq
          obtain ⟨jv11, jv12, E14, H⟩ := am_bd2 H
          refine ex.j2 (Q := fun p => jv11 = p.1 ∧ jv12 = p.2) ?_ (fun z15 z16 hq => ?_)
          · clear H
            have H := E14
            clear E14
            by_cases c13 : jv8 ≤ ((4 : Int32))
            · rw [if_pos c13] at H
              refine ex.t c13 ?_
              obtain ⟨rfl, rfl⟩ := am_inj2 H
              exact ex.nd ⟨rfl, rfl⟩
            · rw [if_neg c13] at H
              refine ex.f c13 ?_
              obtain ⟨rfl, rfl⟩ := am_inj2 H
              exact ex.nd ⟨rfl, rfl⟩
          · clear E14
            obtain ⟨rfl, rfl⟩ : jv11 = z15 ∧ jv12 = z16 := hq
            obtain rfl := Option.some.inj H
            exact ex.nd rfl
  · rw [if_neg c1] at H
    refine ex.f c1 ?_
    obtain rfl := Option.some.inj H
    exact ex.nd rfl
