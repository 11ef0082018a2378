/-! typed functions -/
def tX10_thrown  (t : tS) : Option (Int32) :=
  some (t.1 218 0)
set_option maxHeartbeats 4000000 in
set_option maxRecDepth 100000 in
theorem sX10_thrown  {h : am_H} {t : tS} {r : Int32} (hR_t : Rp h t)  (H : tX10_thrown  t = some r) : ex (fX10_thrown 218 h) (fun x => r = x) := by
  unfold tX10_thrown at H
  unfold fX10_thrown
  refine ex.bd (r_isO hR_t lk9) ?_
  refine ex.bd (r_gI hR_t lk9 rfl) ?_
  obtain rfl := Option.some.inj H
  exact ex.nd rfl
def tX10_lay_L3 : Nat → Int64 → Int32 → tS → Option (tS)
  | 0, _, _, _ => none
  | n + 1, v1, v3, t =>
    if v3 < 0 then
      some t
    else
      Option.bind (
        if (((v1 >>> (v3.toInt64 &&& 63)).toInt32) &&& ((255 : Int32))) = ((10 : Int32)) then
          if ((1000 : Int32)) ≤ (t.1 218 2) then
            some t
          else
            (tWA t 0 219 1000 (t.1 218 2) (((v1 >>> (v3.toInt64 &&& 63)).toInt32) &&& ((255 : Int32)))).bind fun tt10 =>
            (some (uI tt10 218 2 ((tt10.1 218 2) + ((1 : Int32))))).bind fun tt15 =>
            some tt15
        else
          if (((v1 >>> (v3.toInt64 &&& 63)).toInt32) &&& ((255 : Int32))) < ((32 : Int32)) then
            some t
          else
            if ((126 : Int32)) < (((v1 >>> (v3.toInt64 &&& 63)).toInt32) &&& ((255 : Int32))) then
              some t
            else
              if ((1000 : Int32)) ≤ (t.1 218 2) then
                some t
              else
                (tWA t 0 219 1000 (t.1 218 2) (((v1 >>> (v3.toInt64 &&& 63)).toInt32) &&& ((255 : Int32)))).bind fun tt25 =>
                (some (uI tt25 218 2 ((tt25.1 218 2) + ((1 : Int32))))).bind fun tt30 =>
                some tt30) fun tt3 =>
      tX10_lay_L3 n v1 (v3 + (-8 : Int32)) tt3
def tX10_lay (a1 : Int64) (t : tS) : Option (tS) :=
  Option.bind (tX10_lay_L3 4000 a1 ((56 : Int32)) t) fun tt35 =>
  some tt35
set_option maxHeartbeats 4000000 in
set_option maxRecDepth 100000 in
theorem sX10_lay_L3 : ∀ (n : Nat) (v1 : Int64) (v3 : Int32) (h : am_H) (t : tS) (t1 : tS), Rp h t → tX10_lay_L3 n v1 v3 t = some t1 → ex (fX10_lay_L3 n 218 v1 v3 h) (fun p => Rp p t1) := by
  intro n
  induction n with
  | zero => intro _ _ _ _ _ _ H; cases H
  | succ n ih =>
    intro v1 v3 h t t1 hR_t H
    rw [tX10_lay_L3] at H
    rw [fX10_lay_L3]
    by_cases c1 : v3 < 0
    · rw [if_pos c1] at H
      refine ex.t c1 ?_
      obtain rfl := Option.some.inj H
      exact ex.nd hR_t
    · rw [if_neg c1] at H
      refine ex.f c1 ?_
      obtain ⟨tt3, E33, H⟩ := am_bd H
      refine ex.j1 (Q := fun p => Rp p tt3) ?_ (fun hh2 hq => ?_)
      · clear H
        have H := E33
        clear E33
        by_cases c4 : (((v1 >>> (v3.toInt64 &&& 63)).toInt32) &&& ((255 : Int32))) = ((10 : Int32))
        · rw [if_pos c4] at H
          refine ex.t c4 ?_
          refine ex.bd (r_gI hR_t lk9 rfl) ?_
          by_cases c6 : ((1000 : Int32)) ≤ (t.1 218 2)
          · rw [if_pos c6] at H
            refine ex.t c6 ?_
            obtain rfl := Option.some.inj H
            exact ex.nd hR_t
          · rw [if_neg c6] at H
            refine ex.f c6 ?_
            refine ex.bd (r_gR hR_t lk9 rfl) ?_
            refine ex.bd (r_gI hR_t lk9 rfl) ?_
            obtain ⟨tt10, e11, H⟩ := am_bd H
            obtain ⟨hh9, e12, hR_tt10⟩ := r_sI hR_t (la9_1 (a := 218) (by decide)) e11
            refine ex.bd e12 ?_
            refine ex.bd (r_gI hR_tt10 lk9 rfl) ?_
            obtain ⟨tt15, et16, H⟩ := am_bd H
            obtain ⟨hh14, e17, hR_tt15⟩ := r_pI (k := 2) (x := (tt10.1 218 2) + ((1 : Int32))) hR_tt10 lk9 rfl rfl
            rw [Option.some.inj et16] at hR_tt15
            refine ex.bd e17 ?_
            obtain rfl := Option.some.inj H
            exact ex.nd hR_tt15
        · rw [if_neg c4] at H
          refine ex.f c4 ?_
          by_cases c18 : (((v1 >>> (v3.toInt64 &&& 63)).toInt32) &&& ((255 : Int32))) < ((32 : Int32))
          · rw [if_pos c18] at H
            refine ex.t c18 ?_
            obtain rfl := Option.some.inj H
            exact ex.nd hR_t
          · rw [if_neg c18] at H
            refine ex.f c18 ?_
            by_cases c19 : ((126 : Int32)) < (((v1 >>> (v3.toInt64 &&& 63)).toInt32) &&& ((255 : Int32)))
            · rw [if_pos c19] at H
              refine ex.t c19 ?_
              obtain rfl := Option.some.inj H
              exact ex.nd hR_t
            · rw [if_neg c19] at H
              refine ex.f c19 ?_
              refine ex.bd (r_gI hR_t lk9 rfl) ?_
              by_cases c21 : ((1000 : Int32)) ≤ (t.1 218 2)
              · rw [if_pos c21] at H
                refine ex.t c21 ?_
                obtain rfl := Option.some.inj H
                exact ex.nd hR_t
              · rw [if_neg c21] at H
                refine ex.f c21 ?_
                refine ex.bd (r_gR hR_t lk9 rfl) ?_
                refine ex.bd (r_gI hR_t lk9 rfl) ?_
                obtain ⟨tt25, e26, H⟩ := am_bd H
                obtain ⟨hh24, e27, hR_tt25⟩ := r_sI hR_t (la9_1 (a := 218) (by decide)) e26
                refine ex.bd e27 ?_
                refine ex.bd (r_gI hR_tt25 lk9 rfl) ?_
                obtain ⟨tt30, et31, H⟩ := am_bd H
                obtain ⟨hh29, e32, hR_tt30⟩ := r_pI (k := 2) (x := (tt25.1 218 2) + ((1 : Int32))) hR_tt25 lk9 rfl rfl
                rw [Option.some.inj et31] at hR_tt30
                refine ex.bd e32 ?_
                obtain rfl := Option.some.inj H
                exact ex.nd hR_tt30
      · clear E33
        have hR_tt3 : Rp hh2 tt3 := hq
        exact ih _ _ _ _ _ hR_tt3  H
set_option maxHeartbeats 4000000 in
set_option maxRecDepth 100000 in
theorem sX10_lay {a1 : Int64} {h : am_H} {t : tS} {t1 : tS} (hR_t : Rp h t)  (H : tX10_lay a1 t = some t1) : ex (fX10_lay 218 a1 h) (fun h1 => Rp h1 t1) := by
  unfold tX10_lay at H
  unfold fX10_lay
  refine ex.bd (r_isO hR_t lk9) ?_
  obtain ⟨tt35, E36, H⟩ := am_bd H
  refine ex.j1 (sX10_lay_L3 _ _ _ _ _ _ hR_t  E36) (fun hh34 hq => ?_)
  clear E36
  have hR_tt35 : Rp hh34 tt35 := hq
  obtain rfl := Option.some.inj H
  exact ex.nd hR_tt35
def tX10_feed (a1 : Int64) (a2 : Int64) (a3 : Int64) (t : tS) : Option (Int32 × tS) :=
  (some (uI t 218 0 ((0 : Int32)))).bind fun tt2 =>
  (tX10_lay a1 tt2).bind fun tt7 =>
  (tX10_lay a2 tt7).bind fun tt10 =>
  (tX10_lay a3 tt10).bind fun tt13 =>
  some (tt13.1 218 2, tt13)
set_option maxHeartbeats 4000000 in
set_option maxRecDepth 100000 in
theorem sX10_feed {a1 : Int64} {a2 : Int64} {a3 : Int64} {h : am_H} {t : tS} {r : Int32} {t1 : tS} (hR_t : Rp h t)  (H : tX10_feed a1 a2 a3 t = some (r, t1)) : ex (fX10_feed 218 a1 a2 a3 h) (fun p => r = p.1 ∧ Rp p.2 t1) := by
  unfold tX10_feed at H
  unfold fX10_feed
  refine ex.bd (r_isO hR_t lk9) ?_
  obtain ⟨tt2, et3, H⟩ := am_bd H
  obtain ⟨hh1, e4, hR_tt2⟩ := r_pI (k := 0) (x := (0 : Int32)) hR_t lk9 rfl rfl
  rw [Option.some.inj et3] at hR_tt2
  refine ex.bd e4 ?_
  obtain ⟨tt7, e5, H⟩ := am_bd H
  refine ex.j1 (sX10_lay hR_tt2  e5) (fun hh6 hR_tt7 => ?_)
  obtain ⟨tt10, e8, H⟩ := am_bd H
  refine ex.j1 (sX10_lay hR_tt7  e8) (fun hh9 hR_tt10 => ?_)
  obtain ⟨tt13, e11, H⟩ := am_bd H
  refine ex.j1 (sX10_lay hR_tt10  e11) (fun hh12 hR_tt13 => ?_)
  refine ex.bd (r_gI hR_tt13 lk9 rfl) ?_
  obtain ⟨rfl, rfl⟩ := am_inj2 H
  exact ex.nd ⟨rfl, hR_tt13⟩
def tX10_dayOf (a1 : Int32) (a2 : Int32) (t : tS) : Option (Int32) :=
  (tA t 224 100 ((((12 : Int32)) + (((5 : Int32)) * a1)) + a2)).bind fun x2 =>
  some x2
set_option maxHeartbeats 4000000 in
set_option maxRecDepth 100000 in
theorem sX10_dayOf {a1 : Int32} {a2 : Int32} {h : am_H} {t : tS} {r : Int32} (hR_t : Rp h t)  (H : tX10_dayOf a1 a2 t = some r) : ex (fX10_dayOf 218 a1 a2 h) (fun x => r = x) := by
  unfold tX10_dayOf at H
  unfold fX10_dayOf
  refine ex.bd (r_isO hR_t lk9) ?_
  refine ex.bd (r_gR hR_t lk9 rfl) ?_
  obtain ⟨x2, e3, H⟩ := am_bd H
  refine ex.bd (r_aI hR_t (la9_10 (a := 218) (by decide)) e3) ?_
  obtain rfl := Option.some.inj H
  exact ex.nd rfl
def tX10_days  (t : tS) : Option (Int32) :=
  (tA t 224 100 ((1 : Int32))).bind fun x2 =>
  some x2
set_option maxHeartbeats 4000000 in
set_option maxRecDepth 100000 in
theorem sX10_days  {h : am_H} {t : tS} {r : Int32} (hR_t : Rp h t)  (H : tX10_days  t = some r) : ex (fX10_days 218 h) (fun x => r = x) := by
  unfold tX10_days at H
  unfold fX10_days
  refine ex.bd (r_isO hR_t lk9) ?_
  refine ex.bd (r_gR hR_t lk9 rfl) ?_
  obtain ⟨x2, e3, H⟩ := am_bd H
  refine ex.bd (r_aI hR_t (la9_10 (a := 218) (by decide)) e3) ?_
  obtain rfl := Option.some.inj H
  exact ex.nd rfl
def tX10_datesAsTold_L2 : Nat → Int32 → tS → Option (tS)
  | 0, _, _ => none
  | n + 1, v1, t =>
    (tX10_days  t).bind fun x2 =>
    if x2 ≤ v1 then
      some t
    else
      (tX10_dayOf v1 ((2 : Int32)) t).bind fun x7 =>
      (tWA t 0 236 6 v1 x7).bind fun tt10 =>
      tX10_datesAsTold_L2 n (v1 + (1 : Int32)) tt10
def tX10_datesAsTold  (t : tS) : Option (tS) :=
  Option.bind (tX10_datesAsTold_L2 4000 ((0 : Int32)) t) fun tt14 =>
  some tt14
set_option maxHeartbeats 4000000 in
set_option maxRecDepth 100000 in
theorem sX10_datesAsTold_L2 : ∀ (n : Nat) (v1 : Int32) (h : am_H) (t : tS) (t1 : tS), Rp h t → tX10_datesAsTold_L2 n v1 t = some t1 → ex (fX10_datesAsTold_L2 n 218 v1 h) (fun p => Rp p t1) := by
  intro n
  induction n with
  | zero => intro _ _ _ _ _ H; cases H
  | succ n ih =>
    intro v1 h t t1 hR_t H
    rw [tX10_datesAsTold_L2] at H
    rw [fX10_datesAsTold_L2]
    obtain ⟨x2, e1, H⟩ := am_bd H
    refine ex.j1 (sX10_days hR_t  e1) (fun z3 hz => ?_)
    obtain rfl : x2 = z3 := hz
    by_cases c4 : x2 ≤ v1
    · rw [if_pos c4] at H
      refine ex.t c4 ?_
      obtain rfl := Option.some.inj H
      exact ex.nd hR_t
    · rw [if_neg c4] at H
      refine ex.f c4 ?_
      refine ex.bd (r_gR hR_t lk9 rfl) ?_
      obtain ⟨x7, e6, H⟩ := am_bd H
      refine ex.j1 (sX10_dayOf hR_t  e6) (fun z8 hz => ?_)
      obtain rfl : x7 = z8 := hz
      obtain ⟨tt10, e11, H⟩ := am_bd H
      obtain ⟨hh9, e12, hR_tt10⟩ := r_sI hR_t (la9_27 (a := 218) (by decide)) e11
      refine ex.bd e12 ?_
      exact ih _ _ _ _ hR_tt10  H
set_option maxHeartbeats 4000000 in
set_option maxRecDepth 100000 in
theorem sX10_datesAsTold  {h : am_H} {t : tS} {t1 : tS} (hR_t : Rp h t)  (H : tX10_datesAsTold  t = some t1) : ex (fX10_datesAsTold 218 h) (fun h1 => Rp h1 t1) := by
  unfold tX10_datesAsTold at H
  unfold fX10_datesAsTold
  refine ex.bd (r_isO hR_t lk9) ?_
  obtain ⟨tt14, E15, H⟩ := am_bd H
  refine ex.j1 (sX10_datesAsTold_L2 _ _ _ _ _ hR_t  E15) (fun hh13 hq => ?_)
  clear E15
  have hR_tt14 : Rp hh13 tt14 := hq
  obtain rfl := Option.some.inj H
  exact ex.nd hR_tt14
def tX10_houseOf (a1 : Int32) (a2 : Int32) (t : tS) : Option (Int32) :=
  (tA t 224 100 ((((4 : Int32)) + (((2 : Int32)) * a1)) + a2)).bind fun x2 =>
  some x2
set_option maxHeartbeats 4000000 in
set_option maxRecDepth 100000 in
theorem sX10_houseOf {a1 : Int32} {a2 : Int32} {h : am_H} {t : tS} {r : Int32} (hR_t : Rp h t)  (H : tX10_houseOf a1 a2 t = some r) : ex (fX10_houseOf 218 a1 a2 h) (fun x => r = x) := by
  unfold tX10_houseOf at H
  unfold fX10_houseOf
  refine ex.bd (r_isO hR_t lk9) ?_
  refine ex.bd (r_gR hR_t lk9 rfl) ?_
  obtain ⟨x2, e3, H⟩ := am_bd H
  refine ex.bd (r_aI hR_t (la9_10 (a := 218) (by decide)) e3) ?_
  obtain rfl := Option.some.inj H
  exact ex.nd rfl
def tX10_houses  (t : tS) : Option (Int32) :=
  (tA t 224 100 ((0 : Int32))).bind fun x2 =>
  some x2
set_option maxHeartbeats 4000000 in
set_option maxRecDepth 100000 in
theorem sX10_houses  {h : am_H} {t : tS} {r : Int32} (hR_t : Rp h t)  (H : tX10_houses  t = some r) : ex (fX10_houses 218 h) (fun x => r = x) := by
  unfold tX10_houses at H
  unfold fX10_houses
  refine ex.bd (r_isO hR_t lk9) ?_
  refine ex.bd (r_gR hR_t lk9 rfl) ?_
  obtain ⟨x2, e3, H⟩ := am_bd H
  refine ex.bd (r_aI hR_t (la9_10 (a := 218) (by decide)) e3) ?_
  obtain rfl := Option.some.inj H
  exact ex.nd rfl
def tX10_starts_L2 : Nat → Int32 → Int32 → tS → Option (tS)
  | 0, _, _, _ => none
  | n + 1, v1, v2, t =>
    if ((30 : Int32)) ≤ v2 then
      some t
    else
      (tWA t 0 234 1081 (v1 + v2) ((0 : Int32))).bind fun tt4 =>
      tX10_starts_L2 n v1 (v2 + (1 : Int32)) tt4
def tX10_starts_L25 : Nat → Int32 → Int32 → tS → Option (tS)
  | 0, _, _, _ => none
  | n + 1, v1, v2, t =>
    (tX10_houses  t).bind fun x11 =>
    if x11 ≤ v2 then
      some t
    else
      (tX10_houseOf v2 ((0 : Int32)) t).bind fun x16 =>
      (tWA t 0 234 1081 ((v1 + ((2 : Int32))) + v2) x16).bind fun tt19 =>
      tX10_starts_L25 n v1 (v2 + (1 : Int32)) tt19
def tX10_starts_L57 : Nat → Int32 → Int32 → tS → Option (tS)
  | 0, _, _, _ => none
  | n + 1, v1, v2, t =>
    if ((6 : Int32)) ≤ v2 then
      some t
    else
      (tWA t 0 234 1081 ((v1 + ((6 : Int32))) + v2) ((-1 : Int32))).bind fun tt28 =>
      (tX10_days  tt28).bind fun x33 =>
      Option.bind (
        if x33 ≤ v2 then
          some ((0 : Int32))
        else
          (tX10_dayOf v2 ((3 : Int32)) tt28).bind fun x38 =>
          some x38) fun js35 =>
      (tWA tt28 0 234 1081 ((v1 + ((18 : Int32))) + v2) js35).bind fun tt41 =>
      tX10_starts_L57 n v1 (v2 + (1 : Int32)) tt41
def tX10_starts (a1 : Int32) (t : tS) : Option (tS) :=
  Option.bind (tX10_starts_L2 4000 a1 ((0 : Int32)) t) fun tt8 =>
  Option.bind (tX10_starts_L25 4000 a1 ((0 : Int32)) tt8) fun tt23 =>
  Option.bind (tX10_starts_L57 4000 a1 ((0 : Int32)) tt23) fun tt47 =>
  some tt47
set_option maxHeartbeats 4000000 in
set_option maxRecDepth 100000 in
theorem sX10_starts_L2 : ∀ (n : Nat) (v1 : Int32) (v2 : Int32) (h : am_H) (t : tS) (t1 : tS), Rp h t → tX10_starts_L2 n v1 v2 t = some t1 → ex (fX10_starts_L2 n 218 v1 v2 h) (fun p => Rp p t1) := by
  intro n
  induction n with
  | zero => intro _ _ _ _ _ _ H; cases H
  | succ n ih =>
    intro v1 v2 h t t1 hR_t H
    rw [tX10_starts_L2] at H
    rw [fX10_starts_L2]
    by_cases c1 : ((30 : Int32)) ≤ v2
    · rw [if_pos c1] at H
      refine ex.t c1 ?_
      obtain rfl := Option.some.inj H
      exact ex.nd hR_t
    · rw [if_neg c1] at H
      refine ex.f c1 ?_
      refine ex.bd (r_gR hR_t lk9 rfl) ?_
      obtain ⟨tt4, e5, H⟩ := am_bd H
      obtain ⟨hh3, e6, hR_tt4⟩ := r_sI hR_t (la9_24 (a := 218) (by decide)) e5
      refine ex.bd e6 ?_
      exact ih _ _ _ _ _ hR_tt4  H
set_option maxHeartbeats 4000000 in
set_option maxRecDepth 100000 in
theorem sX10_starts_L25 : ∀ (n : Nat) (v1 : Int32) (v2 : Int32) (h : am_H) (t : tS) (t1 : tS), Rp h t → tX10_starts_L25 n v1 v2 t = some t1 → ex (fX10_starts_L25 n 218 v1 v2 h) (fun p => Rp p t1) := by
  intro n
  induction n with
  | zero => intro _ _ _ _ _ _ H; cases H
  | succ n ih =>
    intro v1 v2 h t t1 hR_t H
    rw [tX10_starts_L25] at H
    rw [fX10_starts_L25]
    obtain ⟨x11, e10, H⟩ := am_bd H
    refine ex.j1 (sX10_houses hR_t  e10) (fun z12 hz => ?_)
    obtain rfl : x11 = z12 := hz
    by_cases c13 : x11 ≤ v2
    · rw [if_pos c13] at H
      refine ex.t c13 ?_
      obtain rfl := Option.some.inj H
      exact ex.nd hR_t
    · rw [if_neg c13] at H
      refine ex.f c13 ?_
      refine ex.bd (r_gR hR_t lk9 rfl) ?_
      obtain ⟨x16, e15, H⟩ := am_bd H
      refine ex.j1 (sX10_houseOf hR_t  e15) (fun z17 hz => ?_)
      obtain rfl : x16 = z17 := hz
      obtain ⟨tt19, e20, H⟩ := am_bd H
      obtain ⟨hh18, e21, hR_tt19⟩ := r_sI hR_t (la9_24 (a := 218) (by decide)) e20
      refine ex.bd e21 ?_
      exact ih _ _ _ _ _ hR_tt19  H
set_option maxHeartbeats 4000000 in
set_option maxRecDepth 100000 in
theorem sX10_starts_L57 : ∀ (n : Nat) (v1 : Int32) (v2 : Int32) (h : am_H) (t : tS) (t1 : tS), Rp h t → tX10_starts_L57 n v1 v2 t = some t1 → ex (fX10_starts_L57 n 218 v1 v2 h) (fun p => Rp p t1) := by
  intro n
  induction n with
  | zero => intro _ _ _ _ _ _ H; cases H
  | succ n ih =>
    intro v1 v2 h t t1 hR_t H
    rw [tX10_starts_L57] at H
    rw [fX10_starts_L57]
    by_cases c25 : ((6 : Int32)) ≤ v2
    · rw [if_pos c25] at H
      refine ex.t c25 ?_
      obtain rfl := Option.some.inj H
      exact ex.nd hR_t
    · rw [if_neg c25] at H
      refine ex.f c25 ?_
      refine ex.bd (r_gR hR_t lk9 rfl) ?_
      obtain ⟨tt28, e29, H⟩ := am_bd H
      obtain ⟨hh27, e30, hR_tt28⟩ := r_sI hR_t (la9_24 (a := 218) (by decide)) e29
      refine ex.bd e30 ?_
      refine ex.bd (r_gR hR_tt28 lk9 rfl) ?_
      obtain ⟨x33, e32, H⟩ := am_bd H
      refine ex.j1 (sX10_days hR_tt28  e32) (fun z34 hz => ?_)
      obtain rfl : x33 = z34 := hz
      obtain ⟨js35, E44, H⟩ := am_bd H
      refine ex.j1 (Q := fun p => js35 = p) ?_ (fun z45 hq => ?_)
      · clear H
        have H := E44
        clear E44
        by_cases c36 : x33 ≤ v2
        · rw [if_pos c36] at H
          refine ex.t c36 ?_
          obtain rfl := Option.some.inj H
          exact ex.nd rfl
        · rw [if_neg c36] at H
          refine ex.f c36 ?_
          obtain ⟨x38, e37, H⟩ := am_bd H
          refine ex.j1 (sX10_dayOf hR_tt28  e37) (fun z39 hz => ?_)
          obtain rfl : x38 = z39 := hz
          obtain rfl := Option.some.inj H
          exact ex.nd rfl
      · clear E44
        obtain rfl : js35 = z45 := hq
        obtain ⟨tt41, e42, H⟩ := am_bd H
        obtain ⟨hh40, e43, hR_tt41⟩ := r_sI hR_tt28 (la9_24 (a := 218) (by decide)) e42
        refine ex.bd e43 ?_
        exact ih _ _ _ _ _ hR_tt41  H
set_option maxHeartbeats 4000000 in
set_option maxRecDepth 100000 in
theorem sX10_starts {a1 : Int32} {h : am_H} {t : tS} {t1 : tS} (hR_t : Rp h t)  (H : tX10_starts a1 t = some t1) : ex (fX10_starts 218 a1 h) (fun h1 => Rp h1 t1) := by
  unfold tX10_starts at H
  unfold fX10_starts
  refine ex.bd (r_isO hR_t lk9) ?_
  obtain ⟨tt8, E9, H⟩ := am_bd H
  refine ex.j1 (sX10_starts_L2 _ _ _ _ _ _ hR_t  E9) (fun hh7 hq => ?_)
  clear E9
  have hR_tt8 : Rp hh7 tt8 := hq
  obtain ⟨tt23, E24, H⟩ := am_bd H
  refine ex.j1 (sX10_starts_L25 _ _ _ _ _ _ hR_tt8  E24) (fun hh22 hq => ?_)
  clear E24
  have hR_tt23 : Rp hh22 tt23 := hq
  obtain ⟨tt47, E48, H⟩ := am_bd H
  refine ex.j1 (sX10_starts_L57 _ _ _ _ _ _ hR_tt23  E48) (fun hh46 hq => ?_)
  clear E48
  have hR_tt47 : Rp hh46 tt47 := hq
  obtain rfl := Option.some.inj H
  exact ex.nd hR_tt47
def tX10_begins_L31 : Nat → Int32 → tS → Option (tS)
  | 0, _, _ => none
  | n + 1, v1, t =>
    if ((4 : Int32)) ≤ v1 then
      some t
    else
      (tWA t 3 235 4 v1 ((0 : Int32))).bind fun tt24 =>
      tX10_begins_L31 n (v1 + (1 : Int32)) tt24
def tX10_begins  (t : tS) : Option (tS) :=
  (tX10_datesAsTold  t).bind fun tt3 =>
  (tX10_starts ((0 : Int32)) tt3).bind fun tt6 =>
  (tWA tt6 0 234 1081 ((30 : Int32)) ((0 : Int32))).bind fun tt9 =>
  (tWA tt9 0 231 250 ((0 : Int32)) ((0 : Int32))).bind fun tt14 =>
  (some (uI tt14 218 25 ((0 : Int32)))).bind fun tt18 =>
  Option.bind (tX10_begins_L31 4000 ((0 : Int32)) tt18) fun tt28 =>
  some tt28
set_option maxHeartbeats 4000000 in
set_option maxRecDepth 100000 in
theorem sX10_begins_L31 : ∀ (n : Nat) (v1 : Int32) (h : am_H) (t : tS) (t1 : tS), Rp h t → tX10_begins_L31 n v1 t = some t1 → ex (fX10_begins_L31 n 218 v1 h) (fun p => Rp p t1) := by
  intro n
  induction n with
  | zero => intro _ _ _ _ _ H; cases H
  | succ n ih =>
    intro v1 h t t1 hR_t H
    rw [tX10_begins_L31] at H
    rw [fX10_begins_L31]
    by_cases c21 : ((4 : Int32)) ≤ v1
    · rw [if_pos c21] at H
      refine ex.t c21 ?_
      obtain rfl := Option.some.inj H
      exact ex.nd hR_t
    · rw [if_neg c21] at H
      refine ex.f c21 ?_
      refine ex.bd (r_gR hR_t lk9 rfl) ?_
      obtain ⟨tt24, e25, H⟩ := am_bd H
      obtain ⟨hh23, e26, hR_tt24⟩ := r_sI hR_t (la9_26 (a := 218) (by decide)) e25
      refine ex.bd e26 ?_
      exact ih _ _ _ _ hR_tt24  H
set_option maxHeartbeats 4000000 in
set_option maxRecDepth 100000 in
theorem sX10_begins  {h : am_H} {t : tS} {t1 : tS} (hR_t : Rp h t)  (H : tX10_begins  t = some t1) : ex (fX10_begins 218 h) (fun h1 => Rp h1 t1) := by
  unfold tX10_begins at H
  unfold fX10_begins
  refine ex.bd (r_isO hR_t lk9) ?_
  obtain ⟨tt3, e1, H⟩ := am_bd H
  refine ex.j1 (sX10_datesAsTold hR_t  e1) (fun hh2 hR_tt3 => ?_)
  obtain ⟨tt6, e4, H⟩ := am_bd H
  refine ex.j1 (sX10_starts hR_tt3  e4) (fun hh5 hR_tt6 => ?_)
  refine ex.bd (r_gR hR_tt6 lk9 rfl) ?_
  obtain ⟨tt9, e10, H⟩ := am_bd H
  obtain ⟨hh8, e11, hR_tt9⟩ := r_sI hR_tt6 (la9_24 (a := 218) (by decide)) e10
  refine ex.bd e11 ?_
  refine ex.bd (r_gR hR_tt9 lk9 rfl) ?_
  obtain ⟨tt14, e15, H⟩ := am_bd H
  obtain ⟨hh13, e16, hR_tt14⟩ := r_sI hR_tt9 (la9_21 (a := 218) (by decide)) e15
  refine ex.bd e16 ?_
  obtain ⟨tt18, et19, H⟩ := am_bd H
  obtain ⟨hh17, e20, hR_tt18⟩ := r_pI (k := 25) (x := (0 : Int32)) hR_tt14 lk9 rfl rfl
  rw [Option.some.inj et19] at hR_tt18
  refine ex.bd e20 ?_
  obtain ⟨tt28, E29, H⟩ := am_bd H
  refine ex.j1 (sX10_begins_L31 _ _ _ _ _ hR_tt18  E29) (fun hh27 hq => ?_)
  clear E29
  have hR_tt28 : Rp hh27 tt28 := hq
  obtain rfl := Option.some.inj H
  exact ex.nd hR_tt28
def tX10_standsAsAlways_L2 : Nat → Int32 → Int32 → tS → Option (tS)
  | 0, _, _, _ => none
  | n + 1, v1, v2, t =>
    if ((50 : Int32)) ≤ v2 then
      some t
    else
      (tWA t 0 224 100 (v1 + v2) ((0 : Int32))).bind fun tt4 =>
      tX10_standsAsAlways_L2 n v1 (v2 + (1 : Int32)) tt4
def tX10_standsAsAlways (a1 : Int32) (t : tS) : Option (tS) :=
  Option.bind (tX10_standsAsAlways_L2 4000 a1 ((0 : Int32)) t) fun tt8 =>
  (tWA tt8 0 224 100 (a1 + ((2 : Int32))) ((1 : Int32))).bind fun tt12 =>
  (tWA tt12 0 224 100 (a1 + ((3 : Int32))) ((-1 : Int32))).bind fun tt17 =>
  some tt17
set_option maxHeartbeats 4000000 in
set_option maxRecDepth 100000 in
theorem sX10_standsAsAlways_L2 : ∀ (n : Nat) (v1 : Int32) (v2 : Int32) (h : am_H) (t : tS) (t1 : tS), Rp h t → tX10_standsAsAlways_L2 n v1 v2 t = some t1 → ex (fX10_standsAsAlways_L2 n 218 v1 v2 h) (fun p => Rp p t1) := by
  intro n
  induction n with
  | zero => intro _ _ _ _ _ _ H; cases H
  | succ n ih =>
    intro v1 v2 h t t1 hR_t H
    rw [tX10_standsAsAlways_L2] at H
    rw [fX10_standsAsAlways_L2]
    by_cases c1 : ((50 : Int32)) ≤ v2
    · rw [if_pos c1] at H
      refine ex.t c1 ?_
      obtain rfl := Option.some.inj H
      exact ex.nd hR_t
    · rw [if_neg c1] at H
      refine ex.f c1 ?_
      refine ex.bd (r_gR hR_t lk9 rfl) ?_
      obtain ⟨tt4, e5, H⟩ := am_bd H
      obtain ⟨hh3, e6, hR_tt4⟩ := r_sI hR_t (la9_10 (a := 218) (by decide)) e5
      refine ex.bd e6 ?_
      exact ih _ _ _ _ _ hR_tt4  H
set_option maxHeartbeats 4000000 in
set_option maxRecDepth 100000 in
theorem sX10_standsAsAlways {a1 : Int32} {h : am_H} {t : tS} {t1 : tS} (hR_t : Rp h t)  (H : tX10_standsAsAlways a1 t = some t1) : ex (fX10_standsAsAlways 218 a1 h) (fun h1 => Rp h1 t1) := by
  unfold tX10_standsAsAlways at H
  unfold fX10_standsAsAlways
  refine ex.bd (r_isO hR_t lk9) ?_
  obtain ⟨tt8, E9, H⟩ := am_bd H
  refine ex.j1 (sX10_standsAsAlways_L2 _ _ _ _ _ _ hR_t  E9) (fun hh7 hq => ?_)
  clear E9
  have hR_tt8 : Rp hh7 tt8 := hq
  refine ex.bd (r_gR hR_tt8 lk9 rfl) ?_
  obtain ⟨tt12, e13, H⟩ := am_bd H
  obtain ⟨hh11, e14, hR_tt12⟩ := r_sI hR_tt8 (la9_10 (a := 218) (by decide)) e13
  refine ex.bd e14 ?_
  refine ex.bd (r_gR hR_tt12 lk9 rfl) ?_
  obtain ⟨tt17, e18, H⟩ := am_bd H
  obtain ⟨hh16, e19, hR_tt17⟩ := r_sI hR_tt12 (la9_10 (a := 218) (by decide)) e18
  refine ex.bd e19 ?_
  obtain rfl := Option.some.inj H
  exact ex.nd hR_tt17
def tX10_isLetter (a0 : Int32) (t : tS) : Option (Int32) :=
  Option.bind (
    if a0 < ((97 : Int32)) then
      some ((0 : Int32))
    else
      if ((122 : Int32)) < a0 then
        some ((0 : Int32))
      else
        some ((1 : Int32))) fun js1 =>
  (am_z01 js1).bind fun b4 =>
  some b4
set_option maxHeartbeats 4000000 in
set_option maxRecDepth 100000 in
theorem sX10_isLetter {a0 : Int32} {h : am_H} {t : tS} {r : Int32} (hR_t : Rp h t)  (H : tX10_isLetter a0 t = some r) : ex (fX10_isLetter a0 h) (fun x => r = x) := by
  unfold tX10_isLetter at H
  unfold fX10_isLetter
  obtain ⟨js1, E6, H⟩ := am_bd H
  refine ex.j1 (Q := fun p => js1 = p) ?_ (fun z7 hq => ?_)
  · clear H
    have H := E6
    clear E6
    by_cases c2 : a0 < ((97 : Int32))
    · rw [if_pos c2] at H
      refine ex.t c2 ?_
      obtain rfl := Option.some.inj H
      exact ex.nd rfl
    · rw [if_neg c2] at H
      refine ex.f c2 ?_
      by_cases c3 : ((122 : Int32)) < a0
      · rw [if_pos c3] at H
        refine ex.t c3 ?_
        obtain rfl := Option.some.inj H
        exact ex.nd rfl
      · rw [if_neg c3] at H
        refine ex.f c3 ?_
        obtain rfl := Option.some.inj H
        exact ex.nd rfl
  · clear E6
    obtain rfl : js1 = z7 := hq
    obtain ⟨b4, e5, H⟩ := am_bd H
    refine ex.bd e5 ?_
    obtain rfl := Option.some.inj H
    exact ex.nd rfl
def tX10_isDigit (a0 : Int32) (t : tS) : Option (Int32) :=
  Option.bind (
    if a0 < ((48 : Int32)) then
      some ((0 : Int32))
    else
      if ((57 : Int32)) < a0 then
        some ((0 : Int32))
      else
        some ((1 : Int32))) fun js1 =>
  (am_z01 js1).bind fun b4 =>
  some b4
set_option maxHeartbeats 4000000 in
set_option maxRecDepth 100000 in
theorem sX10_isDigit {a0 : Int32} {h : am_H} {t : tS} {r : Int32} (hR_t : Rp h t)  (H : tX10_isDigit a0 t = some r) : ex (fX10_isDigit a0 h) (fun x => r = x) := by
  unfold tX10_isDigit at H
  unfold fX10_isDigit
  obtain ⟨js1, E6, H⟩ := am_bd H
  refine ex.j1 (Q := fun p => js1 = p) ?_ (fun z7 hq => ?_)
  · clear H
    have H := E6
    clear E6
    by_cases c2 : a0 < ((48 : Int32))
    · rw [if_pos c2] at H
      refine ex.t c2 ?_
      obtain rfl := Option.some.inj H
      exact ex.nd rfl
    · rw [if_neg c2] at H
      refine ex.f c2 ?_
      by_cases c3 : ((57 : Int32)) < a0
      · rw [if_pos c3] at H
        refine ex.t c3 ?_
        obtain rfl := Option.some.inj H
        exact ex.nd rfl
      · rw [if_neg c3] at H
        refine ex.f c3 ?_
        obtain rfl := Option.some.inj H
        exact ex.nd rfl
  · clear E6
    obtain rfl : js1 = z7 := hq
    obtain ⟨b4, e5, H⟩ := am_bd H
    refine ex.bd e5 ?_
    obtain rfl := Option.some.inj H
    exact ex.nd rfl
def tX10_rank (a0 : Int32) (t : tS) : Option (Int32) :=
  (tX10_isLetter a0 t).bind fun x2 =>
  Option.bind (
    if x2 = 0 then
      some (a0 - ((21 : Int32)))
    else
      some (a0 - ((96 : Int32)))) fun js4 =>
  some js4
set_option maxHeartbeats 4000000 in
set_option maxRecDepth 100000 in
theorem sX10_rank {a0 : Int32} {h : am_H} {t : tS} {r : Int32} (hR_t : Rp h t)  (H : tX10_rank a0 t = some r) : ex (fX10_rank a0 h) (fun x => r = x) := by
  unfold tX10_rank at H
  unfold fX10_rank
  obtain ⟨x2, e1, H⟩ := am_bd H
  refine ex.j1 (sX10_isLetter hR_t  e1) (fun z3 hz => ?_)
  obtain rfl : x2 = z3 := hz
  obtain ⟨js4, E6, H⟩ := am_bd H
  refine ex.j1 (Q := fun p => js4 = p) ?_ (fun z7 hq => ?_)
  · clear H
    have H := E6
    clear E6
    by_cases c5 : x2 = 0
    · rw [if_pos c5] at H
      refine ex.t c5 ?_
      obtain rfl := Option.some.inj H
      exact ex.nd rfl
    · rw [if_neg c5] at H
      refine ex.f c5 ?_
      obtain rfl := Option.some.inj H
      exact ex.nd rfl
  · clear E6
    obtain rfl : js4 = z7 := hq
    obtain rfl := Option.some.inj H
    exact ex.nd rfl
def tX10_isSignOf (a0 : Int32) (t : tS) : Option (Int32) :=
  Option.bind (
    if a0 = ((40 : Int32)) then
      some ((1 : Int32))
    else
      if a0 = ((41 : Int32)) then
        some ((1 : Int32))
      else
        if a0 = ((59 : Int32)) then
          some ((1 : Int32))
        else
          if a0 = ((61 : Int32)) then
            some ((1 : Int32))
          else
            if a0 = ((60 : Int32)) then
              some ((1 : Int32))
            else
              if a0 = ((43 : Int32)) then
                some ((1 : Int32))
              else
                if a0 = ((45 : Int32)) then
                  some ((1 : Int32))
                else
                  if ¬ a0 = ((42 : Int32)) then
                    some ((0 : Int32))
                  else
                    some ((1 : Int32))) fun js1 =>
  (am_z01 js1).bind fun b10 =>
  some b10
set_option maxHeartbeats 4000000 in
set_option maxRecDepth 100000 in
theorem sX10_isSignOf {a0 : Int32} {h : am_H} {t : tS} {r : Int32} (hR_t : Rp h t)  (H : tX10_isSignOf a0 t = some r) : ex (fX10_isSignOf a0 h) (fun x => r = x) := by
  unfold tX10_isSignOf at H
  unfold fX10_isSignOf
  obtain ⟨js1, E12, H⟩ := am_bd H
  refine ex.j1 (Q := fun p => js1 = p) ?_ (fun z13 hq => ?_)
  · clear H
    have H := E12
    clear E12
    by_cases c2 : a0 = ((40 : Int32))
    · rw [if_pos c2] at H
      refine ex.t c2 ?_
      obtain rfl := Option.some.inj H
      exact ex.nd rfl
    · rw [if_neg c2] at H
      refine ex.f c2 ?_
      by_cases c3 : a0 = ((41 : Int32))
      · rw [if_pos c3] at H
        refine ex.t c3 ?_
        obtain rfl := Option.some.inj H
        exact ex.nd rfl
      · rw [if_neg c3] at H
        refine ex.f c3 ?_
        by_cases c4 : a0 = ((59 : Int32))
        · rw [if_pos c4] at H
          refine ex.t c4 ?_
          obtain rfl := Option.some.inj H
          exact ex.nd rfl
        · rw [if_neg c4] at H
          refine ex.f c4 ?_
          by_cases c5 : a0 = ((61 : Int32))
          · rw [if_pos c5] at H
            refine ex.t c5 ?_
            obtain rfl := Option.some.inj H
            exact ex.nd rfl
          · rw [if_neg c5] at H
            refine ex.f c5 ?_
            by_cases c6 : a0 = ((60 : Int32))
            · rw [if_pos c6] at H
              refine ex.t c6 ?_
              obtain rfl := Option.some.inj H
              exact ex.nd rfl
            · rw [if_neg c6] at H
              refine ex.f c6 ?_
              by_cases c7 : a0 = ((43 : Int32))
              · rw [if_pos c7] at H
                refine ex.t c7 ?_
                obtain rfl := Option.some.inj H
                exact ex.nd rfl
              · rw [if_neg c7] at H
                refine ex.f c7 ?_
                by_cases c8 : a0 = ((45 : Int32))
                · rw [if_pos c8] at H
                  refine ex.t c8 ?_
                  obtain rfl := Option.some.inj H
                  exact ex.nd rfl
                · rw [if_neg c8] at H
                  refine ex.f c8 ?_
                  by_cases c9 : ¬ a0 = ((42 : Int32))
                  · rw [if_pos c9] at H
                    refine ex.t c9 ?_
                    obtain rfl := Option.some.inj H
                    exact ex.nd rfl
                  · rw [if_neg c9] at H
                    refine ex.f c9 ?_
                    obtain rfl := Option.some.inj H
                    exact ex.nd rfl
  · clear E12
    obtain rfl : js1 = z13 := hq
    obtain ⟨b10, e11, H⟩ := am_bd H
    refine ex.bd e11 ?_
    obtain rfl := Option.some.inj H
    exact ex.nd rfl
def tX10_cutAll_L159 : Nat → Int32 → Int32 → Int32 → Int64 → tS → Option (Int32 × Int64)
  | 0, _, _, _, _, _ => none
  | n + 1, v1, v2, v4, v5, t =>
    if (t.1 218 3) ≤ v2 then
      some (v2, v5)
    else
      (tA t 219 1000 v2).bind fun x49 =>
      (tX10_isDigit x49 t).bind fun x52 =>
      if x52 = 0 then
        some (v2, v5)
      else
        Option.bind (
          if ((4 : Int32)) ≤ (v2 - v4) then
            some v5
          else
            (tA t 219 1000 v2).bind fun x58 =>
            some (((((10 : Int64)) * v5) + x58.toInt64) - ((48 : Int64)))) fun js55 =>
        tX10_cutAll_L159 n v1 (v2 + (1 : Int32)) v4 js55 t
def tX10_cutAll_L70 : Nat → Int32 → Int32 → Int32 → Int64 → tS → Option (Int32 × Int64)
  | 0, _, _, _, _, _ => none
  | n + 1, v1, v2, v4, v5, t =>
    if (t.1 218 3) ≤ v2 then
      some (v2, v5)
    else
      (tA t 219 1000 v2).bind fun x79 =>
      (tX10_isLetter x79 t).bind fun x82 =>
      if x82 = 0 then
        some (v2, v5)
      else
        Option.bind (
          if ((8 : Int32)) ≤ (v2 - v4) then
            some v5
          else
            (tA t 219 1000 v2).bind fun x88 =>
            (tX10_rank x88 t).bind fun x91 =>
            some ((((37 : Int64)) * v5) + x91.toInt64)) fun js85 =>
        tX10_cutAll_L70 n v1 (v2 + (1 : Int32)) v4 js85 t
def tX10_cutAll_L17 : Nat → Int32 → Int32 → tS → Option (Int32 × tS)
  | 0, _, _, _ => none
  | n + 1, v1, v2, t =>
    if (t.1 218 3) ≤ v2 then
      some (v1, t)
    else
      (tA t 219 1000 v2).bind fun x13 =>
      if x13 = ((10 : Int32)) then
        tX10_cutAll_L17 n v1 (v2 + (1 : Int32)) t
      else
        if ¬ x13 = ((32 : Int32)) then
          (tWA t 0 221 1002 v1 v2).bind fun tt19 =>
          (tX10_isLetter x13 tt19).bind fun x23 =>
          am_b3 (
            if x23 = 0 then
              (tX10_isDigit x13 tt19).bind fun x31 =>
              if x31 = 0 then
                (tX10_isSignOf x13 tt19).bind fun x36 =>
                Option.bind (
                  if x36 = 0 then
                    some ((4 : Int32))
                  else
                    some ((3 : Int32))) fun js38 =>
                (tWA tt19 0 220 1002 v1 js38).bind fun tt41 =>
                some (v2 + (1 : Int32), x13.toInt64, tt41)
              else
                am_b2 (tX10_cutAll_L159 4000 v1 v2 v2 ((0 : Int64)) tt19) fun lw62 lw63 =>
                Option.bind (
                  if (lw62 - v2) ≤ ((4 : Int32)) then
                    some ((2 : Int32))
                  else
                    some ((4 : Int32))) fun js68 =>
                (tWA tt19 0 220 1002 v1 js68).bind fun tt71 =>
                some (lw62, lw63, tt71)
            else
              am_b2 (tX10_cutAll_L70 4000 v1 v2 v2 ((0 : Int64)) tt19) fun lw95 lw96 =>
              Option.bind (
                if (lw95 - v2) ≤ ((8 : Int32)) then
                  some ((1 : Int32))
                else
                  some ((4 : Int32))) fun js101 =>
              (tWA tt19 0 220 1002 v1 js101).bind fun tt104 =>
              some (lw95, lw96, tt104)) fun jv25 jv26 tt28 =>
          (tWB tt28 222 1002 v1 jv26).bind fun tt111 =>
          tX10_cutAll_L17 n (v1 + (1 : Int32)) jv25 tt111
        else
          tX10_cutAll_L17 n v1 (v2 + (1 : Int32)) t
def tX10_cutAll  (t : tS) : Option (tS) :=
  (some (uI t 218 3 (t.1 218 2))).bind fun tt3 =>
  (some (uI tt3 218 2 ((0 : Int32)))).bind fun tt7 =>
  am_b2 (tX10_cutAll_L17 4000 ((0 : Int32)) ((0 : Int32)) tt7) fun lw117 tt119 =>
  (tWA tt119 0 220 1002 lw117 ((0 : Int32))).bind fun tt124 =>
  (tWA tt124 0 221 1002 lw117 (tt124.1 218 3)).bind fun tt130 =>
  (some (uI tt130 218 7 ((0 : Int32)))).bind fun tt134 =>
  (some (uI tt134 218 8 ((0 : Int32)))).bind fun tt138 =>
  some tt138
set_option maxHeartbeats 4000000 in
set_option maxRecDepth 100000 in
theorem sX10_cutAll_L159 : ∀ (n : Nat) (v1 : Int32) (v2 : Int32) (v4 : Int32) (v5 : Int64) (h : am_H) (t : tS) (w2 : Int32) (w5 : Int64), Rp h t → tX10_cutAll_L159 n v1 v2 v4 v5 t = some (w2, w5) → ex (fX10_cutAll_L159 n 218 v1 v2 v4 v5 h) (fun p => w2 = p.1 ∧ w5 = p.2) := by
  intro n
  induction n with
  | zero => intro _ _ _ _ _ _ _ _ _ H; cases H
  | succ n ih =>
    intro v1 v2 v4 v5 h t w2 w5 hR_t H
    rw [tX10_cutAll_L159] at H
    rw [fX10_cutAll_L159]
    refine ex.bd (r_gI hR_t lk9 rfl) ?_
    by_cases c47 : (t.1 218 3) ≤ v2
    · rw [if_pos c47] at H
      refine ex.t c47 ?_
      obtain ⟨rfl, rfl⟩ := am_inj2 H
      exact ex.nd ⟨rfl, rfl⟩
    · rw [if_neg c47] at H
      refine ex.f c47 ?_
      refine ex.bd (r_gR hR_t lk9 rfl) ?_
      obtain ⟨x49, e50, H⟩ := am_bd H
      refine ex.bd (r_aI hR_t (la9_1 (a := 218) (by decide)) e50) ?_
      obtain ⟨x52, e51, H⟩ := am_bd H
      refine ex.j1 (sX10_isDigit hR_t  e51) (fun z53 hz => ?_)
      obtain rfl : x52 = z53 := hz
      by_cases c54 : x52 = 0
      · rw [if_pos c54] at H
        refine ex.t c54 ?_
        obtain ⟨rfl, rfl⟩ := am_inj2 H
        exact ex.nd ⟨rfl, rfl⟩
      · rw [if_neg c54] at H
        refine ex.f c54 ?_
        obtain ⟨js55, E60, H⟩ := am_bd H
        refine ex.j1 (Q := fun p => js55 = p) ?_ (fun z61 hq => ?_)
        · clear H
          have H := E60
          clear E60
          by_cases c56 : ((4 : Int32)) ≤ (v2 - v4)
          · rw [if_pos c56] at H
            refine ex.t c56 ?_
            obtain rfl := Option.some.inj H
            exact ex.nd rfl
          · rw [if_neg c56] at H
            refine ex.f c56 ?_
            refine ex.bd (r_gR hR_t lk9 rfl) ?_
            obtain ⟨x58, e59, H⟩ := am_bd H
            refine ex.bd (r_aI hR_t (la9_1 (a := 218) (by decide)) e59) ?_
            obtain rfl := Option.some.inj H
            exact ex.nd rfl
        · clear E60
          obtain rfl : js55 = z61 := hq
          exact ih _ _ _ _ _ _ _ _ hR_t  H
set_option maxHeartbeats 4000000 in
set_option maxRecDepth 100000 in
theorem sX10_cutAll_L70 : ∀ (n : Nat) (v1 : Int32) (v2 : Int32) (v4 : Int32) (v5 : Int64) (h : am_H) (t : tS) (w2 : Int32) (w5 : Int64), Rp h t → tX10_cutAll_L70 n v1 v2 v4 v5 t = some (w2, w5) → ex (fX10_cutAll_L70 n 218 v1 v2 v4 v5 h) (fun p => w2 = p.1 ∧ w5 = p.2) := by
  intro n
  induction n with
  | zero => intro _ _ _ _ _ _ _ _ _ H; cases H
  | succ n ih =>
    intro v1 v2 v4 v5 h t w2 w5 hR_t H
    rw [tX10_cutAll_L70] at H
    rw [fX10_cutAll_L70]
    refine ex.bd (r_gI hR_t lk9 rfl) ?_
    by_cases c77 : (t.1 218 3) ≤ v2
    · rw [if_pos c77] at H
      refine ex.t c77 ?_
      obtain ⟨rfl, rfl⟩ := am_inj2 H
      exact ex.nd ⟨rfl, rfl⟩
    · rw [if_neg c77] at H
      refine ex.f c77 ?_
      refine ex.bd (r_gR hR_t lk9 rfl) ?_
      obtain ⟨x79, e80, H⟩ := am_bd H
      refine ex.bd (r_aI hR_t (la9_1 (a := 218) (by decide)) e80) ?_
      obtain ⟨x82, e81, H⟩ := am_bd H
      refine ex.j1 (sX10_isLetter hR_t  e81) (fun z83 hz => ?_)
      obtain rfl : x82 = z83 := hz
      by_cases c84 : x82 = 0
      · rw [if_pos c84] at H
        refine ex.t c84 ?_
        obtain ⟨rfl, rfl⟩ := am_inj2 H
        exact ex.nd ⟨rfl, rfl⟩
      · rw [if_neg c84] at H
        refine ex.f c84 ?_
        obtain ⟨js85, E93, H⟩ := am_bd H
        refine ex.j1 (Q := fun p => js85 = p) ?_ (fun z94 hq => ?_)
        · clear H
          have H := E93
          clear E93
          by_cases c86 : ((8 : Int32)) ≤ (v2 - v4)
          · rw [if_pos c86] at H
            refine ex.t c86 ?_
            obtain rfl := Option.some.inj H
            exact ex.nd rfl
          · rw [if_neg c86] at H
            refine ex.f c86 ?_
            refine ex.bd (r_gR hR_t lk9 rfl) ?_
            obtain ⟨x88, e89, H⟩ := am_bd H
            refine ex.bd (r_aI hR_t (la9_1 (a := 218) (by decide)) e89) ?_
            obtain ⟨x91, e90, H⟩ := am_bd H
            refine ex.j1 (sX10_rank hR_t  e90) (fun z92 hz => ?_)
            obtain rfl : x91 = z92 := hz
            obtain rfl := Option.some.inj H
            exact ex.nd rfl
        · clear E93
          obtain rfl : js85 = z94 := hq
          exact ih _ _ _ _ _ _ _ _ hR_t  H
set_option maxHeartbeats 4000000 in
set_option maxRecDepth 100000 in
theorem sX10_cutAll_L17 : ∀ (n : Nat) (v1 : Int32) (v2 : Int32) (h : am_H) (t : tS) (w1 : Int32) (t1 : tS), Rp h t → tX10_cutAll_L17 n v1 v2 t = some (w1, t1) → ex (fX10_cutAll_L17 n 218 v1 v2 h) (fun p => w1 = p.1 ∧ Rp p.2 t1) := by
  intro n
  induction n with
  | zero => intro _ _ _ _ _ _ _ H; cases H
  | succ n ih =>
    intro v1 v2 h t w1 t1 hR_t H
    rw [tX10_cutAll_L17] at H
    rw [fX10_cutAll_L17]
    refine ex.bd (r_gI hR_t lk9 rfl) ?_
    by_cases c11 : (t.1 218 3) ≤ v2
    · rw [if_pos c11] at H
      refine ex.t c11 ?_
      obtain ⟨rfl, rfl⟩ := am_inj2 H
      exact ex.nd ⟨rfl, hR_t⟩
    · rw [if_neg c11] at H
      refine ex.f c11 ?_
      refine ex.bd (r_gR hR_t lk9 rfl) ?_
      obtain ⟨x13, e14, H⟩ := am_bd H
      refine ex.bd (r_aI hR_t (la9_1 (a := 218) (by decide)) e14) ?_
      by_cases c15 : x13 = ((10 : Int32))
      · rw [if_pos c15] at H
        refine ex.t c15 ?_
        exact ih _ _ _ _ _ _ hR_t  H
      · rw [if_neg c15] at H
        refine ex.f c15 ?_
        by_cases c16 : ¬ x13 = ((32 : Int32))
        · rw [if_pos c16] at H
          refine ex.t c16 ?_
          refine ex.bd (r_gR hR_t lk9 rfl) ?_
          obtain ⟨tt19, e20, H⟩ := am_bd H
          obtain ⟨hh18, e21, hR_tt19⟩ := r_sI hR_t (la9_5 (a := 218) (by decide)) e20
          refine ex.bd e21 ?_
          obtain ⟨x23, e22, H⟩ := am_bd H
          refine ex.j1 (sX10_isLetter hR_tt19  e22) (fun z24 hz => ?_)
          obtain rfl : x23 = z24 := hz
          obtain ⟨jv25, jv26, tt28, E114, H⟩ := am_bd3 H
          refine ex.j3 (Q := fun p => jv25 = p.1 ∧ jv26 = p.2.1 ∧ Rp p.2.2 tt28) ?_ (fun z115 z116 hh27 hq => ?_)
          · clear H
            have H := E114
            clear E114
            by_cases c29 : x23 = 0
            · rw [if_pos c29] at H
              refine ex.t c29 ?_
              obtain ⟨x31, e30, H⟩ := am_bd H
              refine ex.j1 (sX10_isDigit hR_tt19  e30) (fun z32 hz => ?_)
              obtain rfl : x31 = z32 := hz
              by_cases c33 : x31 = 0
              · rw [if_pos c33] at H
                refine ex.t c33 ?_
                refine ex.bd (r_gR hR_tt19 lk9 rfl) ?_
                obtain ⟨x36, e35, H⟩ := am_bd H
                refine ex.j1 (sX10_isSignOf hR_tt19  e35) (fun z37 hz => ?_)
                obtain rfl : x36 = z37 := hz
                obtain ⟨js38, E44, H⟩ := am_bd H
                refine ex.j1 (Q := fun p => js38 = p) ?_ (fun z45 hq => ?_)
                · clear H
                  have H := E44
                  clear E44
                  by_cases c39 : x36 = 0
                  · rw [if_pos c39] at H
                    refine ex.t c39 ?_
                    obtain rfl := Option.some.inj H
                    exact ex.nd rfl
                  · rw [if_neg c39] at H
                    refine ex.f c39 ?_
                    obtain rfl := Option.some.inj H
                    exact ex.nd rfl
                · clear E44
                  obtain rfl : js38 = z45 := hq
                  obtain ⟨tt41, e42, H⟩ := am_bd H
                  obtain ⟨hh40, e43, hR_tt41⟩ := r_sI hR_tt19 (la9_4 (a := 218) (by decide)) e42
                  refine ex.bd e43 ?_
                  obtain ⟨rfl, rfl, rfl⟩ := am_inj3 H
                  exact ex.nd ⟨rfl, rfl, hR_tt41⟩
              · rw [if_neg c33] at H
                refine ex.f c33 ?_
                obtain ⟨lw62, lw63, E66, H⟩ := am_bd2 H
                refine ex.j2 (sX10_cutAll_L159 _ _ _ _ _ _ _ _ _ hR_tt19  E66) (fun z64 z65 hq => ?_)
                clear E66
                obtain ⟨rfl, rfl⟩ : lw62 = z64 ∧ lw63 = z65 := hq
                refine ex.bd (r_gR hR_tt19 lk9 rfl) ?_
                obtain ⟨js68, E74, H⟩ := am_bd H
                refine ex.j1 (Q := fun p => js68 = p) ?_ (fun z75 hq => ?_)
                · clear H
                  have H := E74
                  clear E74
                  by_cases c69 : (lw62 - v2) ≤ ((4 : Int32))
                  · rw [if_pos c69] at H
                    refine ex.t c69 ?_
                    obtain rfl := Option.some.inj H
                    exact ex.nd rfl
                  · rw [if_neg c69] at H
                    refine ex.f c69 ?_
                    obtain rfl := Option.some.inj H
                    exact ex.nd rfl
                · clear E74
                  obtain rfl : js68 = z75 := hq
                  obtain ⟨tt71, e72, H⟩ := am_bd H
                  obtain ⟨hh70, e73, hR_tt71⟩ := r_sI hR_tt19 (la9_4 (a := 218) (by decide)) e72
                  refine ex.bd e73 ?_
                  obtain ⟨rfl, rfl, rfl⟩ := am_inj3 H
                  exact ex.nd ⟨rfl, rfl, hR_tt71⟩
            · rw [if_neg c29] at H
              refine ex.f c29 ?_
              obtain ⟨lw95, lw96, E99, H⟩ := am_bd2 H
              refine ex.j2 (sX10_cutAll_L70 _ _ _ _ _ _ _ _ _ hR_tt19  E99) (fun z97 z98 hq => ?_)
              clear E99
              obtain ⟨rfl, rfl⟩ : lw95 = z97 ∧ lw96 = z98 := hq
              refine ex.bd (r_gR hR_tt19 lk9 rfl) ?_
              obtain ⟨js101, E107, H⟩ := am_bd H
              refine ex.j1 (Q := fun p => js101 = p) ?_ (fun z108 hq => ?_)
              · clear H
                have H := E107
                clear E107
                by_cases c102 : (lw95 - v2) ≤ ((8 : Int32))
                · rw [if_pos c102] at H
                  refine ex.t c102 ?_
                  obtain rfl := Option.some.inj H
                  exact ex.nd rfl
                · rw [if_neg c102] at H
                  refine ex.f c102 ?_
                  obtain rfl := Option.some.inj H
                  exact ex.nd rfl
              · clear E107
                obtain rfl : js101 = z108 := hq
                obtain ⟨tt104, e105, H⟩ := am_bd H
                obtain ⟨hh103, e106, hR_tt104⟩ := r_sI hR_tt19 (la9_4 (a := 218) (by decide)) e105
                refine ex.bd e106 ?_
                obtain ⟨rfl, rfl, rfl⟩ := am_inj3 H
                exact ex.nd ⟨rfl, rfl, hR_tt104⟩
          · clear E114
            obtain ⟨rfl, rfl, hR_tt28⟩ : jv25 = z115 ∧ jv26 = z116 ∧ Rp hh27 tt28 := hq
            refine ex.bd (r_gR hR_tt28 lk9 rfl) ?_
            obtain ⟨tt111, e112, H⟩ := am_bd H
            obtain ⟨hh110, e113, hR_tt111⟩ := r_sL hR_tt28 (la9_6 (a := 218) (by decide)) e112
            refine ex.bd e113 ?_
            exact ih _ _ _ _ _ _ hR_tt111  H
        · rw [if_neg c16] at H
          refine ex.f c16 ?_
          exact ih _ _ _ _ _ _ hR_t  H
set_option maxHeartbeats 4000000 in
set_option maxRecDepth 100000 in
theorem sX10_cutAll  {h : am_H} {t : tS} {t1 : tS} (hR_t : Rp h t)  (H : tX10_cutAll  t = some t1) : ex (fX10_cutAll 218 h) (fun h1 => Rp h1 t1) := by
  unfold tX10_cutAll at H
  unfold fX10_cutAll
  refine ex.bd (r_isO hR_t lk9) ?_
  refine ex.bd (r_gI hR_t lk9 rfl) ?_
  obtain ⟨tt3, et4, H⟩ := am_bd H
  obtain ⟨hh2, e5, hR_tt3⟩ := r_pI (k := 3) (x := t.1 218 2) hR_t lk9 rfl rfl
  rw [Option.some.inj et4] at hR_tt3
  refine ex.bd e5 ?_
  obtain ⟨tt7, et8, H⟩ := am_bd H
  obtain ⟨hh6, e9, hR_tt7⟩ := r_pI (k := 2) (x := (0 : Int32)) hR_tt3 lk9 rfl rfl
  rw [Option.some.inj et8] at hR_tt7
  refine ex.bd e9 ?_
  obtain ⟨lw117, tt119, E121, H⟩ := am_bd2 H
  refine ex.j2 (sX10_cutAll_L17 _ _ _ _ _ _ _ hR_tt7  E121) (fun z120 hh118 hq => ?_)
  clear E121
  obtain ⟨rfl, hR_tt119⟩ : lw117 = z120 ∧ Rp hh118 tt119 := hq
  refine ex.bd (r_gR hR_tt119 lk9 rfl) ?_
  obtain ⟨tt124, e125, H⟩ := am_bd H
  obtain ⟨hh123, e126, hR_tt124⟩ := r_sI hR_tt119 (la9_4 (a := 218) (by decide)) e125
  refine ex.bd e126 ?_
  refine ex.bd (r_gR hR_tt124 lk9 rfl) ?_
  refine ex.bd (r_gI hR_tt124 lk9 rfl) ?_
  obtain ⟨tt130, e131, H⟩ := am_bd H
  obtain ⟨hh129, e132, hR_tt130⟩ := r_sI hR_tt124 (la9_5 (a := 218) (by decide)) e131
  refine ex.bd e132 ?_
  obtain ⟨tt134, et135, H⟩ := am_bd H
  obtain ⟨hh133, e136, hR_tt134⟩ := r_pI (k := 7) (x := (0 : Int32)) hR_tt130 lk9 rfl rfl
  rw [Option.some.inj et135] at hR_tt134
  refine ex.bd e136 ?_
  obtain ⟨tt138, et139, H⟩ := am_bd H
  obtain ⟨hh137, e140, hR_tt138⟩ := r_pI (k := 8) (x := (0 : Int32)) hR_tt134 lk9 rfl rfl
  rw [Option.some.inj et139] at hR_tt138
  refine ex.bd e140 ?_
  obtain rfl := Option.some.inj H
  exact ex.nd hR_tt138
def tX10_wrong (a1 : Int32) (t : tS) : Option (tS) :=
  Option.bind (
    if ¬ (t.1 218 8) = 0 then
      some t
    else
      (tA t 221 1002 (t.1 218 7)).bind fun x7 =>
      (some (uI t 218 8 (a1 + (((16 : Int32)) * x7)))).bind fun tt10 =>
      some tt10) fun tt3 =>
  some tt3
set_option maxHeartbeats 4000000 in
set_option maxRecDepth 100000 in
theorem sX10_wrong {a1 : Int32} {h : am_H} {t : tS} {t1 : tS} (hR_t : Rp h t)  (H : tX10_wrong a1 t = some t1) : ex (fX10_wrong 218 a1 h) (fun h1 => Rp h1 t1) := by
  unfold tX10_wrong at H
  unfold fX10_wrong
  refine ex.bd (r_isO hR_t lk9) ?_
  refine ex.bd (r_gI hR_t lk9 rfl) ?_
  obtain ⟨tt3, E13, H⟩ := am_bd H
  refine ex.j1 (Q := fun p => Rp p tt3) ?_ (fun hh2 hq => ?_)
  · clear H
    have H := E13
    clear E13
    by_cases c4 : ¬ (t.1 218 8) = 0
    · rw [if_pos c4] at H
      refine ex.t c4 ?_
      obtain rfl := Option.some.inj H
      exact ex.nd hR_t
    · rw [if_neg c4] at H
      refine ex.f c4 ?_
      refine ex.bd (r_gR hR_t lk9 rfl) ?_
      refine ex.bd (r_gI hR_t lk9 rfl) ?_
      obtain ⟨x7, e8, H⟩ := am_bd H
      refine ex.bd (r_aI hR_t (la9_5 (a := 218) (by decide)) e8) ?_
      obtain ⟨tt10, et11, H⟩ := am_bd H
      obtain ⟨hh9, e12, hR_tt10⟩ := r_pI (k := 8) (x := a1 + (((16 : Int32)) * x7)) hR_t lk9 rfl rfl
      rw [Option.some.inj et11] at hR_tt10
      refine ex.bd e12 ?_
      obtain rfl := Option.some.inj H
      exact ex.nd hR_tt10
  · clear E13
    have hR_tt3 : Rp hh2 tt3 := hq
    obtain rfl := Option.some.inj H
    exact ex.nd hR_tt3
def tX10_isSign (a1 : Int32) (t : tS) : Option (Int32) :=
  Option.bind (
    if ¬ (t.1 218 8) = 0 then
      some ((0 : Int32))
    else
      (tA t 220 1002 (t.1 218 7)).bind fun x6 =>
      if ¬ x6 = ((3 : Int32)) then
        some ((0 : Int32))
      else
        (tB t 222 1002 (t.1 218 7)).bind fun x11 =>
        if ¬ (lg_cmp x11 a1.toInt64) = 0 then
          some ((0 : Int32))
        else
          some ((1 : Int32))) fun js2 =>
  (am_z01 js2).bind fun b14 =>
  some b14
set_option maxHeartbeats 4000000 in
set_option maxRecDepth 100000 in
theorem sX10_isSign {a1 : Int32} {h : am_H} {t : tS} {r : Int32} (hR_t : Rp h t)  (H : tX10_isSign a1 t = some r) : ex (fX10_isSign 218 a1 h) (fun x => r = x) := by
  unfold tX10_isSign at H
  unfold fX10_isSign
  refine ex.bd (r_isO hR_t lk9) ?_
  refine ex.bd (r_gI hR_t lk9 rfl) ?_
  obtain ⟨js2, E16, H⟩ := am_bd H
  refine ex.j1 (Q := fun p => js2 = p) ?_ (fun z17 hq => ?_)
  · clear H
    have H := E16
    clear E16
    by_cases c3 : ¬ (t.1 218 8) = 0
    · rw [if_pos c3] at H
      refine ex.t c3 ?_
      obtain rfl := Option.some.inj H
      exact ex.nd rfl
    · rw [if_neg c3] at H
      refine ex.f c3 ?_
      refine ex.bd (r_gR hR_t lk9 rfl) ?_
      refine ex.bd (r_gI hR_t lk9 rfl) ?_
      obtain ⟨x6, e7, H⟩ := am_bd H
      refine ex.bd (r_aI hR_t (la9_4 (a := 218) (by decide)) e7) ?_
      by_cases c8 : ¬ x6 = ((3 : Int32))
      · rw [if_pos c8] at H
        refine ex.t c8 ?_
        obtain rfl := Option.some.inj H
        exact ex.nd rfl
      · rw [if_neg c8] at H
        refine ex.f c8 ?_
        refine ex.bd (r_gR hR_t lk9 rfl) ?_
        refine ex.bd (r_gI hR_t lk9 rfl) ?_
        obtain ⟨x11, e12, H⟩ := am_bd H
        refine ex.bd (r_aL hR_t (la9_6 (a := 218) (by decide)) e12) ?_
        by_cases c13 : ¬ (lg_cmp x11 a1.toInt64) = 0
        · rw [if_pos c13] at H
          refine ex.t c13 ?_
          obtain rfl := Option.some.inj H
          exact ex.nd rfl
        · rw [if_neg c13] at H
          refine ex.f c13 ?_
          obtain rfl := Option.some.inj H
          exact ex.nd rfl
  · clear E16
    obtain rfl : js2 = z17 := hq
    obtain ⟨b14, e15, H⟩ := am_bd H
    refine ex.bd e15 ?_
    obtain rfl := Option.some.inj H
    exact ex.nd rfl
def tX10_isWord (a1 : Int32) (t : tS) : Option (Int32) :=
  Option.bind (
    if ¬ (t.1 218 8) = 0 then
      some ((0 : Int32))
    else
      (tA t 220 1002 (t.1 218 7)).bind fun x6 =>
      if ¬ x6 = ((1 : Int32)) then
        some ((0 : Int32))
      else
        (tB t 222 1002 (t.1 218 7)).bind fun x11 =>
        (tB t 223 25 a1).bind fun x14 =>
        if ¬ (lg_cmp x11 x14) = 0 then
          some ((0 : Int32))
        else
          some ((1 : Int32))) fun js2 =>
  (am_z01 js2).bind fun b17 =>
  some b17
set_option maxHeartbeats 4000000 in
set_option maxRecDepth 100000 in
theorem sX10_isWord {a1 : Int32} {h : am_H} {t : tS} {r : Int32} (hR_t : Rp h t)  (H : tX10_isWord a1 t = some r) : ex (fX10_isWord 218 a1 h) (fun x => r = x) := by
  unfold tX10_isWord at H
  unfold fX10_isWord
  refine ex.bd (r_isO hR_t lk9) ?_
  refine ex.bd (r_gI hR_t lk9 rfl) ?_
  obtain ⟨js2, E19, H⟩ := am_bd H
  refine ex.j1 (Q := fun p => js2 = p) ?_ (fun z20 hq => ?_)
  · clear H
    have H := E19
    clear E19
    by_cases c3 : ¬ (t.1 218 8) = 0
    · rw [if_pos c3] at H
      refine ex.t c3 ?_
      obtain rfl := Option.some.inj H
      exact ex.nd rfl
    · rw [if_neg c3] at H
      refine ex.f c3 ?_
      refine ex.bd (r_gR hR_t lk9 rfl) ?_
      refine ex.bd (r_gI hR_t lk9 rfl) ?_
      obtain ⟨x6, e7, H⟩ := am_bd H
      refine ex.bd (r_aI hR_t (la9_4 (a := 218) (by decide)) e7) ?_
      by_cases c8 : ¬ x6 = ((1 : Int32))
      · rw [if_pos c8] at H
        refine ex.t c8 ?_
        obtain rfl := Option.some.inj H
        exact ex.nd rfl
      · rw [if_neg c8] at H
        refine ex.f c8 ?_
        refine ex.bd (r_gR hR_t lk9 rfl) ?_
        refine ex.bd (r_gI hR_t lk9 rfl) ?_
        obtain ⟨x11, e12, H⟩ := am_bd H
        refine ex.bd (r_aL hR_t (la9_6 (a := 218) (by decide)) e12) ?_
        refine ex.bd (r_gR hR_t lk9 rfl) ?_
        obtain ⟨x14, e15, H⟩ := am_bd H
        refine ex.bd (r_aL hR_t (la9_9 (a := 218) (by decide)) e15) ?_
        by_cases c16 : ¬ (lg_cmp x11 x14) = 0
        · rw [if_pos c16] at H
          refine ex.t c16 ?_
          obtain rfl := Option.some.inj H
          exact ex.nd rfl
        · rw [if_neg c16] at H
          refine ex.f c16 ?_
          obtain rfl := Option.some.inj H
          exact ex.nd rfl
  · clear E19
    obtain rfl : js2 = z20 := hq
    obtain ⟨b17, e18, H⟩ := am_bd H
    refine ex.bd e18 ?_
    obtain rfl := Option.some.inj H
    exact ex.nd rfl
def tX10_takeSign (a1 : Int32) (t : tS) : Option (tS) :=
  (tX10_isSign a1 t).bind fun x2 =>
  Option.bind (
    if x2 = 0 then
      (tX10_wrong ((1 : Int32)) t).bind fun tt9 =>
      some tt9
    else
      (some (uI t 218 7 ((t.1 218 7) + ((1 : Int32))))).bind fun tt12 =>
      some tt12) fun tt5 =>
  some tt5
set_option maxHeartbeats 4000000 in
set_option maxRecDepth 100000 in
theorem sX10_takeSign {a1 : Int32} {h : am_H} {t : tS} {t1 : tS} (hR_t : Rp h t)  (H : tX10_takeSign a1 t = some t1) : ex (fX10_takeSign 218 a1 h) (fun h1 => Rp h1 t1) := by
  unfold tX10_takeSign at H
  unfold fX10_takeSign
  refine ex.bd (r_isO hR_t lk9) ?_
  obtain ⟨x2, e1, H⟩ := am_bd H
  refine ex.j1 (sX10_isSign hR_t  e1) (fun z3 hz => ?_)
  obtain rfl : x2 = z3 := hz
  obtain ⟨tt5, E15, H⟩ := am_bd H
  refine ex.j1 (Q := fun p => Rp p tt5) ?_ (fun hh4 hq => ?_)
  · clear H
    have H := E15
    clear E15
    by_cases c6 : x2 = 0
    · rw [if_pos c6] at H
      refine ex.t c6 ?_
      obtain ⟨tt9, e7, H⟩ := am_bd H
      refine ex.j1 (sX10_wrong hR_t  e7) (fun hh8 hR_tt9 => ?_)
      obtain rfl := Option.some.inj H
      exact ex.nd hR_tt9
    · rw [if_neg c6] at H
      refine ex.f c6 ?_
      refine ex.bd (r_gI hR_t lk9 rfl) ?_
      obtain ⟨tt12, et13, H⟩ := am_bd H
      obtain ⟨hh11, e14, hR_tt12⟩ := r_pI (k := 7) (x := (t.1 218 7) + ((1 : Int32))) hR_t lk9 rfl rfl
      rw [Option.some.inj et13] at hR_tt12
      refine ex.bd e14 ?_
      obtain rfl := Option.some.inj H
      exact ex.nd hR_tt12
  · clear E15
    have hR_tt5 : Rp hh4 tt5 := hq
    obtain rfl := Option.some.inj H
    exact ex.nd hR_tt5
def tX10_hasSign (a1 : Int32) (t : tS) : Option (Int32 × tS) :=
  (tX10_isSign a1 t).bind fun x2 =>
  Option.bind (
    if x2 = 0 then
      some ((0 : Int32))
    else
      some ((1 : Int32))) fun js5 =>
  (some (uI t 218 7 ((t.1 218 7) + js5))).bind fun tt8 =>
  (am_z01 x2).bind fun b11 =>
  some (b11, tt8)
set_option maxHeartbeats 4000000 in
set_option maxRecDepth 100000 in
theorem sX10_hasSign {a1 : Int32} {h : am_H} {t : tS} {r : Int32} {t1 : tS} (hR_t : Rp h t)  (H : tX10_hasSign a1 t = some (r, t1)) : ex (fX10_hasSign 218 a1 h) (fun p => r = p.1 ∧ Rp p.2 t1) := by
  unfold tX10_hasSign at H
  unfold fX10_hasSign
  refine ex.bd (r_isO hR_t lk9) ?_
  obtain ⟨x2, e1, H⟩ := am_bd H
  refine ex.j1 (sX10_isSign hR_t  e1) (fun z3 hz => ?_)
  obtain rfl : x2 = z3 := hz
  refine ex.bd (r_gI hR_t lk9 rfl) ?_
  obtain ⟨js5, E13, H⟩ := am_bd H
  refine ex.j1 (Q := fun p => js5 = p) ?_ (fun z14 hq => ?_)
  · clear H
    have H := E13
    clear E13
    by_cases c6 : x2 = 0
    · rw [if_pos c6] at H
      refine ex.t c6 ?_
      obtain rfl := Option.some.inj H
      exact ex.nd rfl
    · rw [if_neg c6] at H
      refine ex.f c6 ?_
      obtain rfl := Option.some.inj H
      exact ex.nd rfl
  · clear E13
    obtain rfl : js5 = z14 := hq
    obtain ⟨tt8, et9, H⟩ := am_bd H
    obtain ⟨hh7, e10, hR_tt8⟩ := r_pI (k := 7) (x := (t.1 218 7) + js5) hR_t lk9 rfl rfl
    rw [Option.some.inj et9] at hR_tt8
    refine ex.bd e10 ?_
    obtain ⟨b11, e12, H⟩ := am_bd H
    refine ex.bd e12 ?_
    obtain ⟨rfl, rfl⟩ := am_inj2 H
    exact ex.nd ⟨rfl, hR_tt8⟩
def tX10_hasWord (a1 : Int32) (t : tS) : Option (Int32 × tS) :=
  (tX10_isWord a1 t).bind fun x2 =>
  Option.bind (
    if x2 = 0 then
      some ((0 : Int32))
    else
      some ((1 : Int32))) fun js5 =>
  (some (uI t 218 7 ((t.1 218 7) + js5))).bind fun tt8 =>
  (am_z01 x2).bind fun b11 =>
  some (b11, tt8)
set_option maxHeartbeats 4000000 in
set_option maxRecDepth 100000 in
theorem sX10_hasWord {a1 : Int32} {h : am_H} {t : tS} {r : Int32} {t1 : tS} (hR_t : Rp h t)  (H : tX10_hasWord a1 t = some (r, t1)) : ex (fX10_hasWord 218 a1 h) (fun p => r = p.1 ∧ Rp p.2 t1) := by
  unfold tX10_hasWord at H
  unfold fX10_hasWord
  refine ex.bd (r_isO hR_t lk9) ?_
  obtain ⟨x2, e1, H⟩ := am_bd H
  refine ex.j1 (sX10_isWord hR_t  e1) (fun z3 hz => ?_)
  obtain rfl : x2 = z3 := hz
  refine ex.bd (r_gI hR_t lk9 rfl) ?_
  obtain ⟨js5, E13, H⟩ := am_bd H
  refine ex.j1 (Q := fun p => js5 = p) ?_ (fun z14 hq => ?_)
  · clear H
    have H := E13
    clear E13
    by_cases c6 : x2 = 0
    · rw [if_pos c6] at H
      refine ex.t c6 ?_
      obtain rfl := Option.some.inj H
      exact ex.nd rfl
    · rw [if_neg c6] at H
      refine ex.f c6 ?_
      obtain rfl := Option.some.inj H
      exact ex.nd rfl
  · clear E13
    obtain rfl : js5 = z14 := hq
    obtain ⟨tt8, et9, H⟩ := am_bd H
    obtain ⟨hh7, e10, hR_tt8⟩ := r_pI (k := 7) (x := (t.1 218 7) + js5) hR_t lk9 rfl rfl
    rw [Option.some.inj et9] at hR_tt8
    refine ex.bd e10 ?_
    obtain ⟨b11, e12, H⟩ := am_bd H
    refine ex.bd e12 ?_
    obtain ⟨rfl, rfl⟩ := am_inj2 H
    exact ex.nd ⟨rfl, hR_tt8⟩
def tX10_takeWord (a1 : Int32) (t : tS) : Option (tS) :=
  am_b2 (tX10_hasWord a1 t) fun x2 tt4 =>
  Option.bind (
    if ¬ x2 = 0 then
      some tt4
    else
      (tX10_wrong ((1 : Int32)) tt4).bind fun tt11 =>
      some tt11) fun tt7 =>
  some tt7
set_option maxHeartbeats 4000000 in
set_option maxRecDepth 100000 in
theorem sX10_takeWord {a1 : Int32} {h : am_H} {t : tS} {t1 : tS} (hR_t : Rp h t)  (H : tX10_takeWord a1 t = some t1) : ex (fX10_takeWord 218 a1 h) (fun h1 => Rp h1 t1) := by
  unfold tX10_takeWord at H
  unfold fX10_takeWord
  refine ex.bd (r_isO hR_t lk9) ?_
  obtain ⟨x2, tt4, e1, H⟩ := am_bd2 H
  refine ex.j2 (sX10_hasWord hR_t  e1) (fun z5 hh3 hz => ?_)
  obtain ⟨rfl, hR_tt4⟩ : x2 = z5 ∧ Rp hh3 tt4 := hz
  obtain ⟨tt7, E12, H⟩ := am_bd H
  refine ex.j1 (Q := fun p => Rp p tt7) ?_ (fun hh6 hq => ?_)
  · clear H
    have H := E12
    clear E12
    by_cases c8 : ¬ x2 = 0
    · rw [if_pos c8] at H
      refine ex.t c8 ?_
      obtain rfl := Option.some.inj H
      exact ex.nd hR_tt4
    · rw [if_neg c8] at H
      refine ex.f c8 ?_
      obtain ⟨tt11, e9, H⟩ := am_bd H
      refine ex.j1 (sX10_wrong hR_tt4  e9) (fun hh10 hR_tt11 => ?_)
      obtain rfl := Option.some.inj H
      exact ex.nd hR_tt11
  · clear E12
    have hR_tt7 : Rp hh6 tt7 := hq
    obtain rfl := Option.some.inj H
    exact ex.nd hR_tt7
def tX10_within (a0 : Int32) (a1 : Int32) (a2 : Int32) (t : tS) : Option (Int32) :=
  Option.bind (
    if a0 < a1 then
      some ((0 : Int32))
    else
      if a2 < a0 then
        some ((0 : Int32))
      else
        some ((1 : Int32))) fun js1 =>
  (am_z01 js1).bind fun b4 =>
  some b4
set_option maxHeartbeats 4000000 in
set_option maxRecDepth 100000 in
theorem sX10_within {a0 : Int32} {a1 : Int32} {a2 : Int32} {h : am_H} {t : tS} {r : Int32} (hR_t : Rp h t)  (H : tX10_within a0 a1 a2 t = some r) : ex (fX10_within a0 a1 a2 h) (fun x => r = x) := by
  unfold tX10_within at H
  unfold fX10_within
  obtain ⟨js1, E6, H⟩ := am_bd H
  refine ex.j1 (Q := fun p => js1 = p) ?_ (fun z7 hq => ?_)
  · clear H
    have H := E6
    clear E6
    by_cases c2 : a0 < a1
    · rw [if_pos c2] at H
      refine ex.t c2 ?_
      obtain rfl := Option.some.inj H
      exact ex.nd rfl
    · rw [if_neg c2] at H
      refine ex.f c2 ?_
      by_cases c3 : a2 < a0
      · rw [if_pos c3] at H
        refine ex.t c3 ?_
        obtain rfl := Option.some.inj H
        exact ex.nd rfl
      · rw [if_neg c3] at H
        refine ex.f c3 ?_
        obtain rfl := Option.some.inj H
        exact ex.nd rfl
  · clear E6
    obtain rfl : js1 = z7 := hq
    obtain ⟨b4, e5, H⟩ := am_bd H
    refine ex.bd e5 ?_
    obtain rfl := Option.some.inj H
    exact ex.nd rfl
def tX10_takeNumber (a1 : Int32) (a2 : Int32) (t : tS) : Option (Int32 × tS) :=
  Option.bind (
    if ¬ (t.1 218 8) = 0 then
      if ¬ (t.1 218 8) = 0 then
        some t
      else
        (tB t 222 1002 (t.1 218 7)).bind fun x9 =>
        if (lg_cmp x9 a1.toInt64) < 0 then
          (tX10_wrong ((4 : Int32)) t).bind fun tt14 =>
          some tt14
        else
          (tB t 222 1002 (t.1 218 7)).bind fun x17 =>
          if (lg_cmp x17 a2.toInt64) ≤ 0 then
            some t
          else
            (tX10_wrong ((4 : Int32)) t).bind fun tt22 =>
            some tt22
    else
      (tA t 220 1002 (t.1 218 7)).bind fun x25 =>
      if x25 = ((2 : Int32)) then
        if ¬ (t.1 218 8) = 0 then
          some t
        else
          (tB t 222 1002 (t.1 218 7)).bind fun x32 =>
          if (lg_cmp x32 a1.toInt64) < 0 then
            (tX10_wrong ((4 : Int32)) t).bind fun tt37 =>
            some tt37
          else
            (tB t 222 1002 (t.1 218 7)).bind fun x40 =>
            if (lg_cmp x40 a2.toInt64) ≤ 0 then
              some t
            else
              (tX10_wrong ((4 : Int32)) t).bind fun tt45 =>
              some tt45
      else
        (tX10_wrong ((1 : Int32)) t).bind fun tt48 =>
        some tt48) fun tt3 =>
  if (tt3.1 218 8) ≤ 0 then
    (some (uI tt3 218 7 ((tt3.1 218 7) + ((1 : Int32))))).bind fun tt53 =>
    (tB tt53 222 1002 ((tt53.1 218 7) - ((1 : Int32)))).bind fun x58 =>
    some (x58.toInt32, tt53)
  else
    some ((0 : Int32), tt3)
set_option maxHeartbeats 4000000 in
set_option maxRecDepth 100000 in
theorem sX10_takeNumber {a1 : Int32} {a2 : Int32} {h : am_H} {t : tS} {r : Int32} {t1 : tS} (hR_t : Rp h t)  (H : tX10_takeNumber a1 a2 t = some (r, t1)) : ex (fX10_takeNumber 218 a1 a2 h) (fun p => r = p.1 ∧ Rp p.2 t1) := by
  unfold tX10_takeNumber at H
  unfold fX10_takeNumber
  refine ex.bd (r_isO hR_t lk9) ?_
  refine ex.bd (r_gI hR_t lk9 rfl) ?_
  obtain ⟨tt3, E60, H⟩ := am_bd H
  refine ex.j1 (Q := fun p => Rp p tt3) ?_ (fun hh2 hq => ?_)
  · clear H
    have H := E60
    clear E60
    by_cases c4 : ¬ (t.1 218 8) = 0
    · rw [if_pos c4] at H
      refine ex.t c4 ?_
      refine ex.bd (r_gI hR_t lk9 rfl) ?_
      by_cases c6 : ¬ (t.1 218 8) = 0
      · rw [if_pos c6] at H
        refine ex.t c6 ?_
        obtain rfl := Option.some.inj H
        exact ex.nd hR_t
      · rw [if_neg c6] at H
        refine ex.f c6 ?_
        refine ex.bd (r_gR hR_t lk9 rfl) ?_
        refine ex.bd (r_gI hR_t lk9 rfl) ?_
        obtain ⟨x9, e10, H⟩ := am_bd H
        refine ex.bd (r_aL hR_t (la9_6 (a := 218) (by decide)) e10) ?_
        by_cases c11 : (lg_cmp x9 a1.toInt64) < 0
        · rw [if_pos c11] at H
          refine ex.t c11 ?_
          obtain ⟨tt14, e12, H⟩ := am_bd H
          refine ex.j1 (sX10_wrong hR_t  e12) (fun hh13 hR_tt14 => ?_)
          obtain rfl := Option.some.inj H
          exact ex.nd hR_tt14
        · rw [if_neg c11] at H
          refine ex.f c11 ?_
          refine ex.bd (r_gR hR_t lk9 rfl) ?_
          refine ex.bd (r_gI hR_t lk9 rfl) ?_
          obtain ⟨x17, e18, H⟩ := am_bd H
          refine ex.bd (r_aL hR_t (la9_6 (a := 218) (by decide)) e18) ?_
          by_cases c19 : (lg_cmp x17 a2.toInt64) ≤ 0
          · rw [if_pos c19] at H
            refine ex.t c19 ?_
            obtain rfl := Option.some.inj H
            exact ex.nd hR_t
          · rw [if_neg c19] at H
            refine ex.f c19 ?_
            obtain ⟨tt22, e20, H⟩ := am_bd H
            refine ex.j1 (sX10_wrong hR_t  e20) (fun hh21 hR_tt22 => ?_)
            obtain rfl := Option.some.inj H
            exact ex.nd hR_tt22
    · rw [if_neg c4] at H
      refine ex.f c4 ?_
      refine ex.bd (r_gR hR_t lk9 rfl) ?_
      refine ex.bd (r_gI hR_t lk9 rfl) ?_
      obtain ⟨x25, e26, H⟩ := am_bd H
      refine ex.bd (r_aI hR_t (la9_4 (a := 218) (by decide)) e26) ?_
      by_cases c27 : x25 = ((2 : Int32))
      · rw [if_pos c27] at H
        refine ex.t c27 ?_
        refine ex.bd (r_gI hR_t lk9 rfl) ?_
        by_cases c29 : ¬ (t.1 218 8) = 0
        · rw [if_pos c29] at H
          refine ex.t c29 ?_
          obtain rfl := Option.some.inj H
          exact ex.nd hR_t
        · rw [if_neg c29] at H
          refine ex.f c29 ?_
          refine ex.bd (r_gR hR_t lk9 rfl) ?_
          refine ex.bd (r_gI hR_t lk9 rfl) ?_
          obtain ⟨x32, e33, H⟩ := am_bd H
          refine ex.bd (r_aL hR_t (la9_6 (a := 218) (by decide)) e33) ?_
          by_cases c34 : (lg_cmp x32 a1.toInt64) < 0
          · rw [if_pos c34] at H
            refine ex.t c34 ?_
            obtain ⟨tt37, e35, H⟩ := am_bd H
            refine ex.j1 (sX10_wrong hR_t  e35) (fun hh36 hR_tt37 => ?_)
            obtain rfl := Option.some.inj H
            exact ex.nd hR_tt37
          · rw [if_neg c34] at H
            refine ex.f c34 ?_
            refine ex.bd (r_gR hR_t lk9 rfl) ?_
            refine ex.bd (r_gI hR_t lk9 rfl) ?_
            obtain ⟨x40, e41, H⟩ := am_bd H
            refine ex.bd (r_aL hR_t (la9_6 (a := 218) (by decide)) e41) ?_
            by_cases c42 : (lg_cmp x40 a2.toInt64) ≤ 0
            · rw [if_pos c42] at H
              refine ex.t c42 ?_
              obtain rfl := Option.some.inj H
              exact ex.nd hR_t
            · rw [if_neg c42] at H
              refine ex.f c42 ?_
              obtain ⟨tt45, e43, H⟩ := am_bd H
              refine ex.j1 (sX10_wrong hR_t  e43) (fun hh44 hR_tt45 => ?_)
              obtain rfl := Option.some.inj H
              exact ex.nd hR_tt45
      · rw [if_neg c27] at H
        refine ex.f c27 ?_
        obtain ⟨tt48, e46, H⟩ := am_bd H
        refine ex.j1 (sX10_wrong hR_t  e46) (fun hh47 hR_tt48 => ?_)
        obtain rfl := Option.some.inj H
        exact ex.nd hR_tt48
  · clear E60
    have hR_tt3 : Rp hh2 tt3 := hq
    refine ex.bd (r_gI hR_tt3 lk9 rfl) ?_
    by_cases c50 : (tt3.1 218 8) ≤ 0
    · rw [if_pos c50] at H
      refine ex.t c50 ?_
      refine ex.bd (r_gI hR_tt3 lk9 rfl) ?_
      obtain ⟨tt53, et54, H⟩ := am_bd H
      obtain ⟨hh52, e55, hR_tt53⟩ := r_pI (k := 7) (x := (tt3.1 218 7) + ((1 : Int32))) hR_tt3 lk9 rfl rfl
      rw [Option.some.inj et54] at hR_tt53
      refine ex.bd e55 ?_
      refine ex.bd (r_gR hR_tt53 lk9 rfl) ?_
      refine ex.bd (r_gI hR_tt53 lk9 rfl) ?_
      obtain ⟨x58, e59, H⟩ := am_bd H
      refine ex.bd (r_aL hR_tt53 (la9_6 (a := 218) (by decide)) e59) ?_
      obtain ⟨rfl, rfl⟩ := am_inj2 H
      exact ex.nd ⟨rfl, hR_tt53⟩
    · rw [if_neg c50] at H
      refine ex.f c50 ?_
      obtain ⟨rfl, rfl⟩ := am_inj2 H
      exact ex.nd ⟨rfl, hR_tt3⟩
def tX10_takeAfter (a1 : Int32) (a2 : Int32) (a3 : Int32) (t : tS) : Option (Int32 × tS) :=
  (tX10_takeWord a1 t).bind fun tt3 =>
  am_b2 (tX10_takeNumber a2 a3 tt3) fun x5 tt7 =>
  some (x5, tt7)
set_option maxHeartbeats 4000000 in
set_option maxRecDepth 100000 in
theorem sX10_takeAfter {a1 : Int32} {a2 : Int32} {a3 : Int32} {h : am_H} {t : tS} {r : Int32} {t1 : tS} (hR_t : Rp h t)  (H : tX10_takeAfter a1 a2 a3 t = some (r, t1)) : ex (fX10_takeAfter 218 a1 a2 a3 h) (fun p => r = p.1 ∧ Rp p.2 t1) := by
  unfold tX10_takeAfter at H
  unfold fX10_takeAfter
  refine ex.bd (r_isO hR_t lk9) ?_
  obtain ⟨tt3, e1, H⟩ := am_bd H
  refine ex.j1 (sX10_takeWord hR_t  e1) (fun hh2 hR_tt3 => ?_)
  obtain ⟨x5, tt7, e4, H⟩ := am_bd2 H
  refine ex.j2 (sX10_takeNumber hR_tt3  e4) (fun z8 hh6 hz => ?_)
  obtain ⟨rfl, hR_tt7⟩ : x5 = z8 ∧ Rp hh6 tt7 := hz
  obtain ⟨rfl, rfl⟩ := am_inj2 H
  exact ex.nd ⟨rfl, hR_tt7⟩
def tX10_wordHere_L5 : Nat → Int32 → Int32 → Int32 → Int32 → tS → Option (Int32)
  | 0, _, _, _, _, _ => none
  | n + 1, v1, v2, v3, v4, t =>
    if v2 ≤ v4 then
      some v3
    else
      (tX10_isWord (v1 + v4) t).bind fun x3 =>
      Option.bind (
        if x3 = 0 then
          some v3
        else
          some v4) fun js5 =>
      tX10_wordHere_L5 n v1 v2 js5 (v4 + (1 : Int32)) t
def tX10_wordHere (a1 : Int32) (a2 : Int32) (t : tS) : Option (Int32) :=
  Option.bind (tX10_wordHere_L5 4000 a1 a2 ((-1 : Int32)) ((0 : Int32)) t) fun lw9 =>
  some lw9
set_option maxHeartbeats 4000000 in
set_option maxRecDepth 100000 in
theorem sX10_wordHere_L5 : ∀ (n : Nat) (v1 : Int32) (v2 : Int32) (v3 : Int32) (v4 : Int32) (h : am_H) (t : tS) (w3 : Int32), Rp h t → tX10_wordHere_L5 n v1 v2 v3 v4 t = some w3 → ex (fX10_wordHere_L5 n 218 v1 v2 v3 v4 h) (fun p => w3 = p) := by
  intro n
  induction n with
  | zero => intro _ _ _ _ _ _ _ _ H; cases H
  | succ n ih =>
    intro v1 v2 v3 v4 h t w3 hR_t H
    rw [tX10_wordHere_L5] at H
    rw [fX10_wordHere_L5]
    by_cases c1 : v2 ≤ v4
    · rw [if_pos c1] at H
      refine ex.t c1 ?_
      obtain rfl := Option.some.inj H
      exact ex.nd rfl
    · rw [if_neg c1] at H
      refine ex.f c1 ?_
      obtain ⟨x3, e2, H⟩ := am_bd H
      refine ex.j1 (sX10_isWord hR_t  e2) (fun z4 hz => ?_)
      obtain rfl : x3 = z4 := hz
      obtain ⟨js5, E7, H⟩ := am_bd H
      refine ex.j1 (Q := fun p => js5 = p) ?_ (fun z8 hq => ?_)
      · clear H
        have H := E7
        clear E7
        by_cases c6 : x3 = 0
        · rw [if_pos c6] at H
          refine ex.t c6 ?_
          obtain rfl := Option.some.inj H
          exact ex.nd rfl
        · rw [if_neg c6] at H
          refine ex.f c6 ?_
          obtain rfl := Option.some.inj H
          exact ex.nd rfl
      · clear E7
        obtain rfl : js5 = z8 := hq
        exact ih _ _ _ _ _ _ _ hR_t  H
set_option maxHeartbeats 4000000 in
set_option maxRecDepth 100000 in
theorem sX10_wordHere {a1 : Int32} {a2 : Int32} {h : am_H} {t : tS} {r : Int32} (hR_t : Rp h t)  (H : tX10_wordHere a1 a2 t = some r) : ex (fX10_wordHere 218 a1 a2 h) (fun x => r = x) := by
  unfold tX10_wordHere at H
  unfold fX10_wordHere
  refine ex.bd (r_isO hR_t lk9) ?_
  obtain ⟨lw9, E11, H⟩ := am_bd H
  refine ex.j1 (sX10_wordHere_L5 _ _ _ _ _ _ _ _ hR_t  E11) (fun z10 hq => ?_)
  clear E11
  obtain rfl : lw9 = z10 := hq
  obtain rfl := Option.some.inj H
  exact ex.nd rfl
def tX10_takeOne (a1 : Int32) (a2 : Int32) (t : tS) : Option (Int32 × tS) :=
  Option.bind (
    if (t.1 218 8) ≤ 0 then
      (tX10_wordHere a1 a2 t).bind fun x5 =>
      some x5
    else
      some ((-1 : Int32))) fun js2 =>
  Option.bind (
    if ¬ (t.1 218 8) = 0 then
      some t
    else
      if 0 ≤ js2 then
        some t
      else
        (tX10_wrong ((1 : Int32)) t).bind fun tt14 =>
        some tt14) fun tt9 =>
  Option.bind (
    if (tt9.1 218 8) ≤ 0 then
      some ((1 : Int32))
    else
      some ((0 : Int32))) fun js17 =>
  (some (uI tt9 218 7 ((tt9.1 218 7) + js17))).bind fun tt20 =>
  Option.bind (
    if (tt20.1 218 8) ≤ 0 then
      some js2
    else
      some ((0 : Int32))) fun js24 =>
  some (js24, tt20)
set_option maxHeartbeats 4000000 in
set_option maxRecDepth 100000 in
theorem sX10_takeOne {a1 : Int32} {a2 : Int32} {h : am_H} {t : tS} {r : Int32} {t1 : tS} (hR_t : Rp h t)  (H : tX10_takeOne a1 a2 t = some (r, t1)) : ex (fX10_takeOne 218 a1 a2 h) (fun p => r = p.1 ∧ Rp p.2 t1) := by
  unfold tX10_takeOne at H
  unfold fX10_takeOne
  refine ex.bd (r_isO hR_t lk9) ?_
  refine ex.bd (r_gI hR_t lk9 rfl) ?_
  obtain ⟨js2, E31, H⟩ := am_bd H
  refine ex.j1 (Q := fun p => js2 = p) ?_ (fun z32 hq => ?_)
  · clear H
    have H := E31
    clear E31
    by_cases c3 : (t.1 218 8) ≤ 0
    · rw [if_pos c3] at H
      refine ex.t c3 ?_
      obtain ⟨x5, e4, H⟩ := am_bd H
      refine ex.j1 (sX10_wordHere hR_t  e4) (fun z6 hz => ?_)
      obtain rfl : x5 = z6 := hz
      obtain rfl := Option.some.inj H
      exact ex.nd rfl
    · rw [if_neg c3] at H
      refine ex.f c3 ?_
      obtain rfl := Option.some.inj H
      exact ex.nd rfl
  · clear E31
    obtain rfl : js2 = z32 := hq
    refine ex.bd (r_gI hR_t lk9 rfl) ?_
    obtain ⟨tt9, E30, H⟩ := am_bd H
    refine ex.j1 (Q := fun p => Rp p tt9) ?_ (fun hh8 hq => ?_)
    · clear H
      have H := E30
      clear E30
      by_cases c10 : ¬ (t.1 218 8) = 0
      · rw [if_pos c10] at H
        refine ex.t c10 ?_
        obtain rfl := Option.some.inj H
        exact ex.nd hR_t
      · rw [if_neg c10] at H
        refine ex.f c10 ?_
        by_cases c11 : 0 ≤ js2
        · rw [if_pos c11] at H
          refine ex.t c11 ?_
          obtain rfl := Option.some.inj H
          exact ex.nd hR_t
        · rw [if_neg c11] at H
          refine ex.f c11 ?_
          obtain ⟨tt14, e12, H⟩ := am_bd H
          refine ex.j1 (sX10_wrong hR_t  e12) (fun hh13 hR_tt14 => ?_)
          obtain rfl := Option.some.inj H
          exact ex.nd hR_tt14
    · clear E30
      have hR_tt9 : Rp hh8 tt9 := hq
      refine ex.bd (r_gI hR_tt9 lk9 rfl) ?_
      refine ex.bd (r_gI hR_tt9 lk9 rfl) ?_
      obtain ⟨js17, E28, H⟩ := am_bd H
      refine ex.j1 (Q := fun p => js17 = p) ?_ (fun z29 hq => ?_)
      · clear H
        have H := E28
        clear E28
        by_cases c18 : (tt9.1 218 8) ≤ 0
        · rw [if_pos c18] at H
          refine ex.t c18 ?_
          obtain rfl := Option.some.inj H
          exact ex.nd rfl
        · rw [if_neg c18] at H
          refine ex.f c18 ?_
          obtain rfl := Option.some.inj H
          exact ex.nd rfl
      · clear E28
        obtain rfl : js17 = z29 := hq
        obtain ⟨tt20, et21, H⟩ := am_bd H
        obtain ⟨hh19, e22, hR_tt20⟩ := r_pI (k := 7) (x := (tt9.1 218 7) + js17) hR_tt9 lk9 rfl rfl
        rw [Option.some.inj et21] at hR_tt20
        refine ex.bd e22 ?_
        refine ex.bd (r_gI hR_tt20 lk9 rfl) ?_
        obtain ⟨js24, E26, H⟩ := am_bd H
        refine ex.j1 (Q := fun p => js24 = p) ?_ (fun z27 hq => ?_)
        · clear H
          have H := E26
          clear E26
          by_cases c25 : (tt20.1 218 8) ≤ 0
          · rw [if_pos c25] at H
            refine ex.t c25 ?_
            obtain rfl := Option.some.inj H
            exact ex.nd rfl
          · rw [if_neg c25] at H
            refine ex.f c25 ?_
            obtain rfl := Option.some.inj H
            exact ex.nd rfl
        · clear E26
          obtain rfl : js24 = z27 := hq
          obtain ⟨rfl, rfl⟩ := am_inj2 H
          exact ex.nd ⟨rfl, hR_tt20⟩
def tX10_isName  (t : tS) : Option (Int32) :=
  Option.bind (
    if ¬ (t.1 218 8) = 0 then
      some ((0 : Int32))
    else
      (tA t 220 1002 (t.1 218 7)).bind fun x6 =>
      if ¬ x6 = ((1 : Int32)) then
        some ((0 : Int32))
      else
        (tX10_wordHere ((0 : Int32)) ((21 : Int32)) t).bind fun x10 =>
        if 0 ≤ x10 then
          some ((0 : Int32))
        else
          some ((1 : Int32))) fun js2 =>
  (am_z01 js2).bind fun b13 =>
  some b13
set_option maxHeartbeats 4000000 in
set_option maxRecDepth 100000 in
theorem sX10_isName  {h : am_H} {t : tS} {r : Int32} (hR_t : Rp h t)  (H : tX10_isName  t = some r) : ex (fX10_isName 218 h) (fun x => r = x) := by
  unfold tX10_isName at H
  unfold fX10_isName
  refine ex.bd (r_isO hR_t lk9) ?_
  refine ex.bd (r_gI hR_t lk9 rfl) ?_
  obtain ⟨js2, E15, H⟩ := am_bd H
  refine ex.j1 (Q := fun p => js2 = p) ?_ (fun z16 hq => ?_)
  · clear H
    have H := E15
    clear E15
    by_cases c3 : ¬ (t.1 218 8) = 0
    · rw [if_pos c3] at H
      refine ex.t c3 ?_
      obtain rfl := Option.some.inj H
      exact ex.nd rfl
    · rw [if_neg c3] at H
      refine ex.f c3 ?_
      refine ex.bd (r_gR hR_t lk9 rfl) ?_
      refine ex.bd (r_gI hR_t lk9 rfl) ?_
      obtain ⟨x6, e7, H⟩ := am_bd H
      refine ex.bd (r_aI hR_t (la9_4 (a := 218) (by decide)) e7) ?_
      by_cases c8 : ¬ x6 = ((1 : Int32))
      · rw [if_pos c8] at H
        refine ex.t c8 ?_
        obtain rfl := Option.some.inj H
        exact ex.nd rfl
      · rw [if_neg c8] at H
        refine ex.f c8 ?_
        obtain ⟨x10, e9, H⟩ := am_bd H
        refine ex.j1 (sX10_wordHere hR_t  e9) (fun z11 hz => ?_)
        obtain rfl : x10 = z11 := hz
        by_cases c12 : 0 ≤ x10
        · rw [if_pos c12] at H
          refine ex.t c12 ?_
          obtain rfl := Option.some.inj H
          exact ex.nd rfl
        · rw [if_neg c12] at H
          refine ex.f c12 ?_
          obtain rfl := Option.some.inj H
          exact ex.nd rfl
  · clear E15
    obtain rfl : js2 = z16 := hq
    obtain ⟨b13, e14, H⟩ := am_bd H
    refine ex.bd e14 ?_
    obtain rfl := Option.some.inj H
    exact ex.nd rfl
def tX10_nameAt_L2 : Nat → Int32 → Int32 → tS → Option ((Unit) ⊕ (Int32))
  | 0, _, _, _ => none
  | n + 1, v1, v2, t =>
    Option.bind (
      if v1 = 0 then
        some (t.1 218 18)
      else
        some (t.1 218 19)) fun js1 =>
    if js1 ≤ v2 then
      some (.inl ())
    else
      Option.bind (
        if v1 = 0 then
          (tB t 227 10 v2).bind fun x9 =>
          some x9
        else
          (tB t 228 10 v2).bind fun x12 =>
          some x12) fun js6 =>
      (tB t 222 1002 (t.1 218 7)).bind fun x16 =>
      if ¬ (lg_cmp js6 x16) = 0 then
        tX10_nameAt_L2 n v1 (v2 + (1 : Int32)) t
      else
        Option.bind (
          if v1 = 0 then
            (tA t 229 10 v2).bind fun x22 =>
            some x22
          else
            (tA t 230 10 v2).bind fun x25 =>
            some x25) fun js19 =>
        some (.inr js19)
def tX10_nameAt (a1 : Int32) (t : tS) : Option (Int32) :=
  (tX10_nameAt_L2 4000 a1 ((0 : Int32)) t).bind fun o34 => match o34 with
    | .inl _ =>
      some ((-1 : Int32))
    | .inr y35 => some y35
set_option maxHeartbeats 4000000 in
set_option maxRecDepth 100000 in
theorem sX10_nameAt_L2 : ∀ (n : Nat) (v1 : Int32) (v2 : Int32) (h : am_H) (t : tS) (o : (Unit) ⊕ (Int32)), Rp h t → tX10_nameAt_L2 n v1 v2 t = some o → ex (fX10_nameAt_L2 n 218 v1 v2 h) (fun p => match o, p with
    | .inl _, .inl _ => True
    | .inr y, .inr z => y = z
    | _, _ => False) := by
  intro n
  induction n with
  | zero => intro _ _ _ _ _ _ H; cases H
  | succ n ih =>
    intro v1 v2 h t o hR_t H
    rw [tX10_nameAt_L2] at H
    rw [fX10_nameAt_L2]
    obtain ⟨js1, E31, H⟩ := am_bd H
    refine ex.j1 (Q := fun p => js1 = p) ?_ (fun z32 hq => ?_)
    · clear H
      have H := E31
      clear E31
      by_cases c2 : v1 = 0
      · rw [if_pos c2] at H
        refine ex.t c2 ?_
        refine ex.bd (r_gI hR_t lk9 rfl) ?_
        obtain rfl := Option.some.inj H
        exact ex.nd rfl
      · rw [if_neg c2] at H
        refine ex.f c2 ?_
        refine ex.bd (r_gI hR_t lk9 rfl) ?_
        obtain rfl := Option.some.inj H
        exact ex.nd rfl
    · clear E31
      obtain rfl : js1 = z32 := hq
      by_cases c5 : js1 ≤ v2
      · rw [if_pos c5] at H
        refine ex.t c5 ?_
        obtain rfl := Option.some.inj H
        exact ex.nd trivial
      · rw [if_neg c5] at H
        refine ex.f c5 ?_
        obtain ⟨js6, E29, H⟩ := am_bd H
        refine ex.j1 (Q := fun p => js6 = p) ?_ (fun z30 hq => ?_)
        · clear H
          have H := E29
          clear E29
          by_cases c7 : v1 = 0
          · rw [if_pos c7] at H
            refine ex.t c7 ?_
            refine ex.bd (r_gR hR_t lk9 rfl) ?_
            obtain ⟨x9, e10, H⟩ := am_bd H
            refine ex.bd (r_aL hR_t (la9_14 (a := 218) (by decide)) e10) ?_
            obtain rfl := Option.some.inj H
            exact ex.nd rfl
          · rw [if_neg c7] at H
            refine ex.f c7 ?_
            refine ex.bd (r_gR hR_t lk9 rfl) ?_
            obtain ⟨x12, e13, H⟩ := am_bd H
            refine ex.bd (r_aL hR_t (la9_15 (a := 218) (by decide)) e13) ?_
            obtain rfl := Option.some.inj H
            exact ex.nd rfl
        · clear E29
          obtain rfl : js6 = z30 := hq
          refine ex.bd (r_gR hR_t lk9 rfl) ?_
          refine ex.bd (r_gI hR_t lk9 rfl) ?_
          obtain ⟨x16, e17, H⟩ := am_bd H
          refine ex.bd (r_aL hR_t (la9_6 (a := 218) (by decide)) e17) ?_
          by_cases c18 : ¬ (lg_cmp js6 x16) = 0
          · rw [if_pos c18] at H
            refine ex.t c18 ?_
            exact ih _ _ _ _ _ hR_t  H
          · rw [if_neg c18] at H
            refine ex.f c18 ?_
            obtain ⟨js19, E27, H⟩ := am_bd H
            refine ex.j1 (Q := fun p => js19 = p) ?_ (fun z28 hq => ?_)
            · clear H
              have H := E27
              clear E27
              by_cases c20 : v1 = 0
              · rw [if_pos c20] at H
                refine ex.t c20 ?_
                refine ex.bd (r_gR hR_t lk9 rfl) ?_
                obtain ⟨x22, e23, H⟩ := am_bd H
                refine ex.bd (r_aI hR_t (la9_16 (a := 218) (by decide)) e23) ?_
                obtain rfl := Option.some.inj H
                exact ex.nd rfl
              · rw [if_neg c20] at H
                refine ex.f c20 ?_
                refine ex.bd (r_gR hR_t lk9 rfl) ?_
                obtain ⟨x25, e26, H⟩ := am_bd H
                refine ex.bd (r_aI hR_t (la9_17 (a := 218) (by decide)) e26) ?_
                obtain rfl := Option.some.inj H
                exact ex.nd rfl
            · clear E27
              obtain rfl : js19 = z28 := hq
              obtain rfl := Option.some.inj H
              exact ex.nd rfl
set_option maxHeartbeats 4000000 in
set_option maxRecDepth 100000 in
theorem sX10_nameAt {a1 : Int32} {h : am_H} {t : tS} {r : Int32} (hR_t : Rp h t)  (H : tX10_nameAt a1 t = some r) : ex (fX10_nameAt 218 a1 h) (fun x => r = x) := by
  unfold tX10_nameAt at H
  unfold fX10_nameAt
  refine ex.bd (r_isO hR_t lk9) ?_
  obtain ⟨o34, E33, H⟩ := am_bd H
  refine ex.j1 (sX10_nameAt_L2 _ _ _ _ _ _ hR_t  E33) (fun p36 hq => ?_)
  clear E33
  rcases o34 with _ | y35
  · rcases p36 with _ | z37
    · dsimp only at H hq ⊢
      obtain rfl := Option.some.inj H
      exact ex.nd rfl
    · exact hq.elim
  · rcases p36 with _ | z37
    · exact hq.elim
    · dsimp only at H ⊢
      obtain rfl := Option.some.inj H
      exact ex.nd hq
def tX10_takeTold (a1 : Int32) (a2 : Int32) (a3 : Int32) (t : tS) : Option (Int32 × tS) :=
  Option.bind (
    if ¬ (t.1 218 8) = 0 then
      some t
    else
      (tX10_isName  t).bind fun x6 =>
      if ¬ x6 = 0 then
        some t
      else
        (tX10_wrong ((1 : Int32)) t).bind fun tt11 =>
        some tt11) fun tt3 =>
  Option.bind (
    if (tt3.1 218 8) ≤ 0 then
      (tX10_nameAt a1 tt3).bind fun x16 =>
      some (x16 - a2)
    else
      some ((-1 : Int32))) fun js13 =>
  Option.bind (
    if ¬ (tt3.1 218 8) = 0 then
      if ¬ (tt3.1 218 8) = 0 then
        some tt3
      else
        if ¬ ((a3 >>> (js13 &&& 31)) &&& ((1 : Int32))) = ((1 : Int32)) then
          some tt3
        else
          (tX10_wrong ((3 : Int32)) tt3).bind fun tt27 =>
          some tt27
    else
      (tX10_within js13 ((0 : Int32)) ((5 : Int32)) tt3).bind fun x29 =>
      if ¬ x29 = 0 then
        if ¬ (tt3.1 218 8) = 0 then
          some tt3
        else
          if ¬ ((a3 >>> (js13 &&& 31)) &&& ((1 : Int32))) = ((1 : Int32)) then
            some tt3
          else
            (tX10_wrong ((3 : Int32)) tt3).bind fun tt37 =>
            some tt37
      else
        (tX10_wrong ((2 : Int32)) tt3).bind fun tt40 =>
        some tt40) fun tt20 =>
  Option.bind (
    if (tt20.1 218 8) ≤ 0 then
      some ((1 : Int32))
    else
      some ((0 : Int32))) fun js43 =>
  (some (uI tt20 218 7 ((tt20.1 218 7) + js43))).bind fun tt46 =>
  Option.bind (
    if (tt46.1 218 8) ≤ 0 then
      some js13
    else
      some ((0 : Int32))) fun js50 =>
  some (js50, tt46)
set_option maxHeartbeats 4000000 in
set_option maxRecDepth 100000 in
theorem sX10_takeTold {a1 : Int32} {a2 : Int32} {a3 : Int32} {h : am_H} {t : tS} {r : Int32} {t1 : tS} (hR_t : Rp h t)  (H : tX10_takeTold a1 a2 a3 t = some (r, t1)) : ex (fX10_takeTold 218 a1 a2 a3 h) (fun p => r = p.1 ∧ Rp p.2 t1) := by
  unfold tX10_takeTold at H
  unfold fX10_takeTold
  refine ex.bd (r_isO hR_t lk9) ?_
  refine ex.bd (r_gI hR_t lk9 rfl) ?_
  obtain ⟨tt3, E59, H⟩ := am_bd H
  refine ex.j1 (Q := fun p => Rp p tt3) ?_ (fun hh2 hq => ?_)
  · clear H
    have H := E59
    clear E59
    by_cases c4 : ¬ (t.1 218 8) = 0
    · rw [if_pos c4] at H
      refine ex.t c4 ?_
      obtain rfl := Option.some.inj H
      exact ex.nd hR_t
    · rw [if_neg c4] at H
      refine ex.f c4 ?_
      obtain ⟨x6, e5, H⟩ := am_bd H
      refine ex.j1 (sX10_isName hR_t  e5) (fun z7 hz => ?_)
      obtain rfl : x6 = z7 := hz
      by_cases c8 : ¬ x6 = 0
      · rw [if_pos c8] at H
        refine ex.t c8 ?_
        obtain rfl := Option.some.inj H
        exact ex.nd hR_t
      · rw [if_neg c8] at H
        refine ex.f c8 ?_
        obtain ⟨tt11, e9, H⟩ := am_bd H
        refine ex.j1 (sX10_wrong hR_t  e9) (fun hh10 hR_tt11 => ?_)
        obtain rfl := Option.some.inj H
        exact ex.nd hR_tt11
  · clear E59
    have hR_tt3 : Rp hh2 tt3 := hq
    refine ex.bd (r_gI hR_tt3 lk9 rfl) ?_
    obtain ⟨js13, E57, H⟩ := am_bd H
    refine ex.j1 (Q := fun p => js13 = p) ?_ (fun z58 hq => ?_)
    · clear H
      have H := E57
      clear E57
      by_cases c14 : (tt3.1 218 8) ≤ 0
      · rw [if_pos c14] at H
        refine ex.t c14 ?_
        obtain ⟨x16, e15, H⟩ := am_bd H
        refine ex.j1 (sX10_nameAt hR_tt3  e15) (fun z17 hz => ?_)
        obtain rfl : x16 = z17 := hz
        obtain rfl := Option.some.inj H
        exact ex.nd rfl
      · rw [if_neg c14] at H
        refine ex.f c14 ?_
        obtain rfl := Option.some.inj H
        exact ex.nd rfl
    · clear E57
      obtain rfl : js13 = z58 := hq
      refine ex.bd (r_gI hR_tt3 lk9 rfl) ?_
      obtain ⟨tt20, E56, H⟩ := am_bd H
      refine ex.j1 (Q := fun p => Rp p tt20) ?_ (fun hh19 hq => ?_)
      · clear H
        have H := E56
        clear E56
        by_cases c21 : ¬ (tt3.1 218 8) = 0
        · rw [if_pos c21] at H
          refine ex.t c21 ?_
          refine ex.bd (r_gI hR_tt3 lk9 rfl) ?_
          by_cases c23 : ¬ (tt3.1 218 8) = 0
          · rw [if_pos c23] at H
            refine ex.t c23 ?_
            obtain rfl := Option.some.inj H
            exact ex.nd hR_tt3
          · rw [if_neg c23] at H
            refine ex.f c23 ?_
            by_cases c24 : ¬ ((a3 >>> (js13 &&& 31)) &&& ((1 : Int32))) = ((1 : Int32))
            · rw [if_pos c24] at H
              refine ex.t c24 ?_
              obtain rfl := Option.some.inj H
              exact ex.nd hR_tt3
            · rw [if_neg c24] at H
              refine ex.f c24 ?_
              obtain ⟨tt27, e25, H⟩ := am_bd H
              refine ex.j1 (sX10_wrong hR_tt3  e25) (fun hh26 hR_tt27 => ?_)
              obtain rfl := Option.some.inj H
              exact ex.nd hR_tt27
        · rw [if_neg c21] at H
          refine ex.f c21 ?_
          obtain ⟨x29, e28, H⟩ := am_bd H
          refine ex.j1 (sX10_within hR_tt3  e28) (fun z30 hz => ?_)
          obtain rfl : x29 = z30 := hz
          by_cases c31 : ¬ x29 = 0
          · rw [if_pos c31] at H
            refine ex.t c31 ?_
            refine ex.bd (r_gI hR_tt3 lk9 rfl) ?_
            by_cases c33 : ¬ (tt3.1 218 8) = 0
            · rw [if_pos c33] at H
              refine ex.t c33 ?_
              obtain rfl := Option.some.inj H
              exact ex.nd hR_tt3
            · rw [if_neg c33] at H
              refine ex.f c33 ?_
              by_cases c34 : ¬ ((a3 >>> (js13 &&& 31)) &&& ((1 : Int32))) = ((1 : Int32))
              · rw [if_pos c34] at H
                refine ex.t c34 ?_
                obtain rfl := Option.some.inj H
                exact ex.nd hR_tt3
              · rw [if_neg c34] at H
                refine ex.f c34 ?_
                obtain ⟨tt37, e35, H⟩ := am_bd H
                refine ex.j1 (sX10_wrong hR_tt3  e35) (fun hh36 hR_tt37 => ?_)
                obtain rfl := Option.some.inj H
                exact ex.nd hR_tt37
          · rw [if_neg c31] at H
            refine ex.f c31 ?_
            obtain ⟨tt40, e38, H⟩ := am_bd H
            refine ex.j1 (sX10_wrong hR_tt3  e38) (fun hh39 hR_tt40 => ?_)
            obtain rfl := Option.some.inj H
            exact ex.nd hR_tt40
      · clear E56
        have hR_tt20 : Rp hh19 tt20 := hq
        refine ex.bd (r_gI hR_tt20 lk9 rfl) ?_
        refine ex.bd (r_gI hR_tt20 lk9 rfl) ?_
        obtain ⟨js43, E54, H⟩ := am_bd H
        refine ex.j1 (Q := fun p => js43 = p) ?_ (fun z55 hq => ?_)
        · clear H
          have H := E54
          clear E54
          by_cases c44 : (tt20.1 218 8) ≤ 0
          · rw [if_pos c44] at H
            refine ex.t c44 ?_
            obtain rfl := Option.some.inj H
            exact ex.nd rfl
          · rw [if_neg c44] at H
            refine ex.f c44 ?_
            obtain rfl := Option.some.inj H
            exact ex.nd rfl
        · clear E54
          obtain rfl : js43 = z55 := hq
          obtain ⟨tt46, et47, H⟩ := am_bd H
          obtain ⟨hh45, e48, hR_tt46⟩ := r_pI (k := 7) (x := (tt20.1 218 7) + js43) hR_tt20 lk9 rfl rfl
          rw [Option.some.inj et47] at hR_tt46
          refine ex.bd e48 ?_
          refine ex.bd (r_gI hR_tt46 lk9 rfl) ?_
          obtain ⟨js50, E52, H⟩ := am_bd H
          refine ex.j1 (Q := fun p => js50 = p) ?_ (fun z53 hq => ?_)
          · clear H
            have H := E52
            clear E52
            by_cases c51 : (tt46.1 218 8) ≤ 0
            · rw [if_pos c51] at H
              refine ex.t c51 ?_
              obtain rfl := Option.some.inj H
              exact ex.nd rfl
            · rw [if_neg c51] at H
              refine ex.f c51 ?_
              obtain rfl := Option.some.inj H
              exact ex.nd rfl
          · clear E52
            obtain rfl : js50 = z53 := hq
            obtain ⟨rfl, rfl⟩ := am_inj2 H
            exact ex.nd ⟨rfl, hR_tt46⟩
def tX10_readName (a1 : Int32) (a2 : Int32) (a3 : Int32) (t : tS) : Option (tS) :=
  (tA t 224 100 (((50 : Int32)) + a1)).bind fun x2 =>
  if ¬ x2 = a2 then
    (some (uI t 218 7 ((t.1 218 7) + ((1 : Int32))))).bind fun tt7 =>
    (tX10_isName  tt7).bind fun x11 =>
    Option.bind (
      if ¬ x11 = 0 then
        (tX10_nameAt ((1 : Int32)) tt7).bind fun x17 =>
        if x17 < 0 then
          some tt7
        else
          (tX10_wrong ((3 : Int32)) tt7).bind fun tt22 =>
          some tt22
      else
        (tX10_wrong ((1 : Int32)) tt7).bind fun tt25 =>
        some tt25) fun tt14 =>
    Option.bind (
      if ¬ (tt14.1 218 8) = 0 then
        some tt14
      else
        (tB tt14 222 1002 (tt14.1 218 7)).bind fun x34 =>
        (tWB tt14 228 10 (tt14.1 218 19) x34).bind fun tt37 =>
        (tWA tt37 0 230 10 (tt37.1 218 19) (a3 + x2)).bind fun tt43 =>
        (some (uI tt43 218 19 ((tt43.1 218 19) + ((1 : Int32))))).bind fun tt48 =>
        (some (uI tt48 218 7 ((tt48.1 218 7) + ((1 : Int32))))).bind fun tt53 =>
        (tA tt53 224 100 (((50 : Int32)) + a1)).bind fun x57 =>
        (tWA tt53 0 224 100 (((50 : Int32)) + a1) (x57 + ((1 : Int32)))).bind fun tt60 =>
        some tt60) fun tt28 =>
    some tt28
  else
    (tX10_wrong ((5 : Int32)) t).bind fun tt67 =>
    some tt67
set_option maxHeartbeats 4000000 in
set_option maxRecDepth 100000 in
theorem sX10_readName {a1 : Int32} {a2 : Int32} {a3 : Int32} {h : am_H} {t : tS} {t1 : tS} (hR_t : Rp h t)  (H : tX10_readName a1 a2 a3 t = some t1) : ex (fX10_readName 218 a1 a2 a3 h) (fun h1 => Rp h1 t1) := by
  unfold tX10_readName at H
  unfold fX10_readName
  refine ex.bd (r_isO hR_t lk9) ?_
  refine ex.bd (r_gR hR_t lk9 rfl) ?_
  obtain ⟨x2, e3, H⟩ := am_bd H
  refine ex.bd (r_aI hR_t (la9_10 (a := 218) (by decide)) e3) ?_
  by_cases c4 : ¬ x2 = a2
  · rw [if_pos c4] at H
    refine ex.t c4 ?_
    refine ex.bd (r_gI hR_t lk9 rfl) ?_
    obtain ⟨tt7, et8, H⟩ := am_bd H
    obtain ⟨hh6, e9, hR_tt7⟩ := r_pI (k := 7) (x := (t.1 218 7) + ((1 : Int32))) hR_t lk9 rfl rfl
    rw [Option.some.inj et8] at hR_tt7
    refine ex.bd e9 ?_
    obtain ⟨x11, e10, H⟩ := am_bd H
    refine ex.j1 (sX10_isName hR_tt7  e10) (fun z12 hz => ?_)
    obtain rfl : x11 = z12 := hz
    obtain ⟨tt14, E64, H⟩ := am_bd H
    refine ex.j1 (Q := fun p => Rp p tt14) ?_ (fun hh13 hq => ?_)
    · clear H
      have H := E64
      clear E64
      by_cases c15 : ¬ x11 = 0
      · rw [if_pos c15] at H
        refine ex.t c15 ?_
        obtain ⟨x17, e16, H⟩ := am_bd H
        refine ex.j1 (sX10_nameAt hR_tt7  e16) (fun z18 hz => ?_)
        obtain rfl : x17 = z18 := hz
        by_cases c19 : x17 < 0
        · rw [if_pos c19] at H
          refine ex.t c19 ?_
          obtain rfl := Option.some.inj H
          exact ex.nd hR_tt7
        · rw [if_neg c19] at H
          refine ex.f c19 ?_
          obtain ⟨tt22, e20, H⟩ := am_bd H
          refine ex.j1 (sX10_wrong hR_tt7  e20) (fun hh21 hR_tt22 => ?_)
          obtain rfl := Option.some.inj H
          exact ex.nd hR_tt22
      · rw [if_neg c15] at H
        refine ex.f c15 ?_
        obtain ⟨tt25, e23, H⟩ := am_bd H
        refine ex.j1 (sX10_wrong hR_tt7  e23) (fun hh24 hR_tt25 => ?_)
        obtain rfl := Option.some.inj H
        exact ex.nd hR_tt25
    · clear E64
      have hR_tt14 : Rp hh13 tt14 := hq
      refine ex.bd (r_gI hR_tt14 lk9 rfl) ?_
      obtain ⟨tt28, E63, H⟩ := am_bd H
      refine ex.j1 (Q := fun p => Rp p tt28) ?_ (fun hh27 hq => ?_)
      · clear H
        have H := E63
        clear E63
        by_cases c29 : ¬ (tt14.1 218 8) = 0
        · rw [if_pos c29] at H
          refine ex.t c29 ?_
          obtain rfl := Option.some.inj H
          exact ex.nd hR_tt14
        · rw [if_neg c29] at H
          refine ex.f c29 ?_
          refine ex.bd (r_gR hR_tt14 lk9 rfl) ?_
          refine ex.bd (r_gI hR_tt14 lk9 rfl) ?_
          refine ex.bd (r_gR hR_tt14 lk9 rfl) ?_
          refine ex.bd (r_gI hR_tt14 lk9 rfl) ?_
          obtain ⟨x34, e35, H⟩ := am_bd H
          refine ex.bd (r_aL hR_tt14 (la9_6 (a := 218) (by decide)) e35) ?_
          obtain ⟨tt37, e38, H⟩ := am_bd H
          obtain ⟨hh36, e39, hR_tt37⟩ := r_sL hR_tt14 (la9_15 (a := 218) (by decide)) e38
          refine ex.bd e39 ?_
          refine ex.bd (r_gR hR_tt37 lk9 rfl) ?_
          refine ex.bd (r_gI hR_tt37 lk9 rfl) ?_
          obtain ⟨tt43, e44, H⟩ := am_bd H
          obtain ⟨hh42, e45, hR_tt43⟩ := r_sI hR_tt37 (la9_17 (a := 218) (by decide)) e44
          refine ex.bd e45 ?_
          refine ex.bd (r_gI hR_tt43 lk9 rfl) ?_
          obtain ⟨tt48, et49, H⟩ := am_bd H
          obtain ⟨hh47, e50, hR_tt48⟩ := r_pI (k := 19) (x := (tt43.1 218 19) + ((1 : Int32))) hR_tt43 lk9 rfl rfl
          rw [Option.some.inj et49] at hR_tt48
          refine ex.bd e50 ?_
          refine ex.bd (r_gI hR_tt48 lk9 rfl) ?_
          obtain ⟨tt53, et54, H⟩ := am_bd H
          obtain ⟨hh52, e55, hR_tt53⟩ := r_pI (k := 7) (x := (tt48.1 218 7) + ((1 : Int32))) hR_tt48 lk9 rfl rfl
          rw [Option.some.inj et54] at hR_tt53
          refine ex.bd e55 ?_
          refine ex.bd (r_gR hR_tt53 lk9 rfl) ?_
          obtain ⟨x57, e58, H⟩ := am_bd H
          refine ex.bd (r_aI hR_tt53 (la9_10 (a := 218) (by decide)) e58) ?_
          obtain ⟨tt60, e61, H⟩ := am_bd H
          obtain ⟨hh59, e62, hR_tt60⟩ := r_sI hR_tt53 (la9_10 (a := 218) (by decide)) e61
          refine ex.bd e62 ?_
          obtain rfl := Option.some.inj H
          exact ex.nd hR_tt60
      · clear E63
        have hR_tt28 : Rp hh27 tt28 := hq
        obtain rfl := Option.some.inj H
        exact ex.nd hR_tt28
  · rw [if_neg c4] at H
    refine ex.f c4 ?_
    obtain ⟨tt67, e65, H⟩ := am_bd H
    refine ex.j1 (sX10_wrong hR_t  e65) (fun hh66 hR_tt67 => ?_)
    obtain rfl := Option.some.inj H
    exact ex.nd hR_tt67
def tX10_readDay  (t : tS) : Option (tS) :=
  (tA t 224 100 ((51 : Int32))).bind fun x2 =>
  (tX10_readName ((1 : Int32)) ((6 : Int32)) ((20 : Int32)) t).bind fun tt6 =>
  am_b2 (tX10_takeOne ((14 : Int32)) ((4 : Int32)) tt6) fun x8 tt10 =>
  (tX10_takeWord ((4 : Int32)) tt10).bind fun tt14 =>
  am_b2 (tX10_takeTold ((1 : Int32)) ((0 : Int32)) ((0 : Int32)) tt14) fun x16 tt18 =>
  am_b2 (tX10_takeAfter ((5 : Int32)) ((0 : Int32)) ((11 : Int32)) tt18) fun x21 tt23 =>
  am_b2 (tX10_takeAfter ((6 : Int32)) ((0 : Int32)) ((40 : Int32)) tt23) fun x26 tt28 =>
  Option.bind (
    if ¬ (tt28.1 218 8) = 0 then
      some tt28
    else
      (tWA tt28 0 224 100 (((62 : Int32)) + (((5 : Int32)) * x2)) x8).bind fun tt36 =>
      (tWA tt36 0 224 100 ((((62 : Int32)) + (((5 : Int32)) * x2)) + ((1 : Int32))) x16).bind fun tt41 =>
      (tWA tt41 0 224 100 ((((62 : Int32)) + (((5 : Int32)) * x2)) + ((2 : Int32))) x21).bind fun tt46 =>
      (tWA tt46 0 224 100 ((((62 : Int32)) + (((5 : Int32)) * x2)) + ((3 : Int32))) x26).bind fun tt51 =>
      some tt51) fun tt32 =>
  some tt32
set_option maxHeartbeats 4000000 in
set_option maxRecDepth 100000 in
theorem sX10_readDay  {h : am_H} {t : tS} {t1 : tS} (hR_t : Rp h t)  (H : tX10_readDay  t = some t1) : ex (fX10_readDay 218 h) (fun h1 => Rp h1 t1) := by
  unfold tX10_readDay at H
  unfold fX10_readDay
  refine ex.bd (r_isO hR_t lk9) ?_
  refine ex.bd (r_gR hR_t lk9 rfl) ?_
  obtain ⟨x2, e3, H⟩ := am_bd H
  refine ex.bd (r_aI hR_t (la9_10 (a := 218) (by decide)) e3) ?_
  obtain ⟨tt6, e4, H⟩ := am_bd H
  refine ex.j1 (sX10_readName hR_t  e4) (fun hh5 hR_tt6 => ?_)
  obtain ⟨x8, tt10, e7, H⟩ := am_bd2 H
  refine ex.j2 (sX10_takeOne hR_tt6  e7) (fun z11 hh9 hz => ?_)
  obtain ⟨rfl, hR_tt10⟩ : x8 = z11 ∧ Rp hh9 tt10 := hz
  obtain ⟨tt14, e12, H⟩ := am_bd H
  refine ex.j1 (sX10_takeWord hR_tt10  e12) (fun hh13 hR_tt14 => ?_)
  obtain ⟨x16, tt18, e15, H⟩ := am_bd2 H
  refine ex.j2 (sX10_takeTold hR_tt14  e15) (fun z19 hh17 hz => ?_)
  obtain ⟨rfl, hR_tt18⟩ : x16 = z19 ∧ Rp hh17 tt18 := hz
  obtain ⟨x21, tt23, e20, H⟩ := am_bd2 H
  refine ex.j2 (sX10_takeAfter hR_tt18  e20) (fun z24 hh22 hz => ?_)
  obtain ⟨rfl, hR_tt23⟩ : x21 = z24 ∧ Rp hh22 tt23 := hz
  obtain ⟨x26, tt28, e25, H⟩ := am_bd2 H
  refine ex.j2 (sX10_takeAfter hR_tt23  e25) (fun z29 hh27 hz => ?_)
  obtain ⟨rfl, hR_tt28⟩ : x26 = z29 ∧ Rp hh27 tt28 := hz
  refine ex.bd (r_gI hR_tt28 lk9 rfl) ?_
  obtain ⟨tt32, E54, H⟩ := am_bd H
  refine ex.j1 (Q := fun p => Rp p tt32) ?_ (fun hh31 hq => ?_)
  · clear H
    have H := E54
    clear E54
    by_cases c33 : ¬ (tt28.1 218 8) = 0
    · rw [if_pos c33] at H
      refine ex.t c33 ?_
      obtain rfl := Option.some.inj H
      exact ex.nd hR_tt28
    · rw [if_neg c33] at H
      refine ex.f c33 ?_
      refine ex.bd (r_gR hR_tt28 lk9 rfl) ?_
      obtain ⟨tt36, e37, H⟩ := am_bd H
      obtain ⟨hh35, e38, hR_tt36⟩ := r_sI hR_tt28 (la9_10 (a := 218) (by decide)) e37
      refine ex.bd e38 ?_
      refine ex.bd (r_gR hR_tt36 lk9 rfl) ?_
      obtain ⟨tt41, e42, H⟩ := am_bd H
      obtain ⟨hh40, e43, hR_tt41⟩ := r_sI hR_tt36 (la9_10 (a := 218) (by decide)) e42
      refine ex.bd e43 ?_
      refine ex.bd (r_gR hR_tt41 lk9 rfl) ?_
      obtain ⟨tt46, e47, H⟩ := am_bd H
      obtain ⟨hh45, e48, hR_tt46⟩ := r_sI hR_tt41 (la9_10 (a := 218) (by decide)) e47
      refine ex.bd e48 ?_
      refine ex.bd (r_gR hR_tt46 lk9 rfl) ?_
      obtain ⟨tt51, e52, H⟩ := am_bd H
      obtain ⟨hh50, e53, hR_tt51⟩ := r_sI hR_tt46 (la9_10 (a := 218) (by decide)) e52
      refine ex.bd e53 ?_
      obtain rfl := Option.some.inj H
      exact ex.nd hR_tt51
  · clear E54
    have hR_tt32 : Rp hh31 tt32 := hq
    obtain rfl := Option.some.inj H
    exact ex.nd hR_tt32
def tX10_emit (a1 : Int32) (a2 : Int32) (t : tS) : Option (tS) :=
  (tWA t 0 225 2200 (((1100 : Int32)) + (t.1 218 13)) a1).bind fun tt4 =>
  (tWA tt4 0 226 2200 (((1100 : Int32)) + (tt4.1 218 13)) a2).bind fun tt10 =>
  (some (uI tt10 218 13 ((tt10.1 218 13) + ((1 : Int32))))).bind fun tt15 =>
  some tt15
set_option maxHeartbeats 4000000 in
set_option maxRecDepth 100000 in
theorem sX10_emit {a1 : Int32} {a2 : Int32} {h : am_H} {t : tS} {t1 : tS} (hR_t : Rp h t)  (H : tX10_emit a1 a2 t = some t1) : ex (fX10_emit 218 a1 a2 h) (fun h1 => Rp h1 t1) := by
  unfold tX10_emit at H
  unfold fX10_emit
  refine ex.bd (r_isO hR_t lk9) ?_
  refine ex.bd (r_gR hR_t lk9 rfl) ?_
  refine ex.bd (r_gI hR_t lk9 rfl) ?_
  obtain ⟨tt4, e5, H⟩ := am_bd H
  obtain ⟨hh3, e6, hR_tt4⟩ := r_sI hR_t (la9_11 (a := 218) (by decide)) e5
  refine ex.bd e6 ?_
  refine ex.bd (r_gR hR_tt4 lk9 rfl) ?_
  refine ex.bd (r_gI hR_tt4 lk9 rfl) ?_
  obtain ⟨tt10, e11, H⟩ := am_bd H
  obtain ⟨hh9, e12, hR_tt10⟩ := r_sI hR_tt4 (la9_12 (a := 218) (by decide)) e11
  refine ex.bd e12 ?_
  refine ex.bd (r_gI hR_tt10 lk9 rfl) ?_
  obtain ⟨tt15, et16, H⟩ := am_bd H
  obtain ⟨hh14, e17, hR_tt15⟩ := r_pI (k := 13) (x := (tt10.1 218 13) + ((1 : Int32))) hR_tt10 lk9 rfl rfl
  rw [Option.some.inj et16] at hR_tt15
  refine ex.bd e17 ?_
  obtain rfl := Option.some.inj H
  exact ex.nd hR_tt15
def tX10_readPair (a1 : Int32) (a2 : Int32) (a3 : Int32) (t : tS) : Option (tS) :=
  (some (uI t 218 7 ((t.1 218 7) + ((1 : Int32))))).bind fun tt3 =>
  am_b2 (tX10_takeTold ((1 : Int32)) a1 ((0 : Int32)) tt3) fun x7 tt9 =>
  (tA tt9 224 100 ((((50 : Int32)) + a2) + (a3 * x7))).bind fun x12 =>
  am_b2 (tX10_takeTold ((1 : Int32)) a1 (x12 ||| (((1 : Int32)) <<< (x7 &&& 31))) tt9) fun x15 tt17 =>
  Option.bind (
    if ¬ (tt17.1 218 8) = 0 then
      some tt17
    else
      (tA tt17 224 100 ((((50 : Int32)) + a2) + (a3 * x7))).bind fun x24 =>
      (tWA tt17 0 224 100 ((((50 : Int32)) + a2) + (a3 * x7)) (x24 ||| (((1 : Int32)) <<< (x15 &&& 31)))).bind fun tt27 =>
      (tA tt27 224 100 ((((50 : Int32)) + a2) + (a3 * x15))).bind fun x31 =>
      (tWA tt27 0 224 100 ((((50 : Int32)) + a2) + (a3 * x15)) (x31 ||| (((1 : Int32)) <<< (x7 &&& 31)))).bind fun tt34 =>
      some tt34) fun tt21 =>
  some tt21
set_option maxHeartbeats 4000000 in
set_option maxRecDepth 100000 in
theorem sX10_readPair {a1 : Int32} {a2 : Int32} {a3 : Int32} {h : am_H} {t : tS} {t1 : tS} (hR_t : Rp h t)  (H : tX10_readPair a1 a2 a3 t = some t1) : ex (fX10_readPair 218 a1 a2 a3 h) (fun h1 => Rp h1 t1) := by
  unfold tX10_readPair at H
  unfold fX10_readPair
  refine ex.bd (r_isO hR_t lk9) ?_
  refine ex.bd (r_gI hR_t lk9 rfl) ?_
  obtain ⟨tt3, et4, H⟩ := am_bd H
  obtain ⟨hh2, e5, hR_tt3⟩ := r_pI (k := 7) (x := (t.1 218 7) + ((1 : Int32))) hR_t lk9 rfl rfl
  rw [Option.some.inj et4] at hR_tt3
  refine ex.bd e5 ?_
  obtain ⟨x7, tt9, e6, H⟩ := am_bd2 H
  refine ex.j2 (sX10_takeTold hR_tt3  e6) (fun z10 hh8 hz => ?_)
  obtain ⟨rfl, hR_tt9⟩ : x7 = z10 ∧ Rp hh8 tt9 := hz
  refine ex.bd (r_gR hR_tt9 lk9 rfl) ?_
  obtain ⟨x12, e13, H⟩ := am_bd H
  refine ex.bd (r_aI hR_tt9 (la9_10 (a := 218) (by decide)) e13) ?_
  obtain ⟨x15, tt17, e14, H⟩ := am_bd2 H
  refine ex.j2 (sX10_takeTold hR_tt9  e14) (fun z18 hh16 hz => ?_)
  obtain ⟨rfl, hR_tt17⟩ : x15 = z18 ∧ Rp hh16 tt17 := hz
  refine ex.bd (r_gI hR_tt17 lk9 rfl) ?_
  obtain ⟨tt21, E37, H⟩ := am_bd H
  refine ex.j1 (Q := fun p => Rp p tt21) ?_ (fun hh20 hq => ?_)
  · clear H
    have H := E37
    clear E37
    by_cases c22 : ¬ (tt17.1 218 8) = 0
    · rw [if_pos c22] at H
      refine ex.t c22 ?_
      obtain rfl := Option.some.inj H
      exact ex.nd hR_tt17
    · rw [if_neg c22] at H
      refine ex.f c22 ?_
      refine ex.bd (r_gR hR_tt17 lk9 rfl) ?_
      obtain ⟨x24, e25, H⟩ := am_bd H
      refine ex.bd (r_aI hR_tt17 (la9_10 (a := 218) (by decide)) e25) ?_
      obtain ⟨tt27, e28, H⟩ := am_bd H
      obtain ⟨hh26, e29, hR_tt27⟩ := r_sI hR_tt17 (la9_10 (a := 218) (by decide)) e28
      refine ex.bd e29 ?_
      refine ex.bd (r_gR hR_tt27 lk9 rfl) ?_
      obtain ⟨x31, e32, H⟩ := am_bd H
      refine ex.bd (r_aI hR_tt27 (la9_10 (a := 218) (by decide)) e32) ?_
      obtain ⟨tt34, e35, H⟩ := am_bd H
      obtain ⟨hh33, e36, hR_tt34⟩ := r_sI hR_tt27 (la9_10 (a := 218) (by decide)) e35
      refine ex.bd e36 ?_
      obtain rfl := Option.some.inj H
      exact ex.nd hR_tt34
  · clear E37
    have hR_tt21 : Rp hh20 tt21 := hq
    obtain rfl := Option.some.inj H
    exact ex.nd hR_tt21
def tX10_year_L11 : Nat → Int32 → tS → Option (Int32 × tS)
  | 0, _, _ => none
  | n + 1, v1, t =>
    if ¬ (t.1 218 8) = 0 then
      some (v1, t)
    else
      (tA t 220 1002 (t.1 218 7)).bind fun x12 =>
      if x12 = 0 then
        some (v1, t)
      else
        (tX10_wordHere ((10 : Int32)) ((4 : Int32)) t).bind fun x16 =>
        am_b2 (
          if 0 ≤ x16 then
            if ¬ v1 = ((40 : Int32)) then
              (some (uI t 218 7 ((t.1 218 7) + ((1 : Int32))))).bind fun tt25 =>
              (tWA tt25 0 231 250 (((125 : Int32)) + (((3 : Int32)) * v1)) x16).bind fun tt30 =>
              am_b2 (
                if ¬ x16 = 0 then
                  Option.bind (
                    if ¬ x16 = ((3 : Int32)) then
                      some ((20 : Int32))
                    else
                      some ((0 : Int32))) fun js38 =>
                  am_b2 (tX10_takeTold ((0 : Int32)) js38 ((0 : Int32)) tt30) fun x41 tt43 =>
                  some (x41, tt43)
                else
                  some ((0 : Int32), tt30)) fun js34 tt36 =>
              (tWA tt36 0 231 250 ((((125 : Int32)) + (((3 : Int32)) * v1)) + ((1 : Int32))) js34).bind fun tt48 =>
              am_b2 (
                if ¬ x16 = ((1 : Int32)) then
                  some ((0 : Int32), tt48)
                else
                  am_b2 (tX10_takeTold ((0 : Int32)) ((0 : Int32)) ((0 : Int32)) tt48) fun x57 tt59 =>
                  some (x57, tt59)) fun js52 tt54 =>
              (tWA tt54 0 231 250 ((((125 : Int32)) + (((3 : Int32)) * v1)) + ((2 : Int32))) js52).bind fun tt62 =>
              some (v1 + (1 : Int32), tt62)
            else
              (tX10_wrong ((5 : Int32)) t).bind fun tt71 =>
              some (v1, tt71)
          else
            (tX10_wrong ((1 : Int32)) t).bind fun tt74 =>
            some (v1, tt74)) fun jv18 tt20 =>
        (tX10_takeSign ((59 : Int32)) tt20).bind fun tt77 =>
        tX10_year_L11 n jv18 tt77
def tX10_year_L178 : Nat → Int32 → Int32 → tS → Option (tS)
  | 0, _, _, _ => none
  | n + 1, v1, v2, t =>
    if (((3 : Int32)) * v1) ≤ v2 then
      some t
    else
      (tA t 231 250 (((125 : Int32)) + v2)).bind fun x95 =>
      (tWA t 0 231 250 (((1 : Int32)) + v2) x95).bind fun tt98 =>
      tX10_year_L178 n v1 (v2 + (1 : Int32)) tt98
def tX10_year  (t : tS) : Option (Int32 × tS) :=
  (some (uI t 218 0 ((0 : Int32)))).bind fun tt2 =>
  (tX10_cutAll  tt2).bind fun tt7 =>
  am_b2 (tX10_year_L11 4000 ((0 : Int32)) tt7) fun lw80 tt82 =>
  if (tt82.1 218 8) ≤ 0 then
    (tWA tt82 0 231 250 ((0 : Int32)) lw80).bind fun tt89 =>
    Option.bind (tX10_year_L178 4000 lw80 ((0 : Int32)) tt89) fun tt102 =>
    some ((0 : Int32), tt102)
  else
    some (tt82.1 218 8, tt82)
set_option maxHeartbeats 4000000 in
set_option maxRecDepth 100000 in
theorem sX10_year_L11 : ∀ (n : Nat) (v1 : Int32) (h : am_H) (t : tS) (w1 : Int32) (t1 : tS), Rp h t → tX10_year_L11 n v1 t = some (w1, t1) → ex (fX10_year_L11 n 218 v1 h) (fun p => w1 = p.1 ∧ Rp p.2 t1) := by
  intro n
  induction n with
  | zero => intro _ _ _ _ _ _ H; cases H
  | succ n ih =>
    intro v1 h t w1 t1 hR_t H
    rw [tX10_year_L11] at H
    rw [fX10_year_L11]
    refine ex.bd (r_gI hR_t lk9 rfl) ?_
    by_cases c9 : ¬ (t.1 218 8) = 0
    · rw [if_pos c9] at H
      refine ex.t c9 ?_
      obtain ⟨rfl, rfl⟩ := am_inj2 H
      exact ex.nd ⟨rfl, hR_t⟩
    · rw [if_neg c9] at H
      refine ex.f c9 ?_
      refine ex.bd (r_gR hR_t lk9 rfl) ?_
      refine ex.bd (r_gI hR_t lk9 rfl) ?_
      obtain ⟨x12, e13, H⟩ := am_bd H
      refine ex.bd (r_aI hR_t (la9_4 (a := 218) (by decide)) e13) ?_
      by_cases c14 : x12 = 0
      · rw [if_pos c14] at H
        refine ex.t c14 ?_
        obtain ⟨rfl, rfl⟩ := am_inj2 H
        exact ex.nd ⟨rfl, hR_t⟩
      · rw [if_neg c14] at H
        refine ex.f c14 ?_
        obtain ⟨x16, e15, H⟩ := am_bd H
        refine ex.j1 (sX10_wordHere hR_t  e15) (fun z17 hz => ?_)
        obtain rfl : x16 = z17 := hz
        obtain ⟨jv18, tt20, E78, H⟩ := am_bd2 H
        refine ex.j2 (Q := fun p => jv18 = p.1 ∧ Rp p.2 tt20) ?_ (fun z79 hh19 hq => ?_)
        · clear H
          have H := E78
          clear E78
          by_cases c21 : 0 ≤ x16
          · rw [if_pos c21] at H
            refine ex.t c21 ?_
            by_cases c22 : ¬ v1 = ((40 : Int32))
            · rw [if_pos c22] at H
              refine ex.t c22 ?_
              refine ex.bd (r_gI hR_t lk9 rfl) ?_
              obtain ⟨tt25, et26, H⟩ := am_bd H
              obtain ⟨hh24, e27, hR_tt25⟩ := r_pI (k := 7) (x := (t.1 218 7) + ((1 : Int32))) hR_t lk9 rfl rfl
              rw [Option.some.inj et26] at hR_tt25
              refine ex.bd e27 ?_
              refine ex.bd (r_gR hR_tt25 lk9 rfl) ?_
              obtain ⟨tt30, e31, H⟩ := am_bd H
              obtain ⟨hh29, e32, hR_tt30⟩ := r_sI hR_tt25 (la9_21 (a := 218) (by decide)) e31
              refine ex.bd e32 ?_
              refine ex.bd (r_gR hR_tt30 lk9 rfl) ?_
              obtain ⟨js34, tt36, E67, H⟩ := am_bd2 H
              refine ex.j2 (Q := fun p => js34 = p.1 ∧ Rp p.2 tt36) ?_ (fun z68 hh35 hq => ?_)
              · clear H
                have H := E67
                clear E67
                by_cases c37 : ¬ x16 = 0
                · rw [if_pos c37] at H
                  refine ex.t c37 ?_
                  obtain ⟨js38, E45, H⟩ := am_bd H
                  refine ex.j1 (Q := fun p => js38 = p) ?_ (fun z46 hq => ?_)
                  · clear H
                    have H := E45
                    clear E45
                    by_cases c39 : ¬ x16 = ((3 : Int32))
                    · rw [if_pos c39] at H
                      refine ex.t c39 ?_
                      obtain rfl := Option.some.inj H
                      exact ex.nd rfl
                    · rw [if_neg c39] at H
                      refine ex.f c39 ?_
                      obtain rfl := Option.some.inj H
                      exact ex.nd rfl
                  · clear E45
                    obtain rfl : js38 = z46 := hq
                    obtain ⟨x41, tt43, e40, H⟩ := am_bd2 H
                    refine ex.j2 (sX10_takeTold hR_tt30  e40) (fun z44 hh42 hz => ?_)
                    obtain ⟨rfl, hR_tt43⟩ : x41 = z44 ∧ Rp hh42 tt43 := hz
                    obtain ⟨rfl, rfl⟩ := am_inj2 H
                    exact ex.nd ⟨rfl, hR_tt43⟩
                · rw [if_neg c37] at H
                  refine ex.f c37 ?_
                  obtain ⟨rfl, rfl⟩ := am_inj2 H
                  exact ex.nd ⟨rfl, hR_tt30⟩
              · clear E67
                obtain ⟨rfl, hR_tt36⟩ : js34 = z68 ∧ Rp hh35 tt36 := hq
                obtain ⟨tt48, e49, H⟩ := am_bd H
                obtain ⟨hh47, e50, hR_tt48⟩ := r_sI hR_tt36 (la9_21 (a := 218) (by decide)) e49
                refine ex.bd e50 ?_
                refine ex.bd (r_gR hR_tt48 lk9 rfl) ?_
                obtain ⟨js52, tt54, E65, H⟩ := am_bd2 H
                refine ex.j2 (Q := fun p => js52 = p.1 ∧ Rp p.2 tt54) ?_ (fun z66 hh53 hq => ?_)
                · clear H
                  have H := E65
                  clear E65
                  by_cases c55 : ¬ x16 = ((1 : Int32))
                  · rw [if_pos c55] at H
                    refine ex.t c55 ?_
                    obtain ⟨rfl, rfl⟩ := am_inj2 H
                    exact ex.nd ⟨rfl, hR_tt48⟩
                  · rw [if_neg c55] at H
                    refine ex.f c55 ?_
                    obtain ⟨x57, tt59, e56, H⟩ := am_bd2 H
                    refine ex.j2 (sX10_takeTold hR_tt48  e56) (fun z60 hh58 hz => ?_)
                    obtain ⟨rfl, hR_tt59⟩ : x57 = z60 ∧ Rp hh58 tt59 := hz
                    obtain ⟨rfl, rfl⟩ := am_inj2 H
                    exact ex.nd ⟨rfl, hR_tt59⟩
                · clear E65
                  obtain ⟨rfl, hR_tt54⟩ : js52 = z66 ∧ Rp hh53 tt54 := hq
                  obtain ⟨tt62, e63, H⟩ := am_bd H
                  obtain ⟨hh61, e64, hR_tt62⟩ := r_sI hR_tt54 (la9_21 (a := 218) (by decide)) e63
                  refine ex.bd e64 ?_
                  obtain ⟨rfl, rfl⟩ := am_inj2 H
                  exact ex.nd ⟨rfl, hR_tt62⟩
            · rw [if_neg c22] at H
              refine ex.f c22 ?_
              obtain ⟨tt71, e69, H⟩ := am_bd H
              refine ex.j1 (sX10_wrong hR_t  e69) (fun hh70 hR_tt71 => ?_)
              obtain ⟨rfl, rfl⟩ := am_inj2 H
              exact ex.nd ⟨rfl, hR_tt71⟩
          · rw [if_neg c21] at H
            refine ex.f c21 ?_
            obtain ⟨tt74, e72, H⟩ := am_bd H
            refine ex.j1 (sX10_wrong hR_t  e72) (fun hh73 hR_tt74 => ?_)
            obtain ⟨rfl, rfl⟩ := am_inj2 H
            exact ex.nd ⟨rfl, hR_tt74⟩
        · clear E78
          obtain ⟨rfl, hR_tt20⟩ : jv18 = z79 ∧ Rp hh19 tt20 := hq
          obtain ⟨tt77, e75, H⟩ := am_bd H
          refine ex.j1 (sX10_takeSign hR_tt20  e75) (fun hh76 hR_tt77 => ?_)
          exact ih _ _ _ _ _ hR_tt77  H
set_option maxHeartbeats 4000000 in
set_option maxRecDepth 100000 in
theorem sX10_year_L178 : ∀ (n : Nat) (v1 : Int32) (v2 : Int32) (h : am_H) (t : tS) (t1 : tS), Rp h t → tX10_year_L178 n v1 v2 t = some t1 → ex (fX10_year_L178 n 218 v1 v2 h) (fun p => Rp p t1) := by
  intro n
  induction n with
  | zero => intro _ _ _ _ _ _ H; cases H
  | succ n ih =>
    intro v1 v2 h t t1 hR_t H
    rw [tX10_year_L178] at H
    rw [fX10_year_L178]
    by_cases c92 : (((3 : Int32)) * v1) ≤ v2
    · rw [if_pos c92] at H
      refine ex.t c92 ?_
      obtain rfl := Option.some.inj H
      exact ex.nd hR_t
    · rw [if_neg c92] at H
      refine ex.f c92 ?_
      refine ex.bd (r_gR hR_t lk9 rfl) ?_
      refine ex.bd (r_gR hR_t lk9 rfl) ?_
      obtain ⟨x95, e96, H⟩ := am_bd H
      refine ex.bd (r_aI hR_t (la9_21 (a := 218) (by decide)) e96) ?_
      obtain ⟨tt98, e99, H⟩ := am_bd H
      obtain ⟨hh97, e100, hR_tt98⟩ := r_sI hR_t (la9_21 (a := 218) (by decide)) e99
      refine ex.bd e100 ?_
      exact ih _ _ _ _ _ hR_tt98  H
set_option maxHeartbeats 4000000 in
set_option maxRecDepth 100000 in
theorem sX10_year  {h : am_H} {t : tS} {r : Int32} {t1 : tS} (hR_t : Rp h t)  (H : tX10_year  t = some (r, t1)) : ex (fX10_year 218 h) (fun p => r = p.1 ∧ Rp p.2 t1) := by
  unfold tX10_year at H
  unfold fX10_year
  refine ex.bd (r_isO hR_t lk9) ?_
  obtain ⟨tt2, et3, H⟩ := am_bd H
  obtain ⟨hh1, e4, hR_tt2⟩ := r_pI (k := 0) (x := (0 : Int32)) hR_t lk9 rfl rfl
  rw [Option.some.inj et3] at hR_tt2
  refine ex.bd e4 ?_
  obtain ⟨tt7, e5, H⟩ := am_bd H
  refine ex.j1 (sX10_cutAll hR_tt2  e5) (fun hh6 hR_tt7 => ?_)
  obtain ⟨lw80, tt82, E84, H⟩ := am_bd2 H
  refine ex.j2 (sX10_year_L11 _ _ _ _ _ _ hR_tt7  E84) (fun z83 hh81 hq => ?_)
  clear E84
  obtain ⟨rfl, hR_tt82⟩ : lw80 = z83 ∧ Rp hh81 tt82 := hq
  refine ex.bd (r_gI hR_tt82 lk9 rfl) ?_
  by_cases c86 : (tt82.1 218 8) ≤ 0
  · rw [if_pos c86] at H
    refine ex.t c86 ?_
    refine ex.bd (r_gR hR_tt82 lk9 rfl) ?_
    obtain ⟨tt89, e90, H⟩ := am_bd H
    obtain ⟨hh88, e91, hR_tt89⟩ := r_sI hR_tt82 (la9_21 (a := 218) (by decide)) e90
    refine ex.bd e91 ?_
    obtain ⟨tt102, E103, H⟩ := am_bd H
    refine ex.j1 (sX10_year_L178 _ _ _ _ _ _ hR_tt89  E103) (fun hh101 hq => ?_)
    clear E103
    have hR_tt102 : Rp hh101 tt102 := hq
    obtain ⟨rfl, rfl⟩ := am_inj2 H
    exact ex.nd ⟨rfl, hR_tt102⟩
  · rw [if_neg c86] at H
    refine ex.f c86 ?_
    refine ex.bd (r_gI hR_tt82 lk9 rfl) ?_
    obtain ⟨rfl, rfl⟩ := am_inj2 H
    exact ex.nd ⟨rfl, hR_tt82⟩
def tX10_both (a0 : Int32) (a1 : Int32) (a2 : Int32) (t : tS) : Option (Int32) :=
  if a0.toInt < 4 ∨ 9 < a0.toInt then
    Option.bind (
      if ¬ a1 = 0 then
        some ((1 : Int32))
      else
        if a2 = 0 then
          some ((0 : Int32))
        else
          some ((1 : Int32))) fun js4 =>
    some js4
  else (some (a0.toInt - 4).toNat).bind fun k2 =>
  if k2 = 0 then
    some (a1 + a2)
  else if k2 = 1 then
    some (a1 - a2)
  else if k2 = 2 then
    some (a1 * a2)
  else if k2 = 3 then
    Option.bind (
      if a2 ≤ a1 then
        some ((0 : Int32))
      else
        some ((1 : Int32))) fun js12 =>
    some js12
  else if k2 = 4 then
    Option.bind (
      if ¬ a1 = a2 then
        some ((0 : Int32))
      else
        some ((1 : Int32))) fun js17 =>
    some js17
  else if k2 = 5 then
    Option.bind (
      if a1 = 0 then
        some ((0 : Int32))
      else
        if a2 = 0 then
          some ((0 : Int32))
        else
          some ((1 : Int32))) fun js22 =>
    some js22
  else none
set_option maxHeartbeats 4000000 in
set_option maxRecDepth 100000 in
theorem sX10_both {a0 : Int32} {a1 : Int32} {a2 : Int32} {h : am_H} {t : tS} {r : Int32} (hR_t : Rp h t)  (H : tX10_both a0 a1 a2 t = some r) : ex (fX10_both a0 a1 a2 h) (fun x => r = x) := by
  unfold tX10_both at H
  unfold fX10_both
  by_cases c1 : a0.toInt < 4 ∨ 9 < a0.toInt
  · rw [if_pos c1] at H
    refine ex.t c1 ?_
    obtain ⟨js4, E7, H⟩ := am_bd H
    refine ex.j1 (Q := fun p => js4 = p) ?_ (fun z8 hq => ?_)
    · clear H
      have H := E7
      clear E7
      by_cases c5 : ¬ a1 = 0
      · rw [if_pos c5] at H
        refine ex.t c5 ?_
        obtain rfl := Option.some.inj H
        exact ex.nd rfl
      · rw [if_neg c5] at H
        refine ex.f c5 ?_
        by_cases c6 : a2 = 0
        · rw [if_pos c6] at H
          refine ex.t c6 ?_
          obtain rfl := Option.some.inj H
          exact ex.nd rfl
        · rw [if_neg c6] at H
          refine ex.f c6 ?_
          obtain rfl := Option.some.inj H
          exact ex.nd rfl
    · clear E7
      obtain rfl : js4 = z8 := hq
      obtain rfl := Option.some.inj H
      exact ex.nd rfl
  · rw [if_neg c1] at H
    refine ex.f c1 ?_
    obtain ⟨k2, e3, H⟩ := am_bd H
    refine ex.bd e3 ?_
    by_cases c9 : k2 = 0
    · rw [if_pos c9] at H
      refine ex.t c9 ?_
      obtain rfl := Option.some.inj H
      exact ex.nd rfl
    · rw [if_neg c9] at H
      refine ex.f c9 ?_
      by_cases c10 : k2 = 1
      · rw [if_pos c10] at H
        refine ex.t c10 ?_
        obtain rfl := Option.some.inj H
        exact ex.nd rfl
      · rw [if_neg c10] at H
        refine ex.f c10 ?_
        by_cases c11 : k2 = 2
        · rw [if_pos c11] at H
          refine ex.t c11 ?_
          obtain rfl := Option.some.inj H
          exact ex.nd rfl
        · rw [if_neg c11] at H
          refine ex.f c11 ?_
          by_cases c16 : k2 = 3
          · rw [if_pos c16] at H
            refine ex.t c16 ?_
            obtain ⟨js12, E14, H⟩ := am_bd H
            refine ex.j1 (Q := fun p => js12 = p) ?_ (fun z15 hq => ?_)
            · clear H
              have H := E14
              clear E14
              by_cases c13 : a2 ≤ a1
              · rw [if_pos c13] at H
                refine ex.t c13 ?_
                obtain rfl := Option.some.inj H
                exact ex.nd rfl
              · rw [if_neg c13] at H
                refine ex.f c13 ?_
                obtain rfl := Option.some.inj H
                exact ex.nd rfl
            · clear E14
              obtain rfl : js12 = z15 := hq
              obtain rfl := Option.some.inj H
              exact ex.nd rfl
          · rw [if_neg c16] at H
            refine ex.f c16 ?_
            by_cases c21 : k2 = 4
            · rw [if_pos c21] at H
              refine ex.t c21 ?_
              obtain ⟨js17, E19, H⟩ := am_bd H
              refine ex.j1 (Q := fun p => js17 = p) ?_ (fun z20 hq => ?_)
              · clear H
                have H := E19
                clear E19
                by_cases c18 : ¬ a1 = a2
                · rw [if_pos c18] at H
                  refine ex.t c18 ?_
                  obtain rfl := Option.some.inj H
                  exact ex.nd rfl
                · rw [if_neg c18] at H
                  refine ex.f c18 ?_
                  obtain rfl := Option.some.inj H
                  exact ex.nd rfl
              · clear E19
                obtain rfl : js17 = z20 := hq
                obtain rfl := Option.some.inj H
                exact ex.nd rfl
            · rw [if_neg c21] at H
              refine ex.f c21 ?_
              by_cases c27 : k2 = 5
              · rw [if_pos c27] at H
                refine ex.t c27 ?_
                obtain ⟨js22, E25, H⟩ := am_bd H
                refine ex.j1 (Q := fun p => js22 = p) ?_ (fun z26 hq => ?_)
                · clear H
                  have H := E25
                  clear E25
                  by_cases c23 : a1 = 0
                  · rw [if_pos c23] at H
                    refine ex.t c23 ?_
                    obtain rfl := Option.some.inj H
                    exact ex.nd rfl
                  · rw [if_neg c23] at H
                    refine ex.f c23 ?_
                    by_cases c24 : a2 = 0
                    · rw [if_pos c24] at H
                      refine ex.t c24 ?_
                      obtain rfl := Option.some.inj H
                      exact ex.nd rfl
                    · rw [if_neg c24] at H
                      refine ex.f c24 ?_
                      obtain rfl := Option.some.inj H
                      exact ex.nd rfl
                · clear E25
                  obtain rfl : js22 = z26 := hq
                  obtain rfl := Option.some.inj H
                  exact ex.nd rfl
              · rw [if_neg c27] at H
                refine ex.f c27 ?_
                cases H
def tX10_worthAt_L4 : Nat → Int32 → Int32 → tS → Option (tS)
  | 0, _, _, _ => none
  | n + 1, v2, v3, t =>
    (tA t 225 2200 v3).bind fun x2 =>
    if x2 = 0 then
      some t
    else
      (tA t 225 2200 v3).bind fun x6 =>
      am_b2 (
        if x6 = ((1 : Int32)) then
          Option.bind (
            if ¬ x6 = ((1 : Int32)) then
              (tA t 226 2200 v3).bind fun x17 =>
              (tA t 232 4 x17).bind fun x19 =>
              some x19
            else
              (tA t 226 2200 v3).bind fun x22 =>
              some x22) fun js13 =>
          (tWA t 0 233 1100 v2 js13).bind fun tt25 =>
          some (v2 + (1 : Int32), tt25)
        else
          if ¬ x6 = ((2 : Int32)) then
            if ¬ x6 = ((3 : Int32)) then
              (tA t 233 1100 ((v2 + (-1 : Int32)) - ((1 : Int32)))).bind fun x34 =>
              (tA t 233 1100 (v2 + (-1 : Int32))).bind fun x37 =>
              (tX10_both x6 x34 x37 t).bind fun x40 =>
              (tWA t 0 233 1100 ((v2 + (-1 : Int32)) - ((1 : Int32))) x40).bind fun tt43 =>
              some (v2 + (-1 : Int32), tt43)
            else
              (tA t 233 1100 (v2 - ((1 : Int32)))).bind fun x48 =>
              Option.bind (
                if ¬ x48 = 0 then
                  some ((0 : Int32))
                else
                  some ((1 : Int32))) fun js50 =>
              (tWA t 0 233 1100 (v2 - ((1 : Int32))) js50).bind fun tt53 =>
              some (v2, tt53)
          else
            Option.bind (
              if ¬ x6 = ((1 : Int32)) then
                (tA t 226 2200 v3).bind fun x63 =>
                (tA t 232 4 x63).bind fun x65 =>
                some x65
              else
                (tA t 226 2200 v3).bind fun x68 =>
                some x68) fun js59 =>
            (tWA t 0 233 1100 v2 js59).bind fun tt71 =>
            some (v2 + (1 : Int32), tt71)) fun jv8 tt10 =>
      tX10_worthAt_L4 n jv8 (v3 + (1 : Int32)) tt10
def tX10_worthAt (a1 : Int32) (t : tS) : Option (Int32 × tS) :=
  Option.bind (tX10_worthAt_L4 4000 ((0 : Int32)) a1 t) fun tt79 =>
  (tA tt79 233 1100 ((0 : Int32))).bind fun x82 =>
  some (x82, tt79)
set_option maxHeartbeats 4000000 in
set_option maxRecDepth 100000 in
theorem sX10_worthAt_L4 : ∀ (n : Nat) (v2 : Int32) (v3 : Int32) (h : am_H) (t : tS) (t1 : tS), Rp h t → tX10_worthAt_L4 n v2 v3 t = some t1 → ex (fX10_worthAt_L4 n 218 v2 v3 h) (fun p => Rp p t1) := by
  intro n
  induction n with
  | zero => intro _ _ _ _ _ _ H; cases H
  | succ n ih =>
    intro v2 v3 h t t1 hR_t H
    rw [tX10_worthAt_L4] at H
    rw [fX10_worthAt_L4]
    refine ex.bd (r_gR hR_t lk9 rfl) ?_
    obtain ⟨x2, e3, H⟩ := am_bd H
    refine ex.bd (r_aI hR_t (la9_11 (a := 218) (by decide)) e3) ?_
    by_cases c4 : x2 = 0
    · rw [if_pos c4] at H
      refine ex.t c4 ?_
      obtain rfl := Option.some.inj H
      exact ex.nd hR_t
    · rw [if_neg c4] at H
      refine ex.f c4 ?_
      refine ex.bd (r_gR hR_t lk9 rfl) ?_
      obtain ⟨x6, e7, H⟩ := am_bd H
      refine ex.bd (r_aI hR_t (la9_11 (a := 218) (by decide)) e7) ?_
      obtain ⟨jv8, tt10, E76, H⟩ := am_bd2 H
      refine ex.j2 (Q := fun p => jv8 = p.1 ∧ Rp p.2 tt10) ?_ (fun z77 hh9 hq => ?_)
      · clear H
        have H := E76
        clear E76
        by_cases c11 : x6 = ((1 : Int32))
        · rw [if_pos c11] at H
          refine ex.t c11 ?_
          refine ex.bd (r_gR hR_t lk9 rfl) ?_
          obtain ⟨js13, E28, H⟩ := am_bd H
          refine ex.j1 (Q := fun p => js13 = p) ?_ (fun z29 hq => ?_)
          · clear H
            have H := E28
            clear E28
            by_cases c14 : ¬ x6 = ((1 : Int32))
            · rw [if_pos c14] at H
              refine ex.t c14 ?_
              refine ex.bd (r_gR hR_t lk9 rfl) ?_
              refine ex.bd (r_gR hR_t lk9 rfl) ?_
              obtain ⟨x17, e18, H⟩ := am_bd H
              refine ex.bd (r_aI hR_t (la9_12 (a := 218) (by decide)) e18) ?_
              obtain ⟨x19, e20, H⟩ := am_bd H
              refine ex.bd (r_aI hR_t (la9_22 (a := 218) (by decide)) e20) ?_
              obtain rfl := Option.some.inj H
              exact ex.nd rfl
            · rw [if_neg c14] at H
              refine ex.f c14 ?_
              refine ex.bd (r_gR hR_t lk9 rfl) ?_
              obtain ⟨x22, e23, H⟩ := am_bd H
              refine ex.bd (r_aI hR_t (la9_12 (a := 218) (by decide)) e23) ?_
              obtain rfl := Option.some.inj H
              exact ex.nd rfl
          · clear E28
            obtain rfl : js13 = z29 := hq
            obtain ⟨tt25, e26, H⟩ := am_bd H
            obtain ⟨hh24, e27, hR_tt25⟩ := r_sI hR_t (la9_23 (a := 218) (by decide)) e26
            refine ex.bd e27 ?_
            obtain ⟨rfl, rfl⟩ := am_inj2 H
            exact ex.nd ⟨rfl, hR_tt25⟩
        · rw [if_neg c11] at H
          refine ex.f c11 ?_
          by_cases c30 : ¬ x6 = ((2 : Int32))
          · rw [if_pos c30] at H
            refine ex.t c30 ?_
            by_cases c31 : ¬ x6 = ((3 : Int32))
            · rw [if_pos c31] at H
              refine ex.t c31 ?_
              refine ex.bd (r_gR hR_t lk9 rfl) ?_
              refine ex.bd (r_gR hR_t lk9 rfl) ?_
              obtain ⟨x34, e35, H⟩ := am_bd H
              refine ex.bd (r_aI hR_t (la9_23 (a := 218) (by decide)) e35) ?_
              refine ex.bd (r_gR hR_t lk9 rfl) ?_
              obtain ⟨x37, e38, H⟩ := am_bd H
              refine ex.bd (r_aI hR_t (la9_23 (a := 218) (by decide)) e38) ?_
              obtain ⟨x40, e39, H⟩ := am_bd H
              refine ex.j1 (sX10_both hR_t  e39) (fun z41 hz => ?_)
              obtain rfl : x40 = z41 := hz
              obtain ⟨tt43, e44, H⟩ := am_bd H
              obtain ⟨hh42, e45, hR_tt43⟩ := r_sI hR_t (la9_23 (a := 218) (by decide)) e44
              refine ex.bd e45 ?_
              obtain ⟨rfl, rfl⟩ := am_inj2 H
              exact ex.nd ⟨rfl, hR_tt43⟩
            · rw [if_neg c31] at H
              refine ex.f c31 ?_
              refine ex.bd (r_gR hR_t lk9 rfl) ?_
              refine ex.bd (r_gR hR_t lk9 rfl) ?_
              obtain ⟨x48, e49, H⟩ := am_bd H
              refine ex.bd (r_aI hR_t (la9_23 (a := 218) (by decide)) e49) ?_
              obtain ⟨js50, E56, H⟩ := am_bd H
              refine ex.j1 (Q := fun p => js50 = p) ?_ (fun z57 hq => ?_)
              · clear H
                have H := E56
                clear E56
                by_cases c51 : ¬ x48 = 0
                · rw [if_pos c51] at H
                  refine ex.t c51 ?_
                  obtain rfl := Option.some.inj H
                  exact ex.nd rfl
                · rw [if_neg c51] at H
                  refine ex.f c51 ?_
                  obtain rfl := Option.some.inj H
                  exact ex.nd rfl
              · clear E56
                obtain rfl : js50 = z57 := hq
                obtain ⟨tt53, e54, H⟩ := am_bd H
                obtain ⟨hh52, e55, hR_tt53⟩ := r_sI hR_t (la9_23 (a := 218) (by decide)) e54
                refine ex.bd e55 ?_
                obtain ⟨rfl, rfl⟩ := am_inj2 H
                exact ex.nd ⟨rfl, hR_tt53⟩
          · rw [if_neg c30] at H
            refine ex.f c30 ?_
            refine ex.bd (r_gR hR_t lk9 rfl) ?_
            obtain ⟨js59, E74, H⟩ := am_bd H
            refine ex.j1 (Q := fun p => js59 = p) ?_ (fun z75 hq => ?_)
            · clear H
              have H := E74
              clear E74
              by_cases c60 : ¬ x6 = ((1 : Int32))
              · rw [if_pos c60] at H
                refine ex.t c60 ?_
                refine ex.bd (r_gR hR_t lk9 rfl) ?_
                refine ex.bd (r_gR hR_t lk9 rfl) ?_
                obtain ⟨x63, e64, H⟩ := am_bd H
                refine ex.bd (r_aI hR_t (la9_12 (a := 218) (by decide)) e64) ?_
                obtain ⟨x65, e66, H⟩ := am_bd H
                refine ex.bd (r_aI hR_t (la9_22 (a := 218) (by decide)) e66) ?_
                obtain rfl := Option.some.inj H
                exact ex.nd rfl
              · rw [if_neg c60] at H
                refine ex.f c60 ?_
                refine ex.bd (r_gR hR_t lk9 rfl) ?_
                obtain ⟨x68, e69, H⟩ := am_bd H
                refine ex.bd (r_aI hR_t (la9_12 (a := 218) (by decide)) e69) ?_
                obtain rfl := Option.some.inj H
                exact ex.nd rfl
            · clear E74
              obtain rfl : js59 = z75 := hq
              obtain ⟨tt71, e72, H⟩ := am_bd H
              obtain ⟨hh70, e73, hR_tt71⟩ := r_sI hR_t (la9_23 (a := 218) (by decide)) e72
              refine ex.bd e73 ?_
              obtain ⟨rfl, rfl⟩ := am_inj2 H
              exact ex.nd ⟨rfl, hR_tt71⟩
      · clear E76
        obtain ⟨rfl, hR_tt10⟩ : jv8 = z77 ∧ Rp hh9 tt10 := hq
        exact ih _ _ _ _ _ hR_tt10  H
set_option maxHeartbeats 4000000 in
set_option maxRecDepth 100000 in
theorem sX10_worthAt {a1 : Int32} {h : am_H} {t : tS} {r : Int32} {t1 : tS} (hR_t : Rp h t)  (H : tX10_worthAt a1 t = some (r, t1)) : ex (fX10_worthAt 218 a1 h) (fun p => r = p.1 ∧ Rp p.2 t1) := by
  unfold tX10_worthAt at H
  unfold fX10_worthAt
  refine ex.bd (r_isO hR_t lk9) ?_
  obtain ⟨tt79, E80, H⟩ := am_bd H
  refine ex.j1 (sX10_worthAt_L4 _ _ _ _ _ _ hR_t  E80) (fun hh78 hq => ?_)
  clear E80
  have hR_tt79 : Rp hh78 tt79 := hq
  refine ex.bd (r_gR hR_tt79 lk9 rfl) ?_
  obtain ⟨x82, e83, H⟩ := am_bd H
  refine ex.bd (r_aI hR_tt79 (la9_23 (a := 218) (by decide)) e83) ?_
  obtain ⟨rfl, rfl⟩ := am_inj2 H
  exact ex.nd ⟨rfl, hR_tt79⟩
def tX10_copies_L3 : Nat → Int32 → Int32 → Int32 → Int32 → tS → Option (tS)
  | 0, _, _, _, _, _ => none
  | n + 1, v1, v2, v3, v4, t =>
    if v3 ≤ v4 then
      some t
    else
      (tA t 234 1081 (v1 + v4)).bind fun x4 =>
      (tWA t 0 234 1081 (v2 + v4) x4).bind fun tt7 =>
      tX10_copies_L3 n v1 v2 v3 (v4 + (1 : Int32)) tt7
def tX10_copies (a1 : Int32) (a2 : Int32) (a3 : Int32) (t : tS) : Option (tS) :=
  Option.bind (tX10_copies_L3 4000 a1 a2 a3 ((0 : Int32)) t) fun tt11 =>
  some tt11
set_option maxHeartbeats 4000000 in
set_option maxRecDepth 100000 in
theorem sX10_copies_L3 : ∀ (n : Nat) (v1 : Int32) (v2 : Int32) (v3 : Int32) (v4 : Int32) (h : am_H) (t : tS) (t1 : tS), Rp h t → tX10_copies_L3 n v1 v2 v3 v4 t = some t1 → ex (fX10_copies_L3 n 218 v1 v2 v3 v4 h) (fun p => Rp p t1) := by
  intro n
  induction n with
  | zero => intro _ _ _ _ _ _ _ _ H; cases H
  | succ n ih =>
    intro v1 v2 v3 v4 h t t1 hR_t H
    rw [tX10_copies_L3] at H
    rw [fX10_copies_L3]
    by_cases c1 : v3 ≤ v4
    · rw [if_pos c1] at H
      refine ex.t c1 ?_
      obtain rfl := Option.some.inj H
      exact ex.nd hR_t
    · rw [if_neg c1] at H
      refine ex.f c1 ?_
      refine ex.bd (r_gR hR_t lk9 rfl) ?_
      refine ex.bd (r_gR hR_t lk9 rfl) ?_
      obtain ⟨x4, e5, H⟩ := am_bd H
      refine ex.bd (r_aI hR_t (la9_24 (a := 218) (by decide)) e5) ?_
      obtain ⟨tt7, e8, H⟩ := am_bd H
      obtain ⟨hh6, e9, hR_tt7⟩ := r_sI hR_t (la9_24 (a := 218) (by decide)) e8
      refine ex.bd e9 ?_
      exact ih _ _ _ _ _ _ _ hR_tt7  H
set_option maxHeartbeats 4000000 in
set_option maxRecDepth 100000 in
theorem sX10_copies {a1 : Int32} {a2 : Int32} {a3 : Int32} {h : am_H} {t : tS} {t1 : tS} (hR_t : Rp h t)  (H : tX10_copies a1 a2 a3 t = some t1) : ex (fX10_copies 218 a1 a2 a3 h) (fun h1 => Rp h1 t1) := by
  unfold tX10_copies at H
  unfold fX10_copies
  refine ex.bd (r_isO hR_t lk9) ?_
  obtain ⟨tt11, E12, H⟩ := am_bd H
  refine ex.j1 (sX10_copies_L3 _ _ _ _ _ _ _ _ hR_t  E12) (fun hh10 hq => ?_)
  clear E12
  have hR_tt11 : Rp hh10 tt11 := hq
  obtain rfl := Option.some.inj H
  exact ex.nd hR_tt11
def tX10_keeps_L11 : Nat → Int32 → tS → Option (tS)
  | 0, _, _ => none
  | n + 1, v1, t =>
    if ((16 : Int32)) ≤ v1 then
      some t
    else
      (tX10_copies (((47 : Int32)) * (((5 : Int32)) + v1)) (((47 : Int32)) * ((((5 : Int32)) + v1) - ((1 : Int32)))) ((30 : Int32)) t).bind fun tt8 =>
      tX10_keeps_L11 n (v1 + (1 : Int32)) tt8
def tX10_keeps  (t : tS) : Option (tS) :=
  Option.bind (
    if ¬ (t.1 218 25) = ((16 : Int32)) then
      some t
    else
      Option.bind (tX10_keeps_L11 4000 ((1 : Int32)) t) fun tt10 =>
      (some (uI tt10 218 25 ((tt10.1 218 25) - ((1 : Int32))))).bind fun tt14 =>
      some tt14) fun tt3 =>
  (tX10_copies ((0 : Int32)) (((47 : Int32)) * (((5 : Int32)) + (tt3.1 218 25))) ((30 : Int32)) tt3).bind fun tt20 =>
  (some (uI tt20 218 25 ((tt20.1 218 25) + ((1 : Int32))))).bind fun tt23 =>
  some tt23
set_option maxHeartbeats 4000000 in
set_option maxRecDepth 100000 in
theorem sX10_keeps_L11 : ∀ (n : Nat) (v1 : Int32) (h : am_H) (t : tS) (t1 : tS), Rp h t → tX10_keeps_L11 n v1 t = some t1 → ex (fX10_keeps_L11 n 218 v1 h) (fun p => Rp p t1) := by
  intro n
  induction n with
  | zero => intro _ _ _ _ _ H; cases H
  | succ n ih =>
    intro v1 h t t1 hR_t H
    rw [tX10_keeps_L11] at H
    rw [fX10_keeps_L11]
    by_cases c5 : ((16 : Int32)) ≤ v1
    · rw [if_pos c5] at H
      refine ex.t c5 ?_
      obtain rfl := Option.some.inj H
      exact ex.nd hR_t
    · rw [if_neg c5] at H
      refine ex.f c5 ?_
      obtain ⟨tt8, e6, H⟩ := am_bd H
      refine ex.j1 (sX10_copies hR_t  e6) (fun hh7 hR_tt8 => ?_)
      exact ih _ _ _ _ hR_tt8  H
set_option maxHeartbeats 4000000 in
set_option maxRecDepth 100000 in
theorem sX10_keeps  {h : am_H} {t : tS} {t1 : tS} (hR_t : Rp h t)  (H : tX10_keeps  t = some t1) : ex (fX10_keeps 218 h) (fun h1 => Rp h1 t1) := by
  unfold tX10_keeps at H
  unfold fX10_keeps
  refine ex.bd (r_isO hR_t lk9) ?_
  refine ex.bd (r_gI hR_t lk9 rfl) ?_
  obtain ⟨tt3, E26, H⟩ := am_bd H
  refine ex.j1 (Q := fun p => Rp p tt3) ?_ (fun hh2 hq => ?_)
  · clear H
    have H := E26
    clear E26
    by_cases c4 : ¬ (t.1 218 25) = ((16 : Int32))
    · rw [if_pos c4] at H
      refine ex.t c4 ?_
      obtain rfl := Option.some.inj H
      exact ex.nd hR_t
    · rw [if_neg c4] at H
      refine ex.f c4 ?_
      obtain ⟨tt10, E11, H⟩ := am_bd H
      refine ex.j1 (sX10_keeps_L11 _ _ _ _ _ hR_t  E11) (fun hh9 hq => ?_)
      clear E11
      have hR_tt10 : Rp hh9 tt10 := hq
      refine ex.bd (r_gI hR_tt10 lk9 rfl) ?_
      obtain ⟨tt14, et15, H⟩ := am_bd H
      obtain ⟨hh13, e16, hR_tt14⟩ := r_pI (k := 25) (x := (tt10.1 218 25) - ((1 : Int32))) hR_tt10 lk9 rfl rfl
      rw [Option.some.inj et15] at hR_tt14
      refine ex.bd e16 ?_
      obtain rfl := Option.some.inj H
      exact ex.nd hR_tt14
  · clear E26
    have hR_tt3 : Rp hh2 tt3 := hq
    refine ex.bd (r_gI hR_tt3 lk9 rfl) ?_
    obtain ⟨tt20, e18, H⟩ := am_bd H
    refine ex.j1 (sX10_copies hR_tt3  e18) (fun hh19 hR_tt20 => ?_)
    refine ex.bd (r_gI hR_tt20 lk9 rfl) ?_
    obtain ⟨tt23, et24, H⟩ := am_bd H
    obtain ⟨hh22, e25, hR_tt23⟩ := r_pI (k := 25) (x := (tt20.1 218 25) + ((1 : Int32))) hR_tt20 lk9 rfl rfl
    rw [Option.some.inj et24] at hR_tt23
    refine ex.bd e25 ?_
    obtain rfl := Option.some.inj H
    exact ex.nd hR_tt23
def tX10_isHouse (a1 : Int32) (t : tS) : Option (Int32) :=
  Option.bind (
    if a1 < 0 then
      some ((0 : Int32))
    else
      (tX10_houses  t).bind fun x4 =>
      if x4 ≤ a1 then
        some ((0 : Int32))
      else
        some ((1 : Int32))) fun js1 =>
  (am_z01 js1).bind fun b7 =>
  some b7
set_option maxHeartbeats 4000000 in
set_option maxRecDepth 100000 in
theorem sX10_isHouse {a1 : Int32} {h : am_H} {t : tS} {r : Int32} (hR_t : Rp h t)  (H : tX10_isHouse a1 t = some r) : ex (fX10_isHouse 218 a1 h) (fun x => r = x) := by
  unfold tX10_isHouse at H
  unfold fX10_isHouse
  refine ex.bd (r_isO hR_t lk9) ?_
  obtain ⟨js1, E9, H⟩ := am_bd H
  refine ex.j1 (Q := fun p => js1 = p) ?_ (fun z10 hq => ?_)
  · clear H
    have H := E9
    clear E9
    by_cases c2 : a1 < 0
    · rw [if_pos c2] at H
      refine ex.t c2 ?_
      obtain rfl := Option.some.inj H
      exact ex.nd rfl
    · rw [if_neg c2] at H
      refine ex.f c2 ?_
      obtain ⟨x4, e3, H⟩ := am_bd H
      refine ex.j1 (sX10_houses hR_t  e3) (fun z5 hz => ?_)
      obtain rfl : x4 = z5 := hz
      by_cases c6 : x4 ≤ a1
      · rw [if_pos c6] at H
        refine ex.t c6 ?_
        obtain rfl := Option.some.inj H
        exact ex.nd rfl
      · rw [if_neg c6] at H
        refine ex.f c6 ?_
        obtain rfl := Option.some.inj H
        exact ex.nd rfl
  · clear E9
    obtain rfl : js1 = z10 := hq
    obtain ⟨b7, e8, H⟩ := am_bd H
    refine ex.bd e8 ?_
    obtain rfl := Option.some.inj H
    exact ex.nd rfl
def tX10_isDay (a1 : Int32) (t : tS) : Option (Int32) :=
  Option.bind (
    if a1 < 0 then
      some ((0 : Int32))
    else
      (tX10_days  t).bind fun x4 =>
      if x4 ≤ a1 then
        some ((0 : Int32))
      else
        some ((1 : Int32))) fun js1 =>
  (am_z01 js1).bind fun b7 =>
  some b7
set_option maxHeartbeats 4000000 in
set_option maxRecDepth 100000 in
theorem sX10_isDay {a1 : Int32} {h : am_H} {t : tS} {r : Int32} (hR_t : Rp h t)  (H : tX10_isDay a1 t = some r) : ex (fX10_isDay 218 a1 h) (fun x => r = x) := by
  unfold tX10_isDay at H
  unfold fX10_isDay
  refine ex.bd (r_isO hR_t lk9) ?_
  obtain ⟨js1, E9, H⟩ := am_bd H
  refine ex.j1 (Q := fun p => js1 = p) ?_ (fun z10 hq => ?_)
  · clear H
    have H := E9
    clear E9
    by_cases c2 : a1 < 0
    · rw [if_pos c2] at H
      refine ex.t c2 ?_
      obtain rfl := Option.some.inj H
      exact ex.nd rfl
    · rw [if_neg c2] at H
      refine ex.f c2 ?_
      obtain ⟨x4, e3, H⟩ := am_bd H
      refine ex.j1 (sX10_days hR_t  e3) (fun z5 hz => ?_)
      obtain rfl : x4 = z5 := hz
      by_cases c6 : x4 ≤ a1
      · rw [if_pos c6] at H
        refine ex.t c6 ?_
        obtain rfl := Option.some.inj H
        exact ex.nd rfl
      · rw [if_neg c6] at H
        refine ex.f c6 ?_
        obtain rfl := Option.some.inj H
        exact ex.nd rfl
  · clear E9
    obtain rfl : js1 = z10 := hq
    obtain ⟨b7, e8, H⟩ := am_bd H
    refine ex.bd e8 ?_
    obtain rfl := Option.some.inj H
    exact ex.nd rfl
def tX10_widthOf (a1 : Int32) (t : tS) : Option (Int32) :=
  (tX10_dayOf a1 ((0 : Int32)) t).bind fun x2 =>
  Option.bind (
    if ¬ x2 = ((1 : Int32)) then
      some ((1 : Int32))
    else
      some ((2 : Int32))) fun js4 =>
  some js4
set_option maxHeartbeats 4000000 in
set_option maxRecDepth 100000 in
theorem sX10_widthOf {a1 : Int32} {h : am_H} {t : tS} {r : Int32} (hR_t : Rp h t)  (H : tX10_widthOf a1 t = some r) : ex (fX10_widthOf 218 a1 h) (fun x => r = x) := by
  unfold tX10_widthOf at H
  unfold fX10_widthOf
  refine ex.bd (r_isO hR_t lk9) ?_
  obtain ⟨x2, e1, H⟩ := am_bd H
  refine ex.j1 (sX10_dayOf hR_t  e1) (fun z3 hz => ?_)
  obtain rfl : x2 = z3 := hz
  obtain ⟨js4, E6, H⟩ := am_bd H
  refine ex.j1 (Q := fun p => js4 = p) ?_ (fun z7 hq => ?_)
  · clear H
    have H := E6
    clear E6
    by_cases c5 : ¬ x2 = ((1 : Int32))
    · rw [if_pos c5] at H
      refine ex.t c5 ?_
      obtain rfl := Option.some.inj H
      exact ex.nd rfl
    · rw [if_neg c5] at H
      refine ex.f c5 ?_
      obtain rfl := Option.some.inj H
      exact ex.nd rfl
  · clear E6
    obtain rfl : js4 = z7 := hq
    obtain rfl := Option.some.inj H
    exact ex.nd rfl
def tX10_inHouse_L5 : Nat → Int32 → Int32 → Int32 → Int32 → tS → Option (Int32)
  | 0, _, _, _, _, _ => none
  | n + 1, v1, v2, v3, v4, t =>
    (tX10_days  t).bind fun x2 =>
    if x2 ≤ v4 then
      some v3
    else
      (tA t 234 1081 ((v1 + ((6 : Int32))) + v4)).bind fun x6 =>
      Option.bind (
        if ¬ x6 = v2 then
          some ((0 : Int32))
        else
          some (((1 : Int32)) <<< (v4 &&& 31))) fun js8 =>
      tX10_inHouse_L5 n v1 v2 (v3 ||| js8) (v4 + (1 : Int32)) t
def tX10_inHouse (a1 : Int32) (a2 : Int32) (t : tS) : Option (Int32) :=
  Option.bind (tX10_inHouse_L5 4000 a1 a2 ((0 : Int32)) ((0 : Int32)) t) fun lw12 =>
  some lw12
set_option maxHeartbeats 4000000 in
set_option maxRecDepth 100000 in
theorem sX10_inHouse_L5 : ∀ (n : Nat) (v1 : Int32) (v2 : Int32) (v3 : Int32) (v4 : Int32) (h : am_H) (t : tS) (w3 : Int32), Rp h t → tX10_inHouse_L5 n v1 v2 v3 v4 t = some w3 → ex (fX10_inHouse_L5 n 218 v1 v2 v3 v4 h) (fun p => w3 = p) := by
  intro n
  induction n with
  | zero => intro _ _ _ _ _ _ _ _ H; cases H
  | succ n ih =>
    intro v1 v2 v3 v4 h t w3 hR_t H
    rw [tX10_inHouse_L5] at H
    rw [fX10_inHouse_L5]
    obtain ⟨x2, e1, H⟩ := am_bd H
    refine ex.j1 (sX10_days hR_t  e1) (fun z3 hz => ?_)
    obtain rfl : x2 = z3 := hz
    by_cases c4 : x2 ≤ v4
    · rw [if_pos c4] at H
      refine ex.t c4 ?_
      obtain rfl := Option.some.inj H
      exact ex.nd rfl
    · rw [if_neg c4] at H
      refine ex.f c4 ?_
      refine ex.bd (r_gR hR_t lk9 rfl) ?_
      obtain ⟨x6, e7, H⟩ := am_bd H
      refine ex.bd (r_aI hR_t (la9_24 (a := 218) (by decide)) e7) ?_
      obtain ⟨js8, E10, H⟩ := am_bd H
      refine ex.j1 (Q := fun p => js8 = p) ?_ (fun z11 hq => ?_)
      · clear H
        have H := E10
        clear E10
        by_cases c9 : ¬ x6 = v2
        · rw [if_pos c9] at H
          refine ex.t c9 ?_
          obtain rfl := Option.some.inj H
          exact ex.nd rfl
        · rw [if_neg c9] at H
          refine ex.f c9 ?_
          obtain rfl := Option.some.inj H
          exact ex.nd rfl
      · clear E10
        obtain rfl : js8 = z11 := hq
        exact ih _ _ _ _ _ _ _ hR_t  H
set_option maxHeartbeats 4000000 in
set_option maxRecDepth 100000 in
theorem sX10_inHouse {a1 : Int32} {a2 : Int32} {h : am_H} {t : tS} {r : Int32} (hR_t : Rp h t)  (H : tX10_inHouse a1 a2 t = some r) : ex (fX10_inHouse 218 a1 a2 h) (fun x => r = x) := by
  unfold tX10_inHouse at H
  unfold fX10_inHouse
  refine ex.bd (r_isO hR_t lk9) ?_
  obtain ⟨lw12, E14, H⟩ := am_bd H
  refine ex.j1 (sX10_inHouse_L5 _ _ _ _ _ _ _ _ hR_t  E14) (fun z13 hq => ?_)
  clear E14
  obtain rfl : lw12 = z13 := hq
  obtain rfl := Option.some.inj H
  exact ex.nd rfl
def tX10_freeOf_L14 : Nat → Int32 → Int32 → Int32 → Int32 → tS → Option (Int32)
  | 0, _, _, _, _, _ => none
  | n + 1, v1, v2, v3, v4, t =>
    (tX10_days  t).bind fun x5 =>
    if x5 ≤ v4 then
      some v3
    else
      (tA t 234 1081 ((v1 + ((6 : Int32))) + v4)).bind fun x9 =>
      Option.bind (
        if ¬ x9 = v2 then
          some ((0 : Int32))
        else
          (tX10_widthOf v4 t).bind fun x14 =>
          some x14) fun js11 =>
      tX10_freeOf_L14 n v1 v2 (v3 - js11) (v4 + (1 : Int32)) t
def tX10_freeOf (a1 : Int32) (a2 : Int32) (t : tS) : Option (Int32) :=
  (tA t 234 1081 ((a1 + ((2 : Int32))) + a2)).bind fun x2 =>
  Option.bind (tX10_freeOf_L14 4000 a1 a2 x2 ((0 : Int32)) t) fun lw18 =>
  some lw18
set_option maxHeartbeats 4000000 in
set_option maxRecDepth 100000 in
theorem sX10_freeOf_L14 : ∀ (n : Nat) (v1 : Int32) (v2 : Int32) (v3 : Int32) (v4 : Int32) (h : am_H) (t : tS) (w3 : Int32), Rp h t → tX10_freeOf_L14 n v1 v2 v3 v4 t = some w3 → ex (fX10_freeOf_L14 n 218 v1 v2 v3 v4 h) (fun p => w3 = p) := by
  intro n
  induction n with
  | zero => intro _ _ _ _ _ _ _ _ H; cases H
  | succ n ih =>
    intro v1 v2 v3 v4 h t w3 hR_t H
    rw [tX10_freeOf_L14] at H
    rw [fX10_freeOf_L14]
    obtain ⟨x5, e4, H⟩ := am_bd H
    refine ex.j1 (sX10_days hR_t  e4) (fun z6 hz => ?_)
    obtain rfl : x5 = z6 := hz
    by_cases c7 : x5 ≤ v4
    · rw [if_pos c7] at H
      refine ex.t c7 ?_
      obtain rfl := Option.some.inj H
      exact ex.nd rfl
    · rw [if_neg c7] at H
      refine ex.f c7 ?_
      refine ex.bd (r_gR hR_t lk9 rfl) ?_
      obtain ⟨x9, e10, H⟩ := am_bd H
      refine ex.bd (r_aI hR_t (la9_24 (a := 218) (by decide)) e10) ?_
      obtain ⟨js11, E16, H⟩ := am_bd H
      refine ex.j1 (Q := fun p => js11 = p) ?_ (fun z17 hq => ?_)
      · clear H
        have H := E16
        clear E16
        by_cases c12 : ¬ x9 = v2
        · rw [if_pos c12] at H
          refine ex.t c12 ?_
          obtain rfl := Option.some.inj H
          exact ex.nd rfl
        · rw [if_neg c12] at H
          refine ex.f c12 ?_
          obtain ⟨x14, e13, H⟩ := am_bd H
          refine ex.j1 (sX10_widthOf hR_t  e13) (fun z15 hz => ?_)
          obtain rfl : x14 = z15 := hz
          obtain rfl := Option.some.inj H
          exact ex.nd rfl
      · clear E16
        obtain rfl : js11 = z17 := hq
        exact ih _ _ _ _ _ _ _ hR_t  H
set_option maxHeartbeats 4000000 in
set_option maxRecDepth 100000 in
theorem sX10_freeOf {a1 : Int32} {a2 : Int32} {h : am_H} {t : tS} {r : Int32} (hR_t : Rp h t)  (H : tX10_freeOf a1 a2 t = some r) : ex (fX10_freeOf 218 a1 a2 h) (fun x => r = x) := by
  unfold tX10_freeOf at H
  unfold fX10_freeOf
  refine ex.bd (r_isO hR_t lk9) ?_
  refine ex.bd (r_gR hR_t lk9 rfl) ?_
  obtain ⟨x2, e3, H⟩ := am_bd H
  refine ex.bd (r_aI hR_t (la9_24 (a := 218) (by decide)) e3) ?_
  obtain ⟨lw18, E20, H⟩ := am_bd H
  refine ex.j1 (sX10_freeOf_L14 _ _ _ _ _ _ _ _ hR_t  E20) (fun z19 hq => ?_)
  clear E20
  obtain rfl : lw18 = z19 := hq
  obtain rfl := Option.some.inj H
  exact ex.nd rfl
