/-! typed functions -/
def tX9_refused_L24 : Nat → Int32 → Int32 → tS → Option ((tS) ⊕ (Int32 × tS))
  | 0, _, _, _ => none
  | n + 1, v1, v2, t =>
    if ((60 : Int32)) < v2 then
      some (.inl t)
    else
      (tX6_passDate 10 (t.2.2.2.2 0 9) t).bind fun tt17 =>
      if (tt17.1 10 10) = 0 then
        tX9_refused_L24 n v1 (v2 + (1 : Int32)) tt17
      else
        Option.bind (
          if ¬ v1 = 0 then
            (tJ6_numberOfTrailingZeros_0f7a4 (tt17.1 10 10) tt17).bind fun x26 =>
            some x26
          else
            some v2) fun js21 =>
        some (.inr (js21, tt17))
def tX9_refused (a1 : Int32) (t : tS) : Option (Int32 × tS) :=
  (tX9_within a1 ((0 : Int32)) ((1 : Int32)) t).bind fun x2 =>
  if ¬ x2 = 0 then
    (tX6_copyFrom 10 3 t).bind fun tt9 =>
    (tX9_refused_L24 4000 a1 ((1 : Int32)) tt9).bind fun o33 => match o33 with
      | .inl tt31 =>
        some ((-1 : Int32), tt31)
      | .inr y34 => some y34
  else
    some ((-1 : Int32), t)
set_option maxHeartbeats 4000000 in
set_option maxRecDepth 100000 in
theorem sX9_refused_L24 : ∀ (n : Nat) (v1 : Int32) (v2 : Int32) (h : am_H) (t : tS) (o : (tS) ⊕ (Int32 × tS)), Rp h t → tX9_refused_L24 n v1 v2 t = some o → ex (fX9_refused_L24 n 0 v1 v2 h) (fun p => match o, p with
    | .inl t1, .inl h1 => Rp h1 t1
    | .inr y, .inr z => y.1 = z.1 ∧ Rp z.2 y.2
    | _, _ => False) := by
  intro n
  induction n with
  | zero => intro _ _ _ _ _ _ H; cases H
  | succ n ih =>
    intro v1 v2 h t o hR_t H
    rw [tX9_refused_L24] at H
    rw [fX9_refused_L24]
    by_cases c10 : ((60 : Int32)) < v2
    · rw [if_pos c10] at H
      refine ex.t c10 ?_
      obtain rfl := Option.some.inj H
      exact ex.nd hR_t
    · rw [if_neg c10] at H
      refine ex.f c10 ?_
      refine ex.bd (r_gR hR_t lk8 rfl) ?_
      obtain ⟨eD13, iD14⟩ := r_gD hR_t (k := 9) (by decide) (by decide)
      refine ex.bd eD13 ?_
      obtain ⟨tt17, e15, H⟩ := am_bd H
      refine ex.j1 (sX6_passDate hR_t (show ly_Is 5 10 by decide) iD14 e15) (fun hh16 hR_tt17 => ?_)
      refine ex.bd (r_gR hR_tt17 lk8 rfl) ?_
      refine ex.bd (r_gI hR_tt17 (lc5 (show ly_Is 5 10 by decide)) rfl) ?_
      by_cases c20 : (tt17.1 10 10) = 0
      · rw [if_pos c20] at H
        refine ex.t c20 ?_
        exact ih _ _ _ _ _ hR_tt17  H
      · rw [if_neg c20] at H
        refine ex.f c20 ?_
        obtain ⟨js21, E28, H⟩ := am_bd H
        refine ex.j1 (Q := fun p => js21 = p) ?_ (fun z29 hq => ?_)
        · clear H
          have H := E28
          clear E28
          by_cases c22 : ¬ v1 = 0
          · rw [if_pos c22] at H
            refine ex.t c22 ?_
            refine ex.bd (r_gR hR_tt17 lk8 rfl) ?_
            refine ex.bd (r_gI hR_tt17 (lc5 (show ly_Is 5 10 by decide)) rfl) ?_
            obtain ⟨x26, e25, H⟩ := am_bd H
            refine ex.j1 (sJ6_numberOfTrailingZeros_0f7a4 hR_tt17  e25) (fun z27 hz => ?_)
            obtain rfl : x26 = z27 := hz
            obtain rfl := Option.some.inj H
            exact ex.nd rfl
          · rw [if_neg c22] at H
            refine ex.f c22 ?_
            obtain rfl := Option.some.inj H
            exact ex.nd rfl
        · clear E28
          obtain rfl : js21 = z29 := hq
          obtain rfl := Option.some.inj H
          exact ex.nd ⟨rfl, hR_tt17⟩
set_option maxHeartbeats 4000000 in
set_option maxRecDepth 100000 in
theorem sX9_refused {a1 : Int32} {h : am_H} {t : tS} {r : Int32} {t1 : tS} (hR_t : Rp h t)  (H : tX9_refused a1 t = some (r, t1)) : ex (fX9_refused 0 a1 h) (fun p => r = p.1 ∧ Rp p.2 t1) := by
  unfold tX9_refused at H
  unfold fX9_refused
  refine ex.bd (r_isO hR_t lk8) ?_
  obtain ⟨x2, e1, H⟩ := am_bd H
  refine ex.j1 (sX9_within hR_t  e1) (fun z3 hz => ?_)
  obtain rfl : x2 = z3 := hz
  by_cases c4 : ¬ x2 = 0
  · rw [if_pos c4] at H
    refine ex.t c4 ?_
    refine ex.bd (r_gR hR_t lk8 rfl) ?_
    refine ex.bd (r_gR hR_t lk8 rfl) ?_
    obtain ⟨tt9, e7, H⟩ := am_bd H
    refine ex.j1 (sX6_copyFrom hR_t (show ly_Is 5 10 by decide) (show ly_Is 5 3 by decide) e7) (fun hh8 hR_tt9 => ?_)
    obtain ⟨o33, E32, H⟩ := am_bd H
    refine ex.j1 (sX9_refused_L24 _ _ _ _ _ _ hR_tt9  E32) (fun p35 hq => ?_)
    clear E32
    rcases o33 with tt31 | y34
    · rcases p35 with hh30 | z36
      · dsimp only at H hq ⊢
        have hR_tt31 : Rp hh30 tt31 := hq
        obtain ⟨rfl, rfl⟩ := am_inj2 H
        exact ex.nd ⟨rfl, hR_tt31⟩
      · exact hq.elim
    · rcases p35 with _ | z36
      · exact hq.elim
      · dsimp only at H ⊢
        obtain rfl := Option.some.inj H
        exact ex.nd hq
  · rw [if_neg c4] at H
    refine ex.f c4 ?_
    obtain ⟨rfl, rfl⟩ := am_inj2 H
    exact ex.nd ⟨rfl, hR_t⟩
def tX9_meets_L36 : Nat → Int32 → Int32 → Int32 → tS → Option ((tS) ⊕ (Int32 × tS))
  | 0, _, _, _, _ => none
  | n + 1, v1, v2, v3, t =>
    if ((60 : Int32)) < v3 then
      some (.inl t)
    else
      (tA t 14 6 v1).bind fun x18 =>
      if x18 = ((-1 : Int32)) then
        (tX6_passDate 10 (t.2.2.2.2 0 9) t).bind fun tt27 =>
        tX9_meets_L36 n v1 v2 (v3 + (1 : Int32)) tt27
      else
        (tA t 14 6 v1).bind fun x30 =>
        (tA t 14 6 v2).bind fun x34 =>
        if ¬ x30 = x34 then
          (tX6_passDate 10 (t.2.2.2.2 0 9) t).bind fun tt43 =>
          tX9_meets_L36 n v1 v2 (v3 + (1 : Int32)) tt43
        else
          some (.inr (v3, t))
def tX9_meets (a1 : Int32) (a2 : Int32) (t : tS) : Option (Int32 × tS) :=
  (tX9_isDay a1 t).bind fun x2 =>
  if x2 = 0 then
    some ((-1 : Int32), t)
  else
    (tX9_isDay a2 t).bind fun x6 =>
    if x6 = 0 then
      some ((-1 : Int32), t)
    else
      if ¬ a1 = a2 then
        (tX6_copyFrom 10 3 t).bind fun tt14 =>
        (tX9_meets_L36 4000 a1 a2 ((0 : Int32)) tt14).bind fun o47 => match o47 with
          | .inl tt45 =>
            some ((-1 : Int32), tt45)
          | .inr y48 => some y48
      else
        some ((-1 : Int32), t)
set_option maxHeartbeats 4000000 in
set_option maxRecDepth 100000 in
theorem sX9_meets_L36 : ∀ (n : Nat) (v1 : Int32) (v2 : Int32) (v3 : Int32) (h : am_H) (t : tS) (o : (tS) ⊕ (Int32 × tS)), Rp h t → tX9_meets_L36 n v1 v2 v3 t = some o → ex (fX9_meets_L36 n 0 v1 v2 v3 h) (fun p => match o, p with
    | .inl t1, .inl h1 => Rp h1 t1
    | .inr y, .inr z => y.1 = z.1 ∧ Rp z.2 y.2
    | _, _ => False) := by
  intro n
  induction n with
  | zero => intro _ _ _ _ _ _ _ H; cases H
  | succ n ih =>
    intro v1 v2 v3 h t o hR_t H
    rw [tX9_meets_L36] at H
    rw [fX9_meets_L36]
    by_cases c15 : ((60 : Int32)) < v3
    · rw [if_pos c15] at H
      refine ex.t c15 ?_
      obtain rfl := Option.some.inj H
      exact ex.nd hR_t
    · rw [if_neg c15] at H
      refine ex.f c15 ?_
      refine ex.bd (r_gR hR_t lk8 rfl) ?_
      refine ex.bd (r_gR hR_t (lc5 (show ly_Is 5 10 by decide)) rfl) ?_
      obtain ⟨x18, e19, H⟩ := am_bd H
      refine ex.bd (r_aI hR_t (la5_3 (show ly_Is 5 10 by decide)) e19) ?_
      by_cases c20 : x18 = ((-1 : Int32))
      · rw [if_pos c20] at H
        refine ex.t c20 ?_
        refine ex.bd (r_gR hR_t lk8 rfl) ?_
        obtain ⟨eD23, iD24⟩ := r_gD hR_t (k := 9) (by decide) (by decide)
        refine ex.bd eD23 ?_
        obtain ⟨tt27, e25, H⟩ := am_bd H
        refine ex.j1 (sX6_passDate hR_t (show ly_Is 5 10 by decide) iD24 e25) (fun hh26 hR_tt27 => ?_)
        exact ih _ _ _ _ _ _ hR_tt27  H
      · rw [if_neg c20] at H
        refine ex.f c20 ?_
        refine ex.bd (r_gR hR_t lk8 rfl) ?_
        refine ex.bd (r_gR hR_t (lc5 (show ly_Is 5 10 by decide)) rfl) ?_
        obtain ⟨x30, e31, H⟩ := am_bd H
        refine ex.bd (r_aI hR_t (la5_3 (show ly_Is 5 10 by decide)) e31) ?_
        refine ex.bd (r_gR hR_t lk8 rfl) ?_
        refine ex.bd (r_gR hR_t (lc5 (show ly_Is 5 10 by decide)) rfl) ?_
        obtain ⟨x34, e35, H⟩ := am_bd H
        refine ex.bd (r_aI hR_t (la5_3 (show ly_Is 5 10 by decide)) e35) ?_
        by_cases c36 : ¬ x30 = x34
        · rw [if_pos c36] at H
          refine ex.t c36 ?_
          refine ex.bd (r_gR hR_t lk8 rfl) ?_
          obtain ⟨eD39, iD40⟩ := r_gD hR_t (k := 9) (by decide) (by decide)
          refine ex.bd eD39 ?_
          obtain ⟨tt43, e41, H⟩ := am_bd H
          refine ex.j1 (sX6_passDate hR_t (show ly_Is 5 10 by decide) iD40 e41) (fun hh42 hR_tt43 => ?_)
          exact ih _ _ _ _ _ _ hR_tt43  H
        · rw [if_neg c36] at H
          refine ex.f c36 ?_
          obtain rfl := Option.some.inj H
          exact ex.nd ⟨rfl, hR_t⟩
set_option maxHeartbeats 4000000 in
set_option maxRecDepth 100000 in
theorem sX9_meets {a1 : Int32} {a2 : Int32} {h : am_H} {t : tS} {r : Int32} {t1 : tS} (hR_t : Rp h t)  (H : tX9_meets a1 a2 t = some (r, t1)) : ex (fX9_meets 0 a1 a2 h) (fun p => r = p.1 ∧ Rp p.2 t1) := by
  unfold tX9_meets at H
  unfold fX9_meets
  refine ex.bd (r_isO hR_t lk8) ?_
  obtain ⟨x2, e1, H⟩ := am_bd H
  refine ex.j1 (sX9_isDay hR_t  e1) (fun z3 hz => ?_)
  obtain rfl : x2 = z3 := hz
  by_cases c4 : x2 = 0
  · rw [if_pos c4] at H
    refine ex.t c4 ?_
    obtain ⟨rfl, rfl⟩ := am_inj2 H
    exact ex.nd ⟨rfl, hR_t⟩
  · rw [if_neg c4] at H
    refine ex.f c4 ?_
    obtain ⟨x6, e5, H⟩ := am_bd H
    refine ex.j1 (sX9_isDay hR_t  e5) (fun z7 hz => ?_)
    obtain rfl : x6 = z7 := hz
    by_cases c8 : x6 = 0
    · rw [if_pos c8] at H
      refine ex.t c8 ?_
      obtain ⟨rfl, rfl⟩ := am_inj2 H
      exact ex.nd ⟨rfl, hR_t⟩
    · rw [if_neg c8] at H
      refine ex.f c8 ?_
      by_cases c9 : ¬ a1 = a2
      · rw [if_pos c9] at H
        refine ex.t c9 ?_
        refine ex.bd (r_gR hR_t lk8 rfl) ?_
        refine ex.bd (r_gR hR_t lk8 rfl) ?_
        obtain ⟨tt14, e12, H⟩ := am_bd H
        refine ex.j1 (sX6_copyFrom hR_t (show ly_Is 5 10 by decide) (show ly_Is 5 3 by decide) e12) (fun hh13 hR_tt14 => ?_)
        obtain ⟨o47, E46, H⟩ := am_bd H
        refine ex.j1 (sX9_meets_L36 _ _ _ _ _ _ _ hR_tt14  E46) (fun p49 hq => ?_)
        clear E46
        rcases o47 with tt45 | y48
        · rcases p49 with hh44 | z50
          · dsimp only at H hq ⊢
            have hR_tt45 : Rp hh44 tt45 := hq
            obtain ⟨rfl, rfl⟩ := am_inj2 H
            exact ex.nd ⟨rfl, hR_tt45⟩
          · exact hq.elim
        · rcases p49 with _ | z50
          · exact hq.elim
          · dsimp only at H ⊢
            obtain rfl := Option.some.inj H
            exact ex.nd hq
      · rw [if_neg c9] at H
        refine ex.f c9 ?_
        obtain ⟨rfl, rfl⟩ := am_inj2 H
        exact ex.nd ⟨rfl, hR_t⟩
def tX9_buildRow_L13 : Nat → Int32 → tS → Option ((tS) ⊕ (Int32 × tS))
  | 0, _, _ => none
  | n + 1, v1, t =>
    if (t.1 (t.2.2.2.2 0 9) 11) ≤ v1 then
      some (.inl t)
    else
      (tA t 11 4 v1).bind fun x13 =>
      (tA t 179 4 v1).bind fun x16 =>
      (tWA t 0 11 4 v1 (x13 + x16)).bind fun tt19 =>
      (tA tt19 11 4 v1).bind fun x24 =>
      if x24 ≤ ((9 : Int32)) then
        tX9_buildRow_L13 n (v1 + (1 : Int32)) tt19
      else
        some (.inr ((0 : Int32), tt19))
def tX9_buildRow  (t : tS) : Option (Int32 × tS) :=
  (tX6_copyFrom 10 3 t).bind fun tt5 =>
  (tX9_buildRow_L13 4000 ((0 : Int32)) tt5).bind fun o30 => match o30 with
    | .inl tt28 =>
      some ((1 : Int32), tt28)
    | .inr y31 => some y31
set_option maxHeartbeats 4000000 in
set_option maxRecDepth 100000 in
theorem sX9_buildRow_L13 : ∀ (n : Nat) (v1 : Int32) (h : am_H) (t : tS) (o : (tS) ⊕ (Int32 × tS)), Rp h t → tX9_buildRow_L13 n v1 t = some o → ex (fX9_buildRow_L13 n 0 v1 h) (fun p => match o, p with
    | .inl t1, .inl h1 => Rp h1 t1
    | .inr y, .inr z => y.1 = z.1 ∧ Rp z.2 y.2
    | _, _ => False) := by
  intro n
  induction n with
  | zero => intro _ _ _ _ _ H; cases H
  | succ n ih =>
    intro v1 h t o hR_t H
    rw [tX9_buildRow_L13] at H
    rw [fX9_buildRow_L13]
    obtain ⟨eD7, iD8⟩ := r_gD hR_t (k := 9) (by decide) (by decide)
    refine ex.bd eD7 ?_
    refine ex.bd (r_gI hR_t (lc7 iD8) rfl) ?_
    by_cases c10 : (t.1 (t.2.2.2.2 0 9) 11) ≤ v1
    · rw [if_pos c10] at H
      refine ex.t c10 ?_
      obtain rfl := Option.some.inj H
      exact ex.nd hR_t
    · rw [if_neg c10] at H
      refine ex.f c10 ?_
      refine ex.bd (r_gR hR_t lk8 rfl) ?_
      refine ex.bd (r_gR hR_t (lc5 (show ly_Is 5 10 by decide)) rfl) ?_
      obtain ⟨x13, e14, H⟩ := am_bd H
      refine ex.bd (r_aI hR_t (la5_0 (show ly_Is 5 10 by decide)) e14) ?_
      refine ex.bd (r_gR hR_t lk8 rfl) ?_
      obtain ⟨x16, e17, H⟩ := am_bd H
      refine ex.bd (r_aI hR_t (la8_6 (a := 0) (by decide)) e17) ?_
      obtain ⟨tt19, e20, H⟩ := am_bd H
      obtain ⟨hh18, e21, hR_tt19⟩ := r_sI hR_t (la5_0 (show ly_Is 5 10 by decide)) e20
      refine ex.bd e21 ?_
      refine ex.bd (r_gR hR_tt19 lk8 rfl) ?_
      refine ex.bd (r_gR hR_tt19 (lc5 (show ly_Is 5 10 by decide)) rfl) ?_
      obtain ⟨x24, e25, H⟩ := am_bd H
      refine ex.bd (r_aI hR_tt19 (la5_0 (show ly_Is 5 10 by decide)) e25) ?_
      by_cases c26 : x24 ≤ ((9 : Int32))
      · rw [if_pos c26] at H
        refine ex.t c26 ?_
        exact ih _ _ _ _ hR_tt19  H
      · rw [if_neg c26] at H
        refine ex.f c26 ?_
        obtain rfl := Option.some.inj H
        exact ex.nd ⟨rfl, hR_tt19⟩
set_option maxHeartbeats 4000000 in
set_option maxRecDepth 100000 in
theorem sX9_buildRow  {h : am_H} {t : tS} {r : Int32} {t1 : tS} (hR_t : Rp h t)  (H : tX9_buildRow  t = some (r, t1)) : ex (fX9_buildRow 0 h) (fun p => r = p.1 ∧ Rp p.2 t1) := by
  unfold tX9_buildRow at H
  unfold fX9_buildRow
  refine ex.bd (r_isO hR_t lk8) ?_
  refine ex.bd (r_gR hR_t lk8 rfl) ?_
  refine ex.bd (r_gR hR_t lk8 rfl) ?_
  obtain ⟨tt5, e3, H⟩ := am_bd H
  refine ex.j1 (sX6_copyFrom hR_t (show ly_Is 5 10 by decide) (show ly_Is 5 3 by decide) e3) (fun hh4 hR_tt5 => ?_)
  obtain ⟨o30, E29, H⟩ := am_bd H
  refine ex.j1 (sX9_buildRow_L13 _ _ _ _ _ hR_tt5  E29) (fun p32 hq => ?_)
  clear E29
  rcases o30 with tt28 | y31
  · rcases p32 with hh27 | z33
    · dsimp only at H hq ⊢
      have hR_tt28 : Rp hh27 tt28 := hq
      obtain ⟨rfl, rfl⟩ := am_inj2 H
      exact ex.nd ⟨rfl, hR_tt28⟩
    · exact hq.elim
  · rcases p32 with _ | z33
    · exact hq.elim
    · dsimp only at H ⊢
      obtain rfl := Option.some.inj H
      exact ex.nd hq
def tX9_layRow_L15 : Nat → Int32 → Int32 → Int32 → tS → Option (Int32 × tS)
  | 0, _, _, _, _ => none
  | n + 1, v2, v3, v4, t =>
    if v4 < 0 then
      some (v2, t)
    else
      (am_rm' v3 ((3 : Int32))).bind fun q7 =>
      (tWA t 0 179 4 v4 q7).bind fun tt10 =>
      (tA tt10 179 4 v4).bind fun x14 =>
      (am_dv v3 ((3 : Int32))).bind fun q16 =>
      tX9_layRow_L15 n (v2 + x14) q16 (v4 + (-1 : Int32)) tt10
def tX9_layRow (a1 : Int32) (t : tS) : Option (Int32 × tS) :=
  am_b2 (tX9_layRow_L15 4000 ((0 : Int32)) a1 ((t.1 (t.2.2.2.2 0 9) 11) - ((1 : Int32))) t) fun lw18 tt20 =>
  some (lw18, tt20)
set_option maxHeartbeats 4000000 in
set_option maxRecDepth 100000 in
theorem sX9_layRow_L15 : ∀ (n : Nat) (v2 : Int32) (v3 : Int32) (v4 : Int32) (h : am_H) (t : tS) (w2 : Int32) (t1 : tS), Rp h t → tX9_layRow_L15 n v2 v3 v4 t = some (w2, t1) → ex (fX9_layRow_L15 n 0 v2 v3 v4 h) (fun p => w2 = p.1 ∧ Rp p.2 t1) := by
  intro n
  induction n with
  | zero => intro _ _ _ _ _ _ _ _ H; cases H
  | succ n ih =>
    intro v2 v3 v4 h t w2 t1 hR_t H
    rw [tX9_layRow_L15] at H
    rw [fX9_layRow_L15]
    by_cases c5 : v4 < 0
    · rw [if_pos c5] at H
      refine ex.t c5 ?_
      obtain ⟨rfl, rfl⟩ := am_inj2 H
      exact ex.nd ⟨rfl, hR_t⟩
    · rw [if_neg c5] at H
      refine ex.f c5 ?_
      refine ex.bd (r_gR hR_t lk8 rfl) ?_
      obtain ⟨q7, e8, H⟩ := am_bd H
      refine ex.bd e8 ?_
      obtain ⟨tt10, e11, H⟩ := am_bd H
      obtain ⟨hh9, e12, hR_tt10⟩ := r_sI hR_t (la8_6 (a := 0) (by decide)) e11
      refine ex.bd e12 ?_
      refine ex.bd (r_gR hR_tt10 lk8 rfl) ?_
      obtain ⟨x14, e15, H⟩ := am_bd H
      refine ex.bd (r_aI hR_tt10 (la8_6 (a := 0) (by decide)) e15) ?_
      obtain ⟨q16, e17, H⟩ := am_bd H
      refine ex.bd e17 ?_
      exact ih _ _ _ _ _ _ _ hR_tt10  H
set_option maxHeartbeats 4000000 in
set_option maxRecDepth 100000 in
theorem sX9_layRow {a1 : Int32} {h : am_H} {t : tS} {r : Int32} {t1 : tS} (hR_t : Rp h t)  (H : tX9_layRow a1 t = some (r, t1)) : ex (fX9_layRow 0 a1 h) (fun p => r = p.1 ∧ Rp p.2 t1) := by
  unfold tX9_layRow at H
  unfold fX9_layRow
  refine ex.bd (r_isO hR_t lk8) ?_
  obtain ⟨eD2, iD3⟩ := r_gD hR_t (k := 9) (by decide) (by decide)
  refine ex.bd eD2 ?_
  refine ex.bd (r_gI hR_t (lc7 iD3) rfl) ?_
  obtain ⟨lw18, tt20, E22, H⟩ := am_bd2 H
  refine ex.j2 (sX9_layRow_L15 _ _ _ _ _ _ _ _ hR_t  E22) (fun z21 hh19 hq => ?_)
  clear E22
  obtain ⟨rfl, hR_tt20⟩ : lw18 = z21 ∧ Rp hh19 tt20 := hq
  obtain ⟨rfl, rfl⟩ := am_inj2 H
  exact ex.nd ⟨rfl, hR_tt20⟩
def tX9_noneTurnedOff_L2 : Nat → Int32 → Int32 → tS → Option ((tS) ⊕ (Int32 × tS))
  | 0, _, _, _ => none
  | n + 1, v1, v2, t =>
    if v1 ≤ v2 then
      some (.inl t)
    else
      (tX6_passDate 10 (t.2.2.2.2 0 9) t).bind fun tt8 =>
      if (tt8.1 10 10) = 0 then
        tX9_noneTurnedOff_L2 n v1 (v2 + (1 : Int32)) tt8
      else
        some (.inr ((0 : Int32), tt8))
def tX9_noneTurnedOff (a1 : Int32) (t : tS) : Option (Int32 × tS) :=
  (tX9_noneTurnedOff_L2 4000 a1 ((0 : Int32)) t).bind fun o15 => match o15 with
    | .inl tt13 =>
      some ((1 : Int32), tt13)
    | .inr y16 => some y16
set_option maxHeartbeats 4000000 in
set_option maxRecDepth 100000 in
theorem sX9_noneTurnedOff_L2 : ∀ (n : Nat) (v1 : Int32) (v2 : Int32) (h : am_H) (t : tS) (o : (tS) ⊕ (Int32 × tS)), Rp h t → tX9_noneTurnedOff_L2 n v1 v2 t = some o → ex (fX9_noneTurnedOff_L2 n 0 v1 v2 h) (fun p => match o, p with
    | .inl t1, .inl h1 => Rp h1 t1
    | .inr y, .inr z => y.1 = z.1 ∧ Rp z.2 y.2
    | _, _ => False) := by
  intro n
  induction n with
  | zero => intro _ _ _ _ _ _ H; cases H
  | succ n ih =>
    intro v1 v2 h t o hR_t H
    rw [tX9_noneTurnedOff_L2] at H
    rw [fX9_noneTurnedOff_L2]
    by_cases c1 : v1 ≤ v2
    · rw [if_pos c1] at H
      refine ex.t c1 ?_
      obtain rfl := Option.some.inj H
      exact ex.nd hR_t
    · rw [if_neg c1] at H
      refine ex.f c1 ?_
      refine ex.bd (r_gR hR_t lk8 rfl) ?_
      obtain ⟨eD4, iD5⟩ := r_gD hR_t (k := 9) (by decide) (by decide)
      refine ex.bd eD4 ?_
      obtain ⟨tt8, e6, H⟩ := am_bd H
      refine ex.j1 (sX6_passDate hR_t (show ly_Is 5 10 by decide) iD5 e6) (fun hh7 hR_tt8 => ?_)
      refine ex.bd (r_gR hR_tt8 lk8 rfl) ?_
      refine ex.bd (r_gI hR_tt8 (lc5 (show ly_Is 5 10 by decide)) rfl) ?_
      by_cases c11 : (tt8.1 10 10) = 0
      · rw [if_pos c11] at H
        refine ex.t c11 ?_
        exact ih _ _ _ _ _ hR_tt8  H
      · rw [if_neg c11] at H
        refine ex.f c11 ?_
        obtain rfl := Option.some.inj H
        exact ex.nd ⟨rfl, hR_tt8⟩
set_option maxHeartbeats 4000000 in
set_option maxRecDepth 100000 in
theorem sX9_noneTurnedOff {a1 : Int32} {h : am_H} {t : tS} {r : Int32} {t1 : tS} (hR_t : Rp h t)  (H : tX9_noneTurnedOff a1 t = some (r, t1)) : ex (fX9_noneTurnedOff 0 a1 h) (fun p => r = p.1 ∧ Rp p.2 t1) := by
  unfold tX9_noneTurnedOff at H
  unfold fX9_noneTurnedOff
  refine ex.bd (r_isO hR_t lk8) ?_
  obtain ⟨o15, E14, H⟩ := am_bd H
  refine ex.j1 (sX9_noneTurnedOff_L2 _ _ _ _ _ _ hR_t  E14) (fun p17 hq => ?_)
  clear E14
  rcases o15 with tt13 | y16
  · rcases p17 with hh12 | z18
    · dsimp only at H hq ⊢
      have hR_tt13 : Rp hh12 tt13 := hq
      obtain ⟨rfl, rfl⟩ := am_inj2 H
      exact ex.nd ⟨rfl, hR_tt13⟩
    · exact hq.elim
  · rcases p17 with _ | z18
    · exact hq.elim
    · dsimp only at H ⊢
      obtain rfl := Option.some.inj H
      exact ex.nd hq
def tX9_fewestBeds_L4 : Nat → Int32 → Int32 → Int32 → tS → Option (Int32)
  | 0, _, _, _, _ => none
  | n + 1, v1, v2, v3, t =>
    if (t.1 (t.2.2.2.2 0 9) 11) ≤ v3 then
      some v2
    else
      tX9_fewestBeds_L4 n v1 (v2 * ((3 : Int32))) (v3 + (1 : Int32)) t
def tX9_fewestBeds_L43 : Nat → Int32 → Int32 → Int32 → Int32 → tS → Option ((tS) ⊕ (Int32 × tS))
  | 0, _, _, _, _, _ => none
  | n + 1, v1, v2, v3, v4, t =>
    if v2 ≤ v4 then
      some (.inl t)
    else
      am_b2 (tX9_layRow v4 t) fun x16 tt18 =>
      if ¬ x16 = v3 then
        tX9_fewestBeds_L43 n v1 v2 v3 (v4 + (1 : Int32)) tt18
      else
        am_b2 (tX9_buildRow  tt18) fun x22 tt24 =>
        if x22 = 0 then
          tX9_fewestBeds_L43 n v1 v2 v3 (v4 + (1 : Int32)) tt24
        else
          am_b2 (tX9_noneTurnedOff v1 tt24) fun x28 tt30 =>
          if x28 = 0 then
            tX9_fewestBeds_L43 n v1 v2 v3 (v4 + (1 : Int32)) tt30
          else
            some (.inr (v3, tt30))
def tX9_fewestBeds_L27 : Nat → Int32 → Int32 → Int32 → tS → Option ((tS) ⊕ (Int32 × tS))
  | 0, _, _, _, _ => none
  | n + 1, v1, v2, v3, t =>
    if (((2 : Int32)) * (t.1 (t.2.2.2.2 0 9) 11)) < v3 then
      some (.inl t)
    else
      (tX9_fewestBeds_L43 4000 v1 v2 v3 ((0 : Int32)) t).bind fun o36 => match o36 with
        | .inl tt34 =>
          tX9_fewestBeds_L27 n v1 v2 (v3 + (1 : Int32)) tt34
        | .inr y37 => some (.inr y37)
def tX9_fewestBeds (a1 : Int32) (t : tS) : Option (Int32 × tS) :=
  Option.bind (tX9_fewestBeds_L4 4000 a1 ((1 : Int32)) ((0 : Int32)) t) fun lw6 =>
  (tX9_fewestBeds_L27 4000 a1 lw6 ((0 : Int32)) t).bind fun o43 => match o43 with
    | .inl tt41 =>
      some ((-1 : Int32), tt41)
    | .inr y44 => some y44
set_option maxHeartbeats 4000000 in
set_option maxRecDepth 100000 in
theorem sX9_fewestBeds_L4 : ∀ (n : Nat) (v1 : Int32) (v2 : Int32) (v3 : Int32) (h : am_H) (t : tS) (w2 : Int32), Rp h t → tX9_fewestBeds_L4 n v1 v2 v3 t = some w2 → ex (fX9_fewestBeds_L4 n 0 v1 v2 v3 h) (fun p => w2 = p) := by
  intro n
  induction n with
  | zero => intro _ _ _ _ _ _ _ H; cases H
  | succ n ih =>
    intro v1 v2 v3 h t w2 hR_t H
    rw [tX9_fewestBeds_L4] at H
    rw [fX9_fewestBeds_L4]
    obtain ⟨eD2, iD3⟩ := r_gD hR_t (k := 9) (by decide) (by decide)
    refine ex.bd eD2 ?_
    refine ex.bd (r_gI hR_t (lc7 iD3) rfl) ?_
    by_cases c5 : (t.1 (t.2.2.2.2 0 9) 11) ≤ v3
    · rw [if_pos c5] at H
      refine ex.t c5 ?_
      obtain rfl := Option.some.inj H
      exact ex.nd rfl
    · rw [if_neg c5] at H
      refine ex.f c5 ?_
      exact ih _ _ _ _ _ _ hR_t  H
set_option maxHeartbeats 4000000 in
set_option maxRecDepth 100000 in
theorem sX9_fewestBeds_L43 : ∀ (n : Nat) (v1 : Int32) (v2 : Int32) (v3 : Int32) (v4 : Int32) (h : am_H) (t : tS) (o : (tS) ⊕ (Int32 × tS)), Rp h t → tX9_fewestBeds_L43 n v1 v2 v3 v4 t = some o → ex (fX9_fewestBeds_L43 n 0 v1 v2 v3 v4 h) (fun p => match o, p with
    | .inl t1, .inl h1 => Rp h1 t1
    | .inr y, .inr z => y.1 = z.1 ∧ Rp z.2 y.2
    | _, _ => False) := by
  intro n
  induction n with
  | zero => intro _ _ _ _ _ _ _ _ H; cases H
  | succ n ih =>
    intro v1 v2 v3 v4 h t o hR_t H
    rw [tX9_fewestBeds_L43] at H
    rw [fX9_fewestBeds_L43]
    by_cases c14 : v2 ≤ v4
    · rw [if_pos c14] at H
      refine ex.t c14 ?_
      obtain rfl := Option.some.inj H
      exact ex.nd hR_t
    · rw [if_neg c14] at H
      refine ex.f c14 ?_
      obtain ⟨x16, tt18, e15, H⟩ := am_bd2 H
      refine ex.j2 (sX9_layRow hR_t  e15) (fun z19 hh17 hz => ?_)
      obtain ⟨rfl, hR_tt18⟩ : x16 = z19 ∧ Rp hh17 tt18 := hz
      by_cases c20 : ¬ x16 = v3
      · rw [if_pos c20] at H
        refine ex.t c20 ?_
        exact ih _ _ _ _ _ _ _ hR_tt18  H
      · rw [if_neg c20] at H
        refine ex.f c20 ?_
        obtain ⟨x22, tt24, e21, H⟩ := am_bd2 H
        refine ex.j2 (sX9_buildRow hR_tt18  e21) (fun z25 hh23 hz => ?_)
        obtain ⟨rfl, hR_tt24⟩ : x22 = z25 ∧ Rp hh23 tt24 := hz
        by_cases c26 : x22 = 0
        · rw [if_pos c26] at H
          refine ex.t c26 ?_
          exact ih _ _ _ _ _ _ _ hR_tt24  H
        · rw [if_neg c26] at H
          refine ex.f c26 ?_
          obtain ⟨x28, tt30, e27, H⟩ := am_bd2 H
          refine ex.j2 (sX9_noneTurnedOff hR_tt24  e27) (fun z31 hh29 hz => ?_)
          obtain ⟨rfl, hR_tt30⟩ : x28 = z31 ∧ Rp hh29 tt30 := hz
          by_cases c32 : x28 = 0
          · rw [if_pos c32] at H
            refine ex.t c32 ?_
            exact ih _ _ _ _ _ _ _ hR_tt30  H
          · rw [if_neg c32] at H
            refine ex.f c32 ?_
            obtain rfl := Option.some.inj H
            exact ex.nd ⟨rfl, hR_tt30⟩
set_option maxHeartbeats 4000000 in
set_option maxRecDepth 100000 in
theorem sX9_fewestBeds_L27 : ∀ (n : Nat) (v1 : Int32) (v2 : Int32) (v3 : Int32) (h : am_H) (t : tS) (o : (tS) ⊕ (Int32 × tS)), Rp h t → tX9_fewestBeds_L27 n v1 v2 v3 t = some o → ex (fX9_fewestBeds_L27 n 0 v1 v2 v3 h) (fun p => match o, p with
    | .inl t1, .inl h1 => Rp h1 t1
    | .inr y, .inr z => y.1 = z.1 ∧ Rp z.2 y.2
    | _, _ => False) := by
  intro n
  induction n with
  | zero => intro _ _ _ _ _ _ _ H; cases H
  | succ n ih =>
    intro v1 v2 v3 h t o hR_t H
    rw [tX9_fewestBeds_L27] at H
    rw [fX9_fewestBeds_L27]
    obtain ⟨eD10, iD11⟩ := r_gD hR_t (k := 9) (by decide) (by decide)
    refine ex.bd eD10 ?_
    refine ex.bd (r_gI hR_t (lc7 iD11) rfl) ?_
    by_cases c13 : (((2 : Int32)) * (t.1 (t.2.2.2.2 0 9) 11)) < v3
    · rw [if_pos c13] at H
      refine ex.t c13 ?_
      obtain rfl := Option.some.inj H
      exact ex.nd hR_t
    · rw [if_neg c13] at H
      refine ex.f c13 ?_
      obtain ⟨o36, E35, H⟩ := am_bd H
      refine ex.j1 (sX9_fewestBeds_L43 _ _ _ _ _ _ _ _ hR_t  E35) (fun p38 hq => ?_)
      clear E35
      rcases o36 with tt34 | y37
      · rcases p38 with hh33 | z39
        · dsimp only at H hq ⊢
          have hR_tt34 : Rp hh33 tt34 := hq
          exact ih _ _ _ _ _ _ hR_tt34  H
        · exact hq.elim
      · rcases p38 with _ | z39
        · exact hq.elim
        · dsimp only at H ⊢
          obtain rfl := Option.some.inj H
          exact ex.nd hq
set_option maxHeartbeats 4000000 in
set_option maxRecDepth 100000 in
theorem sX9_fewestBeds {a1 : Int32} {h : am_H} {t : tS} {r : Int32} {t1 : tS} (hR_t : Rp h t)  (H : tX9_fewestBeds a1 t = some (r, t1)) : ex (fX9_fewestBeds 0 a1 h) (fun p => r = p.1 ∧ Rp p.2 t1) := by
  unfold tX9_fewestBeds at H
  unfold fX9_fewestBeds
  refine ex.bd (r_isO hR_t lk8) ?_
  obtain ⟨lw6, E8, H⟩ := am_bd H
  refine ex.j1 (sX9_fewestBeds_L4 _ _ _ _ _ _ _ hR_t  E8) (fun z7 hq => ?_)
  clear E8
  obtain rfl : lw6 = z7 := hq
  obtain ⟨o43, E42, H⟩ := am_bd H
  refine ex.j1 (sX9_fewestBeds_L27 _ _ _ _ _ _ _ hR_t  E42) (fun p45 hq => ?_)
  clear E42
  rcases o43 with tt41 | y44
  · rcases p45 with hh40 | z46
    · dsimp only at H hq ⊢
      have hR_tt41 : Rp hh40 tt41 := hq
      obtain ⟨rfl, rfl⟩ := am_inj2 H
      exact ex.nd ⟨rfl, hR_tt41⟩
    · exact hq.elim
  · rcases p45 with _ | z46
    · exact hq.elim
    · dsimp only at H ⊢
      obtain rfl := Option.some.inj H
      exact ex.nd hq
def tX9_beds (a1 : Int32) (a2 : Int32) (t : tS) : Option (Int32 × tS) :=
  (tX9_within a1 ((1 : Int32)) ((36 : Int32)) t).bind fun x2 =>
  if x2 = 0 then
    some ((-2 : Int32), t)
  else
    if a2 = ((-1 : Int32)) then
      am_b2 (tX9_fewestBeds a1 t) fun x7 tt9 =>
      if ¬ x7 = ((-1 : Int32)) then
        Option.bind (
          if ¬ a2 = ((-1 : Int32)) then
            (tA tt9 179 4 a2).bind fun x15 =>
            some x15
          else
            some x7) fun js12 =>
        some (js12, tt9)
      else
        some ((-2 : Int32), tt9)
    else
      (tX9_isHouse a2 t).bind fun x20 =>
      if ¬ x20 = 0 then
        am_b2 (tX9_fewestBeds a1 t) fun x24 tt26 =>
        if ¬ x24 = ((-1 : Int32)) then
          Option.bind (
            if ¬ a2 = ((-1 : Int32)) then
              (tA tt26 179 4 a2).bind fun x32 =>
              some x32
            else
              some x24) fun js29 =>
          some (js29, tt26)
        else
          some ((-2 : Int32), tt26)
      else
        some ((-2 : Int32), t)
set_option maxHeartbeats 4000000 in
set_option maxRecDepth 100000 in
theorem sX9_beds {a1 : Int32} {a2 : Int32} {h : am_H} {t : tS} {r : Int32} {t1 : tS} (hR_t : Rp h t)  (H : tX9_beds a1 a2 t = some (r, t1)) : ex (fX9_beds 0 a1 a2 h) (fun p => r = p.1 ∧ Rp p.2 t1) := by
  unfold tX9_beds at H
  unfold fX9_beds
  refine ex.bd (r_isO hR_t lk8) ?_
  obtain ⟨x2, e1, H⟩ := am_bd H
  refine ex.j1 (sX9_within hR_t  e1) (fun z3 hz => ?_)
  obtain rfl : x2 = z3 := hz
  by_cases c4 : x2 = 0
  · rw [if_pos c4] at H
    refine ex.t c4 ?_
    obtain ⟨rfl, rfl⟩ := am_inj2 H
    exact ex.nd ⟨rfl, hR_t⟩
  · rw [if_neg c4] at H
    refine ex.f c4 ?_
    by_cases c5 : a2 = ((-1 : Int32))
    · rw [if_pos c5] at H
      refine ex.t c5 ?_
      obtain ⟨x7, tt9, e6, H⟩ := am_bd2 H
      refine ex.j2 (sX9_fewestBeds hR_t  e6) (fun z10 hh8 hz => ?_)
      obtain ⟨rfl, hR_tt9⟩ : x7 = z10 ∧ Rp hh8 tt9 := hz
      by_cases c11 : ¬ x7 = ((-1 : Int32))
      · rw [if_pos c11] at H
        refine ex.t c11 ?_
        obtain ⟨js12, E17, H⟩ := am_bd H
        refine ex.j1 (Q := fun p => js12 = p) ?_ (fun z18 hq => ?_)
        · clear H
          have H := E17
          clear E17
          by_cases c13 : ¬ a2 = ((-1 : Int32))
          · rw [if_pos c13] at H
            refine ex.t c13 ?_
            refine ex.bd (r_gR hR_tt9 lk8 rfl) ?_
            obtain ⟨x15, e16, H⟩ := am_bd H
            refine ex.bd (r_aI hR_tt9 (la8_6 (a := 0) (by decide)) e16) ?_
            obtain rfl := Option.some.inj H
            exact ex.nd rfl
          · rw [if_neg c13] at H
            refine ex.f c13 ?_
            obtain rfl := Option.some.inj H
            exact ex.nd rfl
        · clear E17
          obtain rfl : js12 = z18 := hq
          obtain ⟨rfl, rfl⟩ := am_inj2 H
          exact ex.nd ⟨rfl, hR_tt9⟩
      · rw [if_neg c11] at H
        refine ex.f c11 ?_
        obtain ⟨rfl, rfl⟩ := am_inj2 H
        exact ex.nd ⟨rfl, hR_tt9⟩
    · rw [if_neg c5] at H
      refine ex.f c5 ?_
      obtain ⟨x20, e19, H⟩ := am_bd H
      refine ex.j1 (sX9_isHouse hR_t  e19) (fun z21 hz => ?_)
      obtain rfl : x20 = z21 := hz
      by_cases c22 : ¬ x20 = 0
      · rw [if_pos c22] at H
        refine ex.t c22 ?_
        obtain ⟨x24, tt26, e23, H⟩ := am_bd2 H
        refine ex.j2 (sX9_fewestBeds hR_t  e23) (fun z27 hh25 hz => ?_)
        obtain ⟨rfl, hR_tt26⟩ : x24 = z27 ∧ Rp hh25 tt26 := hz
        by_cases c28 : ¬ x24 = ((-1 : Int32))
        · rw [if_pos c28] at H
          refine ex.t c28 ?_
          obtain ⟨js29, E34, H⟩ := am_bd H
          refine ex.j1 (Q := fun p => js29 = p) ?_ (fun z35 hq => ?_)
          · clear H
            have H := E34
            clear E34
            by_cases c30 : ¬ a2 = ((-1 : Int32))
            · rw [if_pos c30] at H
              refine ex.t c30 ?_
              refine ex.bd (r_gR hR_tt26 lk8 rfl) ?_
              obtain ⟨x32, e33, H⟩ := am_bd H
              refine ex.bd (r_aI hR_tt26 (la8_6 (a := 0) (by decide)) e33) ?_
              obtain rfl := Option.some.inj H
              exact ex.nd rfl
            · rw [if_neg c30] at H
              refine ex.f c30 ?_
              obtain rfl := Option.some.inj H
              exact ex.nd rfl
          · clear E34
            obtain rfl : js29 = z35 := hq
            obtain ⟨rfl, rfl⟩ := am_inj2 H
            exact ex.nd ⟨rfl, hR_tt26⟩
        · rw [if_neg c28] at H
          refine ex.f c28 ?_
          obtain ⟨rfl, rfl⟩ := am_inj2 H
          exact ex.nd ⟨rfl, hR_tt26⟩
      · rw [if_neg c22] at H
        refine ex.f c22 ?_
        obtain ⟨rfl, rfl⟩ := am_inj2 H
        exact ex.nd ⟨rfl, hR_t⟩
def tX9_isPeaceful_L2 : Nat → Int32 → Int32 → tS → Option ((Unit) ⊕ (Int32))
  | 0, _, _, _ => none
  | n + 1, v1, v2, t =>
    if (t.1 (t.2.2.2.2 0 9) 12) ≤ v2 then
      some (.inl ())
    else
      (tX9_has v1 v2 t).bind fun x7 =>
      if x7 = 0 then
        tX9_isPeaceful_L2 n v1 (v2 + (1 : Int32)) t
      else
        (tA t (t.2.2.2.2 0 9 + 9) 6 v2).bind fun x14 =>
        if (x14 &&& v1) = 0 then
          tX9_isPeaceful_L2 n v1 (v2 + (1 : Int32)) t
        else
          some (.inr ((0 : Int32)))
def tX9_isPeaceful (a1 : Int32) (t : tS) : Option (Int32) :=
  (tX9_isPeaceful_L2 4000 a1 ((0 : Int32)) t).bind fun o18 => match o18 with
    | .inl _ =>
      some ((1 : Int32))
    | .inr y19 => some y19
set_option maxHeartbeats 4000000 in
set_option maxRecDepth 100000 in
theorem sX9_isPeaceful_L2 : ∀ (n : Nat) (v1 : Int32) (v2 : Int32) (h : am_H) (t : tS) (o : (Unit) ⊕ (Int32)), Rp h t → tX9_isPeaceful_L2 n v1 v2 t = some o → ex (fX9_isPeaceful_L2 n 0 v1 v2 h) (fun p => match o, p with
    | .inl _, .inl _ => True
    | .inr y, .inr z => y = z
    | _, _ => False) := by
  intro n
  induction n with
  | zero => intro _ _ _ _ _ _ H; cases H
  | succ n ih =>
    intro v1 v2 h t o hR_t H
    rw [tX9_isPeaceful_L2] at H
    rw [fX9_isPeaceful_L2]
    obtain ⟨eD2, iD3⟩ := r_gD hR_t (k := 9) (by decide) (by decide)
    refine ex.bd eD2 ?_
    refine ex.bd (r_gI hR_t (lc7 iD3) rfl) ?_
    by_cases c5 : (t.1 (t.2.2.2.2 0 9) 12) ≤ v2
    · rw [if_pos c5] at H
      refine ex.t c5 ?_
      obtain rfl := Option.some.inj H
      exact ex.nd trivial
    · rw [if_neg c5] at H
      refine ex.f c5 ?_
      obtain ⟨x7, e6, H⟩ := am_bd H
      refine ex.j1 (sX9_has hR_t  e6) (fun z8 hz => ?_)
      obtain rfl : x7 = z8 := hz
      by_cases c9 : x7 = 0
      · rw [if_pos c9] at H
        refine ex.t c9 ?_
        exact ih _ _ _ _ _ hR_t  H
      · rw [if_neg c9] at H
        refine ex.f c9 ?_
        obtain ⟨eD11, iD12⟩ := r_gD hR_t (k := 9) (by decide) (by decide)
        refine ex.bd eD11 ?_
        refine ex.bd (r_gR hR_t (lc7 iD12) rfl) ?_
        obtain ⟨x14, e15, H⟩ := am_bd H
        refine ex.bd (r_aI hR_t (la7_8 iD12) e15) ?_
        by_cases c16 : (x14 &&& v1) = 0
        · rw [if_pos c16] at H
          refine ex.t c16 ?_
          exact ih _ _ _ _ _ hR_t  H
        · rw [if_neg c16] at H
          refine ex.f c16 ?_
          obtain rfl := Option.some.inj H
          exact ex.nd rfl
set_option maxHeartbeats 4000000 in
set_option maxRecDepth 100000 in
theorem sX9_isPeaceful {a1 : Int32} {h : am_H} {t : tS} {r : Int32} (hR_t : Rp h t)  (H : tX9_isPeaceful a1 t = some r) : ex (fX9_isPeaceful 0 a1 h) (fun x => r = x) := by
  unfold tX9_isPeaceful at H
  unfold fX9_isPeaceful
  refine ex.bd (r_isO hR_t lk8) ?_
  obtain ⟨o18, E17, H⟩ := am_bd H
  refine ex.j1 (sX9_isPeaceful_L2 _ _ _ _ _ _ hR_t  E17) (fun p20 hq => ?_)
  clear E17
  rcases o18 with _ | y19
  · rcases p20 with _ | z21
    · dsimp only at H hq ⊢
      obtain rfl := Option.some.inj H
      exact ex.nd rfl
    · exact hq.elim
  · rcases p20 with _ | z21
    · exact hq.elim
    · dsimp only at H ⊢
      obtain rfl := Option.some.inj H
      exact ex.nd hq
def tX9_fewestHouses_L5 : Nat → Int32 → Int32 → Int32 → tS → Option (Int32)
  | 0, _, _, _, _ => none
  | n + 1, v1, v2, v3, t =>
    if v3 ≤ 0 then
      some v2
    else
      (tX9_isPeaceful v3 t).bind fun x3 =>
      Option.bind (
        if x3 = 0 then
          some v2
        else
          (tA t 181 64 (v1 &&& (v3 ^^^ ((-1 : Int32))))).bind fun x8 =>
          (tJ9_min_7cf53 v2 (((1 : Int32)) + x8) t).bind fun x11 =>
          some x11) fun jv5 =>
      tX9_fewestHouses_L5 n v1 jv5 ((v3 - ((1 : Int32))) &&& v1) t
def tX9_fewestHouses (a1 : Int32) (t : tS) : Option (Int32) :=
  Option.bind (tX9_fewestHouses_L5 4000 a1 ((6 : Int32)) a1 t) fun lw15 =>
  some lw15
set_option maxHeartbeats 4000000 in
set_option maxRecDepth 100000 in
theorem sX9_fewestHouses_L5 : ∀ (n : Nat) (v1 : Int32) (v2 : Int32) (v3 : Int32) (h : am_H) (t : tS) (w2 : Int32), Rp h t → tX9_fewestHouses_L5 n v1 v2 v3 t = some w2 → ex (fX9_fewestHouses_L5 n 0 v1 v2 v3 h) (fun p => w2 = p) := by
  intro n
  induction n with
  | zero => intro _ _ _ _ _ _ _ H; cases H
  | succ n ih =>
    intro v1 v2 v3 h t w2 hR_t H
    rw [tX9_fewestHouses_L5] at H
    rw [fX9_fewestHouses_L5]
    by_cases c1 : v3 ≤ 0
    · rw [if_pos c1] at H
      refine ex.t c1 ?_
      obtain rfl := Option.some.inj H
      exact ex.nd rfl
    · rw [if_neg c1] at H
      refine ex.f c1 ?_
      obtain ⟨x3, e2, H⟩ := am_bd H
      refine ex.j1 (sX9_isPeaceful hR_t  e2) (fun z4 hz => ?_)
      obtain rfl : x3 = z4 := hz
      obtain ⟨jv5, E13, H⟩ := am_bd H
      refine ex.j1 (Q := fun p => jv5 = p) ?_ (fun z14 hq => ?_)
      · clear H
        have H := E13
        clear E13
        by_cases c6 : x3 = 0
        · rw [if_pos c6] at H
          refine ex.t c6 ?_
          obtain rfl := Option.some.inj H
          exact ex.nd rfl
        · rw [if_neg c6] at H
          refine ex.f c6 ?_
          refine ex.bd (r_gR hR_t lk8 rfl) ?_
          obtain ⟨x8, e9, H⟩ := am_bd H
          refine ex.bd (r_aI hR_t (la8_8 (a := 0) (by decide)) e9) ?_
          obtain ⟨x11, e10, H⟩ := am_bd H
          refine ex.j1 (sJ9_min_7cf53 hR_t  e10) (fun z12 hz => ?_)
          obtain rfl : x11 = z12 := hz
          obtain rfl := Option.some.inj H
          exact ex.nd rfl
      · clear E13
        obtain rfl : jv5 = z14 := hq
        exact ih _ _ _ _ _ _ hR_t  H
set_option maxHeartbeats 4000000 in
set_option maxRecDepth 100000 in
theorem sX9_fewestHouses {a1 : Int32} {h : am_H} {t : tS} {r : Int32} (hR_t : Rp h t)  (H : tX9_fewestHouses a1 t = some r) : ex (fX9_fewestHouses 0 a1 h) (fun x => r = x) := by
  unfold tX9_fewestHouses at H
  unfold fX9_fewestHouses
  refine ex.bd (r_isO hR_t lk8) ?_
  obtain ⟨lw15, E17, H⟩ := am_bd H
  refine ex.j1 (sX9_fewestHouses_L5 _ _ _ _ _ _ _ hR_t  E17) (fun z16 hq => ?_)
  clear E17
  obtain rfl : lw15 = z16 := hq
  obtain rfl := Option.some.inj H
  exact ex.nd rfl
def tX9_apart_L19 : Nat → Int32 → Int32 → tS → Option (tS)
  | 0, _, _, _ => none
  | n + 1, v1, v2, t =>
    if v1 ≤ v2 then
      some t
    else
      (tX9_fewestHouses v2 t).bind fun x13 =>
      (tWA t 0 181 64 v2 x13).bind fun tt16 =>
      tX9_apart_L19 n v1 (v2 + (1 : Int32)) tt16
def tX9_apart  (t : tS) : Option (Int32 × tS) :=
  (tWA t 0 181 64 ((0 : Int32)) ((0 : Int32))).bind fun tt7 =>
  Option.bind (tX9_apart_L19 4000 (((1 : Int32)) <<< ((t.1 (t.2.2.2.2 0 9) 12) &&& 31)) ((1 : Int32)) tt7) fun tt20 =>
  (tA tt20 181 64 ((((1 : Int32)) <<< ((t.1 (t.2.2.2.2 0 9) 12) &&& 31)) - ((1 : Int32)))).bind fun x23 =>
  some (x23, tt20)
set_option maxHeartbeats 4000000 in
set_option maxRecDepth 100000 in
theorem sX9_apart_L19 : ∀ (n : Nat) (v1 : Int32) (v2 : Int32) (h : am_H) (t : tS) (t1 : tS), Rp h t → tX9_apart_L19 n v1 v2 t = some t1 → ex (fX9_apart_L19 n 0 v1 v2 h) (fun p => Rp p t1) := by
  intro n
  induction n with
  | zero => intro _ _ _ _ _ _ H; cases H
  | succ n ih =>
    intro v1 v2 h t t1 hR_t H
    rw [tX9_apart_L19] at H
    rw [fX9_apart_L19]
    by_cases c10 : v1 ≤ v2
    · rw [if_pos c10] at H
      refine ex.t c10 ?_
      obtain rfl := Option.some.inj H
      exact ex.nd hR_t
    · rw [if_neg c10] at H
      refine ex.f c10 ?_
      refine ex.bd (r_gR hR_t lk8 rfl) ?_
      obtain ⟨x13, e12, H⟩ := am_bd H
      refine ex.j1 (sX9_fewestHouses hR_t  e12) (fun z14 hz => ?_)
      obtain rfl : x13 = z14 := hz
      obtain ⟨tt16, e17, H⟩ := am_bd H
      obtain ⟨hh15, e18, hR_tt16⟩ := r_sI hR_t (la8_8 (a := 0) (by decide)) e17
      refine ex.bd e18 ?_
      exact ih _ _ _ _ _ hR_tt16  H
set_option maxHeartbeats 4000000 in
set_option maxRecDepth 100000 in
theorem sX9_apart  {h : am_H} {t : tS} {r : Int32} {t1 : tS} (hR_t : Rp h t)  (H : tX9_apart  t = some (r, t1)) : ex (fX9_apart 0 h) (fun p => r = p.1 ∧ Rp p.2 t1) := by
  unfold tX9_apart at H
  unfold fX9_apart
  refine ex.bd (r_isO hR_t lk8) ?_
  obtain ⟨eD2, iD3⟩ := r_gD hR_t (k := 9) (by decide) (by decide)
  refine ex.bd eD2 ?_
  refine ex.bd (r_gI hR_t (lc7 iD3) rfl) ?_
  refine ex.bd (r_gR hR_t lk8 rfl) ?_
  obtain ⟨tt7, e8, H⟩ := am_bd H
  obtain ⟨hh6, e9, hR_tt7⟩ := r_sI hR_t (la8_8 (a := 0) (by decide)) e8
  refine ex.bd e9 ?_
  obtain ⟨tt20, E21, H⟩ := am_bd H
  refine ex.j1 (sX9_apart_L19 _ _ _ _ _ _ hR_tt7  E21) (fun hh19 hq => ?_)
  clear E21
  have hR_tt20 : Rp hh19 tt20 := hq
  refine ex.bd (r_gR hR_tt20 lk8 rfl) ?_
  obtain ⟨x23, e24, H⟩ := am_bd H
  refine ex.bd (r_aI hR_tt20 (la8_8 (a := 0) (by decide)) e24) ?_
  obtain ⟨rfl, rfl⟩ := am_inj2 H
  exact ex.nd ⟨rfl, hR_tt20⟩
def tX9_mostAtOnce_L4 : Nat → Int32 → Int32 → Int32 → tS → Option (Int32 × tS)
  | 0, _, _, _, _ => none
  | n + 1, v1, v2, v3, t =>
    if v1 ≤ v3 then
      some (v2, t)
    else
      (tX6_passDate 10 (t.2.2.2.2 0 9) t).bind fun tt8 =>
      (tX6_somewhere 10 (tt8.2.2.2.2 0 9) tt8).bind fun x14 =>
      (tJ6_bitCount_0f7a4 x14 tt8).bind fun x17 =>
      (tJ9_max_7cf53 v2 x17 tt8).bind fun x20 =>
      tX9_mostAtOnce_L4 n v1 x20 (v3 + (1 : Int32)) tt8
def tX9_mostAtOnce (a1 : Int32) (t : tS) : Option (Int32 × tS) :=
  am_b2 (tX9_mostAtOnce_L4 4000 a1 ((0 : Int32)) ((0 : Int32)) t) fun lw22 tt24 =>
  some (lw22, tt24)
set_option maxHeartbeats 4000000 in
set_option maxRecDepth 100000 in
theorem sX9_mostAtOnce_L4 : ∀ (n : Nat) (v1 : Int32) (v2 : Int32) (v3 : Int32) (h : am_H) (t : tS) (w2 : Int32) (t1 : tS), Rp h t → tX9_mostAtOnce_L4 n v1 v2 v3 t = some (w2, t1) → ex (fX9_mostAtOnce_L4 n 0 v1 v2 v3 h) (fun p => w2 = p.1 ∧ Rp p.2 t1) := by
  intro n
  induction n with
  | zero => intro _ _ _ _ _ _ _ _ H; cases H
  | succ n ih =>
    intro v1 v2 v3 h t w2 t1 hR_t H
    rw [tX9_mostAtOnce_L4] at H
    rw [fX9_mostAtOnce_L4]
    by_cases c1 : v1 ≤ v3
    · rw [if_pos c1] at H
      refine ex.t c1 ?_
      obtain ⟨rfl, rfl⟩ := am_inj2 H
      exact ex.nd ⟨rfl, hR_t⟩
    · rw [if_neg c1] at H
      refine ex.f c1 ?_
      refine ex.bd (r_gR hR_t lk8 rfl) ?_
      obtain ⟨eD4, iD5⟩ := r_gD hR_t (k := 9) (by decide) (by decide)
      refine ex.bd eD4 ?_
      obtain ⟨tt8, e6, H⟩ := am_bd H
      refine ex.j1 (sX6_passDate hR_t (show ly_Is 5 10 by decide) iD5 e6) (fun hh7 hR_tt8 => ?_)
      refine ex.bd (r_gR hR_tt8 lk8 rfl) ?_
      obtain ⟨eD11, iD12⟩ := r_gD hR_tt8 (k := 9) (by decide) (by decide)
      refine ex.bd eD11 ?_
      obtain ⟨x14, e13, H⟩ := am_bd H
      refine ex.j1 (sX6_somewhere hR_tt8 (show ly_Is 5 10 by decide) iD12 e13) (fun z15 hz => ?_)
      obtain rfl : x14 = z15 := hz
      obtain ⟨x17, e16, H⟩ := am_bd H
      refine ex.j1 (sJ6_bitCount_0f7a4 hR_tt8  e16) (fun z18 hz => ?_)
      obtain rfl : x17 = z18 := hz
      obtain ⟨x20, e19, H⟩ := am_bd H
      refine ex.j1 (sJ9_max_7cf53 hR_tt8  e19) (fun z21 hz => ?_)
      obtain rfl : x20 = z21 := hz
      exact ih _ _ _ _ _ _ _ hR_tt8  H
set_option maxHeartbeats 4000000 in
set_option maxRecDepth 100000 in
theorem sX9_mostAtOnce {a1 : Int32} {h : am_H} {t : tS} {r : Int32} {t1 : tS} (hR_t : Rp h t)  (H : tX9_mostAtOnce a1 t = some (r, t1)) : ex (fX9_mostAtOnce 0 a1 h) (fun p => r = p.1 ∧ Rp p.2 t1) := by
  unfold tX9_mostAtOnce at H
  unfold fX9_mostAtOnce
  refine ex.bd (r_isO hR_t lk8) ?_
  obtain ⟨lw22, tt24, E26, H⟩ := am_bd2 H
  refine ex.j2 (sX9_mostAtOnce_L4 _ _ _ _ _ _ _ _ hR_t  E26) (fun z25 hh23 hq => ?_)
  clear E26
  obtain ⟨rfl, hR_tt24⟩ : lw22 = z25 ∧ Rp hh23 tt24 := hq
  obtain ⟨rfl, rfl⟩ := am_inj2 H
  exact ex.nd ⟨rfl, hR_tt24⟩
def tX9_defer_L18 : Nat → Int32 → Int32 → Int32 → Int32 → tS → Option (Int32 × tS)
  | 0, _, _, _, _, _ => none
  | n + 1, v1, v2, v3, v4, t =>
    if ((12 : Int32)) ≤ v4 then
      some (v2, t)
    else
      (tX6_copyFrom 10 3 t).bind fun tt10 =>
      (tWA tt10 0 12 6 v1 v4).bind fun tt14 =>
      am_b2 (tX9_mostAtOnce ((24 : Int32)) tt14) fun x18 tt20 =>
      am_b2 (
        if v3 ≤ x18 then
          some (v2, v3)
        else
          some (v4, x18)) fun jv22 jv23 =>
      tX9_defer_L18 n v1 jv22 jv23 (v4 + (1 : Int32)) tt20
def tX9_defer (a1 : Int32) (t : tS) : Option (Int32 × tS) :=
  (tX9_isDay a1 t).bind fun x2 =>
  if ¬ x2 = 0 then
    am_b2 (tX9_defer_L18 4000 a1 ((0 : Int32)) ((7 : Int32)) ((0 : Int32)) t) fun lw28 tt30 =>
    some (lw28, tt30)
  else
    some ((-1 : Int32), t)
set_option maxHeartbeats 4000000 in
set_option maxRecDepth 100000 in
theorem sX9_defer_L18 : ∀ (n : Nat) (v1 : Int32) (v2 : Int32) (v3 : Int32) (v4 : Int32) (h : am_H) (t : tS) (w2 : Int32) (t1 : tS), Rp h t → tX9_defer_L18 n v1 v2 v3 v4 t = some (w2, t1) → ex (fX9_defer_L18 n 0 v1 v2 v3 v4 h) (fun p => w2 = p.1 ∧ Rp p.2 t1) := by
  intro n
  induction n with
  | zero => intro _ _ _ _ _ _ _ _ _ H; cases H
  | succ n ih =>
    intro v1 v2 v3 v4 h t w2 t1 hR_t H
    rw [tX9_defer_L18] at H
    rw [fX9_defer_L18]
    by_cases c5 : ((12 : Int32)) ≤ v4
    · rw [if_pos c5] at H
      refine ex.t c5 ?_
      obtain ⟨rfl, rfl⟩ := am_inj2 H
      exact ex.nd ⟨rfl, hR_t⟩
    · rw [if_neg c5] at H
      refine ex.f c5 ?_
      refine ex.bd (r_gR hR_t lk8 rfl) ?_
      refine ex.bd (r_gR hR_t lk8 rfl) ?_
      obtain ⟨tt10, e8, H⟩ := am_bd H
      refine ex.j1 (sX6_copyFrom hR_t (show ly_Is 5 10 by decide) (show ly_Is 5 3 by decide) e8) (fun hh9 hR_tt10 => ?_)
      refine ex.bd (r_gR hR_tt10 lk8 rfl) ?_
      refine ex.bd (r_gR hR_tt10 (lc5 (show ly_Is 5 10 by decide)) rfl) ?_
      obtain ⟨tt14, e15, H⟩ := am_bd H
      obtain ⟨hh13, e16, hR_tt14⟩ := r_sI hR_tt10 (la5_1 (show ly_Is 5 10 by decide)) e15
      refine ex.bd e16 ?_
      obtain ⟨x18, tt20, e17, H⟩ := am_bd2 H
      refine ex.j2 (sX9_mostAtOnce hR_tt14  e17) (fun z21 hh19 hz => ?_)
      obtain ⟨rfl, hR_tt20⟩ : x18 = z21 ∧ Rp hh19 tt20 := hz
      obtain ⟨jv22, jv23, E25, H⟩ := am_bd2 H
      refine ex.j2 (Q := fun p => jv22 = p.1 ∧ jv23 = p.2) ?_ (fun z26 z27 hq => ?_)
      · clear H
        have H := E25
        clear E25
        by_cases c24 : v3 ≤ x18
        · rw [if_pos c24] at H
          refine ex.t c24 ?_
          obtain ⟨rfl, rfl⟩ := am_inj2 H
          exact ex.nd ⟨rfl, rfl⟩
        · rw [if_neg c24] at H
          refine ex.f c24 ?_
          obtain ⟨rfl, rfl⟩ := am_inj2 H
          exact ex.nd ⟨rfl, rfl⟩
      · clear E25
        obtain ⟨rfl, rfl⟩ : jv22 = z26 ∧ jv23 = z27 := hq
        exact ih _ _ _ _ _ _ _ _ hR_tt20  H
set_option maxHeartbeats 4000000 in
set_option maxRecDepth 100000 in
theorem sX9_defer {a1 : Int32} {h : am_H} {t : tS} {r : Int32} {t1 : tS} (hR_t : Rp h t)  (H : tX9_defer a1 t = some (r, t1)) : ex (fX9_defer 0 a1 h) (fun p => r = p.1 ∧ Rp p.2 t1) := by
  unfold tX9_defer at H
  unfold fX9_defer
  refine ex.bd (r_isO hR_t lk8) ?_
  obtain ⟨x2, e1, H⟩ := am_bd H
  refine ex.j1 (sX9_isDay hR_t  e1) (fun z3 hz => ?_)
  obtain rfl : x2 = z3 := hz
  by_cases c4 : ¬ x2 = 0
  · rw [if_pos c4] at H
    refine ex.t c4 ?_
    obtain ⟨lw28, tt30, E32, H⟩ := am_bd2 H
    refine ex.j2 (sX9_defer_L18 _ _ _ _ _ _ _ _ _ hR_t  E32) (fun z31 hh29 hq => ?_)
    clear E32
    obtain ⟨rfl, hR_tt30⟩ : lw28 = z31 ∧ Rp hh29 tt30 := hq
    obtain ⟨rfl, rfl⟩ := am_inj2 H
    exact ex.nd ⟨rfl, hR_tt30⟩
  · rw [if_neg c4] at H
    refine ex.f c4 ?_
    obtain ⟨rfl, rfl⟩ := am_inj2 H
    exact ex.nd ⟨rfl, hR_t⟩
def tX9_see (a1 : Int32) (a2 : Int32) (t : tS) : Option (Int32 × tS) :=
  if a1 = ((-1 : Int32)) then
    (tX9_within a2 ((0 : Int32)) ((24 : Int32)) t).bind fun x3 =>
    if ¬ x3 = 0 then
      am_b2 (tX5_add 176 a1 a2 t) fun x8 tt10 =>
      (am_z01 x8).bind fun b12 =>
      some (b12, tt10)
    else
      some ((0 : Int32), t)
  else
    (tX9_isHouse a1 t).bind fun x15 =>
    if x15 = 0 then
      some ((0 : Int32), t)
    else
      (tX9_within a2 ((0 : Int32)) ((24 : Int32)) t).bind fun x19 =>
      if ¬ x19 = 0 then
        am_b2 (tX5_add 176 a1 a2 t) fun x24 tt26 =>
        (am_z01 x24).bind fun b28 =>
        some (b28, tt26)
      else
        some ((0 : Int32), t)
set_option maxHeartbeats 4000000 in
set_option maxRecDepth 100000 in
theorem sX9_see {a1 : Int32} {a2 : Int32} {h : am_H} {t : tS} {r : Int32} {t1 : tS} (hR_t : Rp h t)  (H : tX9_see a1 a2 t = some (r, t1)) : ex (fX9_see 0 a1 a2 h) (fun p => r = p.1 ∧ Rp p.2 t1) := by
  unfold tX9_see at H
  unfold fX9_see
  refine ex.bd (r_isO hR_t lk8) ?_
  by_cases c1 : a1 = ((-1 : Int32))
  · rw [if_pos c1] at H
    refine ex.t c1 ?_
    obtain ⟨x3, e2, H⟩ := am_bd H
    refine ex.j1 (sX9_within hR_t  e2) (fun z4 hz => ?_)
    obtain rfl : x3 = z4 := hz
    by_cases c5 : ¬ x3 = 0
    · rw [if_pos c5] at H
      refine ex.t c5 ?_
      refine ex.bd (r_gR hR_t lk8 rfl) ?_
      obtain ⟨x8, tt10, e7, H⟩ := am_bd2 H
      refine ex.j2 (sX5_add hR_t (show ly_Is 4 176 by decide) e7) (fun z11 hh9 hz => ?_)
      obtain ⟨rfl, hR_tt10⟩ : x8 = z11 ∧ Rp hh9 tt10 := hz
      obtain ⟨b12, e13, H⟩ := am_bd H
      refine ex.bd e13 ?_
      obtain ⟨rfl, rfl⟩ := am_inj2 H
      exact ex.nd ⟨rfl, hR_tt10⟩
    · rw [if_neg c5] at H
      refine ex.f c5 ?_
      obtain ⟨rfl, rfl⟩ := am_inj2 H
      exact ex.nd ⟨rfl, hR_t⟩
  · rw [if_neg c1] at H
    refine ex.f c1 ?_
    obtain ⟨x15, e14, H⟩ := am_bd H
    refine ex.j1 (sX9_isHouse hR_t  e14) (fun z16 hz => ?_)
    obtain rfl : x15 = z16 := hz
    by_cases c17 : x15 = 0
    · rw [if_pos c17] at H
      refine ex.t c17 ?_
      obtain ⟨rfl, rfl⟩ := am_inj2 H
      exact ex.nd ⟨rfl, hR_t⟩
    · rw [if_neg c17] at H
      refine ex.f c17 ?_
      obtain ⟨x19, e18, H⟩ := am_bd H
      refine ex.j1 (sX9_within hR_t  e18) (fun z20 hz => ?_)
      obtain rfl : x19 = z20 := hz
      by_cases c21 : ¬ x19 = 0
      · rw [if_pos c21] at H
        refine ex.t c21 ?_
        refine ex.bd (r_gR hR_t lk8 rfl) ?_
        obtain ⟨x24, tt26, e23, H⟩ := am_bd2 H
        refine ex.j2 (sX5_add hR_t (show ly_Is 4 176 by decide) e23) (fun z27 hh25 hz => ?_)
        obtain ⟨rfl, hR_tt26⟩ : x24 = z27 ∧ Rp hh25 tt26 := hz
        obtain ⟨b28, e29, H⟩ := am_bd H
        refine ex.bd e29 ?_
        obtain ⟨rfl, rfl⟩ := am_inj2 H
        exact ex.nd ⟨rfl, hR_tt26⟩
      · rw [if_neg c21] at H
        refine ex.f c21 ?_
        obtain ⟨rfl, rfl⟩ := am_inj2 H
        exact ex.nd ⟨rfl, hR_t⟩
def tX9_who_L33 : Nat → Int32 → Int32 → Int32 → tS → Option (Int32)
  | 0, _, _, _, _ => none
  | n + 1, v1, v2, v3, t =>
    if (t.1 176 2) ≤ v3 then
      some v1
    else
      (tA t 178 8 v3).bind fun x16 =>
      Option.bind (
        if ¬ x16 = v2 then
          some v1
        else
          (tA t 177 8 v3).bind fun x26 =>
          (tX6_guests 10 (t.2.2.2.2 0 9) x26 t).bind fun x29 =>
          some (v1 &&& x29)) fun jv18 =>
      tX9_who_L33 n jv18 v2 (v3 + (1 : Int32)) t
def tX9_who_L25 : Nat → Int32 → Int32 → tS → Option (Int32 × tS)
  | 0, _, _, _ => none
  | n + 1, v1, v2, t =>
    if ((24 : Int32)) < v2 then
      some (v1, t)
    else
      Option.bind (tX9_who_L33 4000 v1 v2 ((0 : Int32)) t) fun lw33 =>
      (tX6_passDate 10 (t.2.2.2.2 0 9) t).bind fun tt42 =>
      tX9_who_L25 n lw33 (v2 + (1 : Int32)) tt42
def tX9_who  (t : tS) : Option (Int32 × tS) :=
  (tX6_copyFrom 10 3 t).bind fun tt9 =>
  am_b2 (tX9_who_L25 4000 ((((1 : Int32)) <<< ((t.1 (t.2.2.2.2 0 9) 12) &&& 31)) - ((1 : Int32))) ((0 : Int32)) tt9) fun lw43 tt45 =>
  some (lw43, tt45)
set_option maxHeartbeats 4000000 in
set_option maxRecDepth 100000 in
theorem sX9_who_L33 : ∀ (n : Nat) (v1 : Int32) (v2 : Int32) (v3 : Int32) (h : am_H) (t : tS) (w1 : Int32), Rp h t → tX9_who_L33 n v1 v2 v3 t = some w1 → ex (fX9_who_L33 n 0 v1 v2 v3 h) (fun p => w1 = p) := by
  intro n
  induction n with
  | zero => intro _ _ _ _ _ _ _ H; cases H
  | succ n ih =>
    intro v1 v2 v3 h t w1 hR_t H
    rw [tX9_who_L33] at H
    rw [fX9_who_L33]
    refine ex.bd (r_gR hR_t lk8 rfl) ?_
    refine ex.bd (r_gI hR_t (lc4 (show ly_Is 4 176 by decide)) rfl) ?_
    by_cases c13 : (t.1 176 2) ≤ v3
    · rw [if_pos c13] at H
      refine ex.t c13 ?_
      obtain rfl := Option.some.inj H
      exact ex.nd rfl
    · rw [if_neg c13] at H
      refine ex.f c13 ?_
      refine ex.bd (r_gR hR_t lk8 rfl) ?_
      refine ex.bd (r_gR hR_t (lc4 (show ly_Is 4 176 by decide)) rfl) ?_
      obtain ⟨x16, e17, H⟩ := am_bd H
      refine ex.bd (r_aI hR_t (la4_1 (show ly_Is 4 176 by decide)) e17) ?_
      obtain ⟨jv18, E31, H⟩ := am_bd H
      refine ex.j1 (Q := fun p => jv18 = p) ?_ (fun z32 hq => ?_)
      · clear H
        have H := E31
        clear E31
        by_cases c19 : ¬ x16 = v2
        · rw [if_pos c19] at H
          refine ex.t c19 ?_
          obtain rfl := Option.some.inj H
          exact ex.nd rfl
        · rw [if_neg c19] at H
          refine ex.f c19 ?_
          refine ex.bd (r_gR hR_t lk8 rfl) ?_
          obtain ⟨eD22, iD23⟩ := r_gD hR_t (k := 9) (by decide) (by decide)
          refine ex.bd eD22 ?_
          refine ex.bd (r_gR hR_t lk8 rfl) ?_
          refine ex.bd (r_gR hR_t (lc4 (show ly_Is 4 176 by decide)) rfl) ?_
          obtain ⟨x26, e27, H⟩ := am_bd H
          refine ex.bd (r_aI hR_t (la4_0 (show ly_Is 4 176 by decide)) e27) ?_
          obtain ⟨x29, e28, H⟩ := am_bd H
          refine ex.j1 (sX6_guests hR_t (show ly_Is 5 10 by decide) iD23 e28) (fun z30 hz => ?_)
          obtain rfl : x29 = z30 := hz
          obtain rfl := Option.some.inj H
          exact ex.nd rfl
      · clear E31
        obtain rfl : jv18 = z32 := hq
        exact ih _ _ _ _ _ _ hR_t  H
set_option maxHeartbeats 4000000 in
set_option maxRecDepth 100000 in
theorem sX9_who_L25 : ∀ (n : Nat) (v1 : Int32) (v2 : Int32) (h : am_H) (t : tS) (w1 : Int32) (t1 : tS), Rp h t → tX9_who_L25 n v1 v2 t = some (w1, t1) → ex (fX9_who_L25 n 0 v1 v2 h) (fun p => w1 = p.1 ∧ Rp p.2 t1) := by
  intro n
  induction n with
  | zero => intro _ _ _ _ _ _ _ H; cases H
  | succ n ih =>
    intro v1 v2 h t w1 t1 hR_t H
    rw [tX9_who_L25] at H
    rw [fX9_who_L25]
    by_cases c10 : ((24 : Int32)) < v2
    · rw [if_pos c10] at H
      refine ex.t c10 ?_
      obtain ⟨rfl, rfl⟩ := am_inj2 H
      exact ex.nd ⟨rfl, hR_t⟩
    · rw [if_neg c10] at H
      refine ex.f c10 ?_
      obtain ⟨lw33, E35, H⟩ := am_bd H
      refine ex.j1 (sX9_who_L33 _ _ _ _ _ _ _ hR_t  E35) (fun z34 hq => ?_)
      clear E35
      obtain rfl : lw33 = z34 := hq
      refine ex.bd (r_gR hR_t lk8 rfl) ?_
      obtain ⟨eD38, iD39⟩ := r_gD hR_t (k := 9) (by decide) (by decide)
      refine ex.bd eD38 ?_
      obtain ⟨tt42, e40, H⟩ := am_bd H
      refine ex.j1 (sX6_passDate hR_t (show ly_Is 5 10 by decide) iD39 e40) (fun hh41 hR_tt42 => ?_)
      exact ih _ _ _ _ _ _ hR_tt42  H
set_option maxHeartbeats 4000000 in
set_option maxRecDepth 100000 in
theorem sX9_who  {h : am_H} {t : tS} {r : Int32} {t1 : tS} (hR_t : Rp h t)  (H : tX9_who  t = some (r, t1)) : ex (fX9_who 0 h) (fun p => r = p.1 ∧ Rp p.2 t1) := by
  unfold tX9_who at H
  unfold fX9_who
  refine ex.bd (r_isO hR_t lk8) ?_
  obtain ⟨eD2, iD3⟩ := r_gD hR_t (k := 9) (by decide) (by decide)
  refine ex.bd eD2 ?_
  refine ex.bd (r_gI hR_t (lc7 iD3) rfl) ?_
  refine ex.bd (r_gR hR_t lk8 rfl) ?_
  refine ex.bd (r_gR hR_t lk8 rfl) ?_
  obtain ⟨tt9, e7, H⟩ := am_bd H
  refine ex.j1 (sX6_copyFrom hR_t (show ly_Is 5 10 by decide) (show ly_Is 5 3 by decide) e7) (fun hh8 hR_tt9 => ?_)
  obtain ⟨lw43, tt45, E47, H⟩ := am_bd2 H
  refine ex.j2 (sX9_who_L25 _ _ _ _ _ _ _ hR_tt9  E47) (fun z46 hh44 hq => ?_)
  clear E47
  obtain ⟨rfl, hR_tt45⟩ : lw43 = z46 ∧ Rp hh44 tt45 := hq
  obtain ⟨rfl, rfl⟩ := am_inj2 H
  exact ex.nd ⟨rfl, hR_tt45⟩
def tX9_mostTogether_L4 : Nat → Int32 → Int32 → Int32 → tS → Option (Int32)
  | 0, _, _, _, _ => none
  | n + 1, v1, v2, v3, t =>
    if (t.1 (t.2.2.2.2 0 9) 11) ≤ v3 then
      some v2
    else
      (tX6_guests 10 (t.2.2.2.2 0 9) v3 t).bind fun x11 =>
      (tJ6_bitCount_0f7a4 (v1 &&& x11) t).bind fun x14 =>
      (tJ9_max_7cf53 v2 x14 t).bind fun x17 =>
      tX9_mostTogether_L4 n v1 x17 (v3 + (1 : Int32)) t
def tX9_mostTogether (a1 : Int32) (t : tS) : Option (Int32) :=
  Option.bind (tX9_mostTogether_L4 4000 a1 ((0 : Int32)) ((-1 : Int32)) t) fun lw19 =>
  some lw19
set_option maxHeartbeats 4000000 in
set_option maxRecDepth 100000 in
theorem sX9_mostTogether_L4 : ∀ (n : Nat) (v1 : Int32) (v2 : Int32) (v3 : Int32) (h : am_H) (t : tS) (w2 : Int32), Rp h t → tX9_mostTogether_L4 n v1 v2 v3 t = some w2 → ex (fX9_mostTogether_L4 n 0 v1 v2 v3 h) (fun p => w2 = p) := by
  intro n
  induction n with
  | zero => intro _ _ _ _ _ _ _ H; cases H
  | succ n ih =>
    intro v1 v2 v3 h t w2 hR_t H
    rw [tX9_mostTogether_L4] at H
    rw [fX9_mostTogether_L4]
    obtain ⟨eD2, iD3⟩ := r_gD hR_t (k := 9) (by decide) (by decide)
    refine ex.bd eD2 ?_
    refine ex.bd (r_gI hR_t (lc7 iD3) rfl) ?_
    by_cases c5 : (t.1 (t.2.2.2.2 0 9) 11) ≤ v3
    · rw [if_pos c5] at H
      refine ex.t c5 ?_
      obtain rfl := Option.some.inj H
      exact ex.nd rfl
    · rw [if_neg c5] at H
      refine ex.f c5 ?_
      refine ex.bd (r_gR hR_t lk8 rfl) ?_
      obtain ⟨eD8, iD9⟩ := r_gD hR_t (k := 9) (by decide) (by decide)
      refine ex.bd eD8 ?_
      obtain ⟨x11, e10, H⟩ := am_bd H
      refine ex.j1 (sX6_guests hR_t (show ly_Is 5 10 by decide) iD9 e10) (fun z12 hz => ?_)
      obtain rfl : x11 = z12 := hz
      obtain ⟨x14, e13, H⟩ := am_bd H
      refine ex.j1 (sJ6_bitCount_0f7a4 hR_t  e13) (fun z15 hz => ?_)
      obtain rfl : x14 = z15 := hz
      obtain ⟨x17, e16, H⟩ := am_bd H
      refine ex.j1 (sJ9_max_7cf53 hR_t  e16) (fun z18 hz => ?_)
      obtain rfl : x17 = z18 := hz
      exact ih _ _ _ _ _ _ hR_t  H
set_option maxHeartbeats 4000000 in
set_option maxRecDepth 100000 in
theorem sX9_mostTogether {a1 : Int32} {h : am_H} {t : tS} {r : Int32} (hR_t : Rp h t)  (H : tX9_mostTogether a1 t = some r) : ex (fX9_mostTogether 0 a1 h) (fun x => r = x) := by
  unfold tX9_mostTogether at H
  unfold fX9_mostTogether
  refine ex.bd (r_isO hR_t lk8) ?_
  obtain ⟨lw19, E21, H⟩ := am_bd H
  refine ex.j1 (sX9_mostTogether_L4 _ _ _ _ _ _ _ hR_t  E21) (fun z20 hq => ?_)
  clear E21
  obtain rfl : lw19 = z20 := hq
  obtain rfl := Option.some.inj H
  exact ex.nd rfl
def tX9_look_L26 : Nat → Int32 → Int32 → Int32 → Int32 → tS → Option (Int32 × tS)
  | 0, _, _, _, _, _ => none
  | n + 1, v1, v2, v3, v4, t =>
    if ((24 : Int32)) < v4 then
      some (v2, t)
    else
      (tX9_mostTogether v1 t).bind fun x16 =>
      am_b2 (
        if v3 ≤ x16 then
          some (v2, v3)
        else
          some (v4, x16)) fun jv18 jv19 =>
      (tX6_passDate 10 (t.2.2.2.2 0 9) t).bind fun tt27 =>
      tX9_look_L26 n v1 jv18 jv19 (v4 + (1 : Int32)) tt27
def tX9_look  (t : tS) : Option (Int32 × tS) :=
  am_b2 (tX9_who  t) fun x2 tt4 =>
  (tJ6_bitCount_0f7a4 x2 tt4).bind fun x7 =>
  (tX6_copyFrom 10 3 tt4).bind fun tt13 =>
  am_b2 (tX9_look_L26 4000 x2 ((-1 : Int32)) x7 ((0 : Int32)) tt13) fun lw31 tt33 =>
  some (lw31, tt33)
set_option maxHeartbeats 4000000 in
set_option maxRecDepth 100000 in
theorem sX9_look_L26 : ∀ (n : Nat) (v1 : Int32) (v2 : Int32) (v3 : Int32) (v4 : Int32) (h : am_H) (t : tS) (w2 : Int32) (t1 : tS), Rp h t → tX9_look_L26 n v1 v2 v3 v4 t = some (w2, t1) → ex (fX9_look_L26 n 0 v1 v2 v3 v4 h) (fun p => w2 = p.1 ∧ Rp p.2 t1) := by
  intro n
  induction n with
  | zero => intro _ _ _ _ _ _ _ _ _ H; cases H
  | succ n ih =>
    intro v1 v2 v3 v4 h t w2 t1 hR_t H
    rw [tX9_look_L26] at H
    rw [fX9_look_L26]
    by_cases c14 : ((24 : Int32)) < v4
    · rw [if_pos c14] at H
      refine ex.t c14 ?_
      obtain ⟨rfl, rfl⟩ := am_inj2 H
      exact ex.nd ⟨rfl, hR_t⟩
    · rw [if_neg c14] at H
      refine ex.f c14 ?_
      obtain ⟨x16, e15, H⟩ := am_bd H
      refine ex.j1 (sX9_mostTogether hR_t  e15) (fun z17 hz => ?_)
      obtain rfl : x16 = z17 := hz
      obtain ⟨jv18, jv19, E28, H⟩ := am_bd2 H
      refine ex.j2 (Q := fun p => jv18 = p.1 ∧ jv19 = p.2) ?_ (fun z29 z30 hq => ?_)
      · clear H
        have H := E28
        clear E28
        by_cases c20 : v3 ≤ x16
        · rw [if_pos c20] at H
          refine ex.t c20 ?_
          obtain ⟨rfl, rfl⟩ := am_inj2 H
          exact ex.nd ⟨rfl, rfl⟩
        · rw [if_neg c20] at H
          refine ex.f c20 ?_
          obtain ⟨rfl, rfl⟩ := am_inj2 H
          exact ex.nd ⟨rfl, rfl⟩
      · clear E28
        obtain ⟨rfl, rfl⟩ : jv18 = z29 ∧ jv19 = z30 := hq
        refine ex.bd (r_gR hR_t lk8 rfl) ?_
        obtain ⟨eD23, iD24⟩ := r_gD hR_t (k := 9) (by decide) (by decide)
        refine ex.bd eD23 ?_
        obtain ⟨tt27, e25, H⟩ := am_bd H
        refine ex.j1 (sX6_passDate hR_t (show ly_Is 5 10 by decide) iD24 e25) (fun hh26 hR_tt27 => ?_)
        exact ih _ _ _ _ _ _ _ _ hR_tt27  H
set_option maxHeartbeats 4000000 in
set_option maxRecDepth 100000 in
theorem sX9_look  {h : am_H} {t : tS} {r : Int32} {t1 : tS} (hR_t : Rp h t)  (H : tX9_look  t = some (r, t1)) : ex (fX9_look 0 h) (fun p => r = p.1 ∧ Rp p.2 t1) := by
  unfold tX9_look at H
  unfold fX9_look
  refine ex.bd (r_isO hR_t lk8) ?_
  obtain ⟨x2, tt4, e1, H⟩ := am_bd2 H
  refine ex.j2 (sX9_who hR_t  e1) (fun z5 hh3 hz => ?_)
  obtain ⟨rfl, hR_tt4⟩ : x2 = z5 ∧ Rp hh3 tt4 := hz
  obtain ⟨x7, e6, H⟩ := am_bd H
  refine ex.j1 (sJ6_bitCount_0f7a4 hR_tt4  e6) (fun z8 hz => ?_)
  obtain rfl : x7 = z8 := hz
  refine ex.bd (r_gR hR_tt4 lk8 rfl) ?_
  refine ex.bd (r_gR hR_tt4 lk8 rfl) ?_
  obtain ⟨tt13, e11, H⟩ := am_bd H
  refine ex.j1 (sX6_copyFrom hR_tt4 (show ly_Is 5 10 by decide) (show ly_Is 5 3 by decide) e11) (fun hh12 hR_tt13 => ?_)
  obtain ⟨lw31, tt33, E35, H⟩ := am_bd2 H
  refine ex.j2 (sX9_look_L26 _ _ _ _ _ _ _ _ _ hR_tt13  E35) (fun z34 hh32 hq => ?_)
  clear E35
  obtain ⟨rfl, hR_tt33⟩ : lw31 = z34 ∧ Rp hh32 tt33 := hq
  obtain ⟨rfl, rfl⟩ := am_inj2 H
  exact ex.nd ⟨rfl, hR_tt33⟩
def tX9_lendersOf_L4 : Nat → Int32 → Int32 → Int32 → tS → Option (Int32)
  | 0, _, _, _, _ => none
  | n + 1, v1, v2, v3, t =>
    if (t.1 (t.2.2.2.2 0 9) 11) ≤ v3 then
      some v2
    else
      (tX9_has v1 v3 t).bind fun x7 =>
      Option.bind (
        if x7 = 0 then
          some v2
        else
          (tA t (t.2.2.2.2 0 9 + 3) 4 v3).bind fun x15 =>
          some (v2 ||| x15)) fun jv9 =>
      tX9_lendersOf_L4 n v1 jv9 (v3 + (1 : Int32)) t
def tX9_lendersOf (a1 : Int32) (t : tS) : Option (Int32) :=
  Option.bind (tX9_lendersOf_L4 4000 a1 ((0 : Int32)) ((0 : Int32)) t) fun lw19 =>
  some lw19
set_option maxHeartbeats 4000000 in
set_option maxRecDepth 100000 in
theorem sX9_lendersOf_L4 : ∀ (n : Nat) (v1 : Int32) (v2 : Int32) (v3 : Int32) (h : am_H) (t : tS) (w2 : Int32), Rp h t → tX9_lendersOf_L4 n v1 v2 v3 t = some w2 → ex (fX9_lendersOf_L4 n 0 v1 v2 v3 h) (fun p => w2 = p) := by
  intro n
  induction n with
  | zero => intro _ _ _ _ _ _ _ H; cases H
  | succ n ih =>
    intro v1 v2 v3 h t w2 hR_t H
    rw [tX9_lendersOf_L4] at H
    rw [fX9_lendersOf_L4]
    obtain ⟨eD2, iD3⟩ := r_gD hR_t (k := 9) (by decide) (by decide)
    refine ex.bd eD2 ?_
    refine ex.bd (r_gI hR_t (lc7 iD3) rfl) ?_
    by_cases c5 : (t.1 (t.2.2.2.2 0 9) 11) ≤ v3
    · rw [if_pos c5] at H
      refine ex.t c5 ?_
      obtain rfl := Option.some.inj H
      exact ex.nd rfl
    · rw [if_neg c5] at H
      refine ex.f c5 ?_
      obtain ⟨x7, e6, H⟩ := am_bd H
      refine ex.j1 (sX9_has hR_t  e6) (fun z8 hz => ?_)
      obtain rfl : x7 = z8 := hz
      obtain ⟨jv9, E17, H⟩ := am_bd H
      refine ex.j1 (Q := fun p => jv9 = p) ?_ (fun z18 hq => ?_)
      · clear H
        have H := E17
        clear E17
        by_cases c10 : x7 = 0
        · rw [if_pos c10] at H
          refine ex.t c10 ?_
          obtain rfl := Option.some.inj H
          exact ex.nd rfl
        · rw [if_neg c10] at H
          refine ex.f c10 ?_
          obtain ⟨eD12, iD13⟩ := r_gD hR_t (k := 9) (by decide) (by decide)
          refine ex.bd eD12 ?_
          refine ex.bd (r_gR hR_t (lc7 iD13) rfl) ?_
          obtain ⟨x15, e16, H⟩ := am_bd H
          refine ex.bd (r_aI hR_t (la7_2 iD13) e16) ?_
          obtain rfl := Option.some.inj H
          exact ex.nd rfl
      · clear E17
        obtain rfl : jv9 = z18 := hq
        exact ih _ _ _ _ _ _ hR_t  H
set_option maxHeartbeats 4000000 in
set_option maxRecDepth 100000 in
theorem sX9_lendersOf {a1 : Int32} {h : am_H} {t : tS} {r : Int32} (hR_t : Rp h t)  (H : tX9_lendersOf a1 t = some r) : ex (fX9_lendersOf 0 a1 h) (fun x => r = x) := by
  unfold tX9_lendersOf at H
  unfold fX9_lendersOf
  refine ex.bd (r_isO hR_t lk8) ?_
  obtain ⟨lw19, E21, H⟩ := am_bd H
  refine ex.j1 (sX9_lendersOf_L4 _ _ _ _ _ _ _ hR_t  E21) (fun z20 hq => ?_)
  clear E21
  obtain rfl : lw19 = z20 := hq
  obtain rfl := Option.some.inj H
  exact ex.nd rfl
def tX9_through_L25 : Nat → Int32 → Int32 → Int32 → tS → Option ((Unit) ⊕ (Int32))
  | 0, _, _, _, _ => none
  | n + 1, v2, v3, v4, t =>
    if (t.1 (t.2.2.2.2 0 9) 11) ≤ v4 then
      some (.inl ())
    else
      (tX9_has v3 v2 t).bind fun x15 =>
      if x15 = 0 then
        (tX9_lendersOf v3 t).bind fun x19 =>
        tX9_through_L25 n v2 (v3 ||| x19) (v4 + (1 : Int32)) t
      else
        some (.inr v4)
def tX9_through (a1 : Int32) (a2 : Int32) (t : tS) : Option (Int32) :=
  (tX9_isHouse a1 t).bind fun x2 =>
  if x2 = 0 then
    some ((-1 : Int32))
  else
    (tX9_isHouse a2 t).bind fun x6 =>
    if ¬ x6 = 0 then
      (tX9_through_L25 4000 a2 (((1 : Int32)) <<< (a1 &&& 31)) ((0 : Int32)) t).bind fun o22 => match o22 with
        | .inl _ =>
          some ((-1 : Int32))
        | .inr y23 => some y23
    else
      some ((-1 : Int32))
set_option maxHeartbeats 4000000 in
set_option maxRecDepth 100000 in
theorem sX9_through_L25 : ∀ (n : Nat) (v2 : Int32) (v3 : Int32) (v4 : Int32) (h : am_H) (t : tS) (o : (Unit) ⊕ (Int32)), Rp h t → tX9_through_L25 n v2 v3 v4 t = some o → ex (fX9_through_L25 n 0 v2 v3 v4 h) (fun p => match o, p with
    | .inl _, .inl _ => True
    | .inr y, .inr z => y = z
    | _, _ => False) := by
  intro n
  induction n with
  | zero => intro _ _ _ _ _ _ _ H; cases H
  | succ n ih =>
    intro v2 v3 v4 h t o hR_t H
    rw [tX9_through_L25] at H
    rw [fX9_through_L25]
    obtain ⟨eD10, iD11⟩ := r_gD hR_t (k := 9) (by decide) (by decide)
    refine ex.bd eD10 ?_
    refine ex.bd (r_gI hR_t (lc7 iD11) rfl) ?_
    by_cases c13 : (t.1 (t.2.2.2.2 0 9) 11) ≤ v4
    · rw [if_pos c13] at H
      refine ex.t c13 ?_
      obtain rfl := Option.some.inj H
      exact ex.nd trivial
    · rw [if_neg c13] at H
      refine ex.f c13 ?_
      obtain ⟨x15, e14, H⟩ := am_bd H
      refine ex.j1 (sX9_has hR_t  e14) (fun z16 hz => ?_)
      obtain rfl : x15 = z16 := hz
      by_cases c17 : x15 = 0
      · rw [if_pos c17] at H
        refine ex.t c17 ?_
        obtain ⟨x19, e18, H⟩ := am_bd H
        refine ex.j1 (sX9_lendersOf hR_t  e18) (fun z20 hz => ?_)
        obtain rfl : x19 = z20 := hz
        exact ih _ _ _ _ _ _ hR_t  H
      · rw [if_neg c17] at H
        refine ex.f c17 ?_
        obtain rfl := Option.some.inj H
        exact ex.nd rfl
set_option maxHeartbeats 4000000 in
set_option maxRecDepth 100000 in
theorem sX9_through {a1 : Int32} {a2 : Int32} {h : am_H} {t : tS} {r : Int32} (hR_t : Rp h t)  (H : tX9_through a1 a2 t = some r) : ex (fX9_through 0 a1 a2 h) (fun x => r = x) := by
  unfold tX9_through at H
  unfold fX9_through
  refine ex.bd (r_isO hR_t lk8) ?_
  obtain ⟨x2, e1, H⟩ := am_bd H
  refine ex.j1 (sX9_isHouse hR_t  e1) (fun z3 hz => ?_)
  obtain rfl : x2 = z3 := hz
  by_cases c4 : x2 = 0
  · rw [if_pos c4] at H
    refine ex.t c4 ?_
    obtain rfl := Option.some.inj H
    exact ex.nd rfl
  · rw [if_neg c4] at H
    refine ex.f c4 ?_
    obtain ⟨x6, e5, H⟩ := am_bd H
    refine ex.j1 (sX9_isHouse hR_t  e5) (fun z7 hz => ?_)
    obtain rfl : x6 = z7 := hz
    by_cases c8 : ¬ x6 = 0
    · rw [if_pos c8] at H
      refine ex.t c8 ?_
      obtain ⟨o22, E21, H⟩ := am_bd H
      refine ex.j1 (sX9_through_L25 _ _ _ _ _ _ _ hR_t  E21) (fun p24 hq => ?_)
      clear E21
      rcases o22 with _ | y23
      · rcases p24 with _ | z25
        · dsimp only at H hq ⊢
          obtain rfl := Option.some.inj H
          exact ex.nd rfl
        · exact hq.elim
      · rcases p24 with _ | z25
        · exact hq.elim
        · dsimp only at H ⊢
          obtain rfl := Option.some.inj H
          exact ex.nd hq
    · rw [if_neg c8] at H
      refine ex.f c8 ?_
      obtain rfl := Option.some.inj H
      exact ex.nd rfl
def tX9_quiet_L4 : Nat → Int32 → Int32 → tS → Option (Int32)
  | 0, _, _, _ => none
  | n + 1, v1, v2, t =>
    if (t.1 (t.2.2.2.2 0 9) 12) ≤ v2 then
      some v1
    else
      Option.bind (
        if v1 = ((-1 : Int32)) then
          some v2
        else
          (tA t 6 6 v2).bind fun x10 =>
          (tA t 6 6 v1).bind fun x14 =>
          if x14 ≤ x10 then
            some v1
          else
            some v2) fun jv6 =>
      tX9_quiet_L4 n jv6 (v2 + (1 : Int32)) t
def tX9_quiet  (t : tS) : Option (Int32) :=
  Option.bind (tX9_quiet_L4 4000 ((-1 : Int32)) ((0 : Int32)) t) fun lw19 =>
  some lw19
set_option maxHeartbeats 4000000 in
set_option maxRecDepth 100000 in
theorem sX9_quiet_L4 : ∀ (n : Nat) (v1 : Int32) (v2 : Int32) (h : am_H) (t : tS) (w1 : Int32), Rp h t → tX9_quiet_L4 n v1 v2 t = some w1 → ex (fX9_quiet_L4 n 0 v1 v2 h) (fun p => w1 = p) := by
  intro n
  induction n with
  | zero => intro _ _ _ _ _ _ H; cases H
  | succ n ih =>
    intro v1 v2 h t w1 hR_t H
    rw [tX9_quiet_L4] at H
    rw [fX9_quiet_L4]
    obtain ⟨eD2, iD3⟩ := r_gD hR_t (k := 9) (by decide) (by decide)
    refine ex.bd eD2 ?_
    refine ex.bd (r_gI hR_t (lc7 iD3) rfl) ?_
    by_cases c5 : (t.1 (t.2.2.2.2 0 9) 12) ≤ v2
    · rw [if_pos c5] at H
      refine ex.t c5 ?_
      obtain rfl := Option.some.inj H
      exact ex.nd rfl
    · rw [if_neg c5] at H
      refine ex.f c5 ?_
      obtain ⟨jv6, E17, H⟩ := am_bd H
      refine ex.j1 (Q := fun p => jv6 = p) ?_ (fun z18 hq => ?_)
      · clear H
        have H := E17
        clear E17
        by_cases c7 : v1 = ((-1 : Int32))
        · rw [if_pos c7] at H
          refine ex.t c7 ?_
          obtain rfl := Option.some.inj H
          exact ex.nd rfl
        · rw [if_neg c7] at H
          refine ex.f c7 ?_
          refine ex.bd (r_gR hR_t lk8 rfl) ?_
          refine ex.bd (r_gR hR_t (lc5 (show ly_Is 5 3 by decide)) rfl) ?_
          obtain ⟨x10, e11, H⟩ := am_bd H
          refine ex.bd (r_aI hR_t (la5_2 (show ly_Is 5 3 by decide)) e11) ?_
          refine ex.bd (r_gR hR_t lk8 rfl) ?_
          refine ex.bd (r_gR hR_t (lc5 (show ly_Is 5 3 by decide)) rfl) ?_
          obtain ⟨x14, e15, H⟩ := am_bd H
          refine ex.bd (r_aI hR_t (la5_2 (show ly_Is 5 3 by decide)) e15) ?_
          by_cases c16 : x14 ≤ x10
          · rw [if_pos c16] at H
            refine ex.t c16 ?_
            obtain rfl := Option.some.inj H
            exact ex.nd rfl
          · rw [if_neg c16] at H
            refine ex.f c16 ?_
            obtain rfl := Option.some.inj H
            exact ex.nd rfl
      · clear E17
        obtain rfl : jv6 = z18 := hq
        exact ih _ _ _ _ _ hR_t  H
set_option maxHeartbeats 4000000 in
set_option maxRecDepth 100000 in
theorem sX9_quiet  {h : am_H} {t : tS} {r : Int32} (hR_t : Rp h t)  (H : tX9_quiet  t = some r) : ex (fX9_quiet 0 h) (fun x => r = x) := by
  unfold tX9_quiet at H
  unfold fX9_quiet
  refine ex.bd (r_isO hR_t lk8) ?_
  obtain ⟨lw19, E21, H⟩ := am_bd H
  refine ex.j1 (sX9_quiet_L4 _ _ _ _ _ _ hR_t  E21) (fun z20 hq => ?_)
  clear E21
  obtain rfl : lw19 = z20 := hq
  obtain rfl := Option.some.inj H
  exact ex.nd rfl
def tX9_peace_L4 : Nat → Int32 → Int32 → tS → Option (Int32)
  | 0, _, _, _ => none
  | n + 1, v1, v2, t =>
    if (t.1 (t.2.2.2.2 0 9) 11) ≤ v2 then
      some v1
    else
      (tX6_guests 3 (t.2.2.2.2 0 9) v2 t).bind fun x11 =>
      (tJ6_bitCount_0f7a4 x11 t).bind fun x14 =>
      (am_dv (x14 * (x14 - ((1 : Int32)))) ((2 : Int32))).bind fun q16 =>
      tX9_peace_L4 n (v1 + q16) (v2 + (1 : Int32)) t
def tX9_peace  (t : tS) : Option (Int32) :=
  Option.bind (tX9_peace_L4 4000 ((0 : Int32)) ((0 : Int32)) t) fun lw18 =>
  some lw18
set_option maxHeartbeats 4000000 in
set_option maxRecDepth 100000 in
theorem sX9_peace_L4 : ∀ (n : Nat) (v1 : Int32) (v2 : Int32) (h : am_H) (t : tS) (w1 : Int32), Rp h t → tX9_peace_L4 n v1 v2 t = some w1 → ex (fX9_peace_L4 n 0 v1 v2 h) (fun p => w1 = p) := by
  intro n
  induction n with
  | zero => intro _ _ _ _ _ _ H; cases H
  | succ n ih =>
    intro v1 v2 h t w1 hR_t H
    rw [tX9_peace_L4] at H
    rw [fX9_peace_L4]
    obtain ⟨eD2, iD3⟩ := r_gD hR_t (k := 9) (by decide) (by decide)
    refine ex.bd eD2 ?_
    refine ex.bd (r_gI hR_t (lc7 iD3) rfl) ?_
    by_cases c5 : (t.1 (t.2.2.2.2 0 9) 11) ≤ v2
    · rw [if_pos c5] at H
      refine ex.t c5 ?_
      obtain rfl := Option.some.inj H
      exact ex.nd rfl
    · rw [if_neg c5] at H
      refine ex.f c5 ?_
      refine ex.bd (r_gR hR_t lk8 rfl) ?_
      obtain ⟨eD8, iD9⟩ := r_gD hR_t (k := 9) (by decide) (by decide)
      refine ex.bd eD8 ?_
      obtain ⟨x11, e10, H⟩ := am_bd H
      refine ex.j1 (sX6_guests hR_t (show ly_Is 5 3 by decide) iD9 e10) (fun z12 hz => ?_)
      obtain rfl : x11 = z12 := hz
      obtain ⟨x14, e13, H⟩ := am_bd H
      refine ex.j1 (sJ6_bitCount_0f7a4 hR_t  e13) (fun z15 hz => ?_)
      obtain rfl : x14 = z15 := hz
      obtain ⟨q16, e17, H⟩ := am_bd H
      refine ex.bd e17 ?_
      exact ih _ _ _ _ _ hR_t  H
set_option maxHeartbeats 4000000 in
set_option maxRecDepth 100000 in
theorem sX9_peace  {h : am_H} {t : tS} {r : Int32} (hR_t : Rp h t)  (H : tX9_peace  t = some r) : ex (fX9_peace 0 h) (fun x => r = x) := by
  unfold tX9_peace at H
  unfold fX9_peace
  refine ex.bd (r_isO hR_t lk8) ?_
  obtain ⟨lw18, E20, H⟩ := am_bd H
  refine ex.j1 (sX9_peace_L4 _ _ _ _ _ _ hR_t  E20) (fun z19 hq => ?_)
  clear E20
  obtain rfl : lw18 = z19 := hq
  obtain rfl := Option.some.inj H
  exact ex.nd rfl
def tX9_loudest_L6 : Nat → Int32 → Int32 → Int32 → tS → Option (Int32)
  | 0, _, _, _, _ => none
  | n + 1, v1, v2, v3, t =>
    if (t.1 (t.2.2.2.2 0 9) 11) ≤ v3 then
      some v1
    else
      (tX6_talk 3 (t.2.2.2.2 0 9) v3 t).bind fun x11 =>
      am_b2 (
        if x11 ≤ v2 then
          some (v1, v2)
        else
          some (v3, x11)) fun jv13 jv14 =>
      tX9_loudest_L6 n jv13 jv14 (v3 + (1 : Int32)) t
def tX9_loudest  (t : tS) : Option (Int32) :=
  Option.bind (tX9_loudest_L6 4000 ((-1 : Int32)) ((0 : Int32)) ((0 : Int32)) t) fun lw19 =>
  some lw19
set_option maxHeartbeats 4000000 in
set_option maxRecDepth 100000 in
theorem sX9_loudest_L6 : ∀ (n : Nat) (v1 : Int32) (v2 : Int32) (v3 : Int32) (h : am_H) (t : tS) (w1 : Int32), Rp h t → tX9_loudest_L6 n v1 v2 v3 t = some w1 → ex (fX9_loudest_L6 n 0 v1 v2 v3 h) (fun p => w1 = p) := by
  intro n
  induction n with
  | zero => intro _ _ _ _ _ _ _ H; cases H
  | succ n ih =>
    intro v1 v2 v3 h t w1 hR_t H
    rw [tX9_loudest_L6] at H
    rw [fX9_loudest_L6]
    obtain ⟨eD2, iD3⟩ := r_gD hR_t (k := 9) (by decide) (by decide)
    refine ex.bd eD2 ?_
    refine ex.bd (r_gI hR_t (lc7 iD3) rfl) ?_
    by_cases c5 : (t.1 (t.2.2.2.2 0 9) 11) ≤ v3
    · rw [if_pos c5] at H
      refine ex.t c5 ?_
      obtain rfl := Option.some.inj H
      exact ex.nd rfl
    · rw [if_neg c5] at H
      refine ex.f c5 ?_
      refine ex.bd (r_gR hR_t lk8 rfl) ?_
      obtain ⟨eD8, iD9⟩ := r_gD hR_t (k := 9) (by decide) (by decide)
      refine ex.bd eD8 ?_
      obtain ⟨x11, e10, H⟩ := am_bd H
      refine ex.j1 (sX6_talk hR_t (show ly_Is 5 3 by decide) iD9 e10) (fun z12 hz => ?_)
      obtain rfl : x11 = z12 := hz
      obtain ⟨jv13, jv14, E16, H⟩ := am_bd2 H
      refine ex.j2 (Q := fun p => jv13 = p.1 ∧ jv14 = p.2) ?_ (fun z17 z18 hq => ?_)
      · clear H
        have H := E16
        clear E16
        by_cases c15 : x11 ≤ v2
        · rw [if_pos c15] at H
          refine ex.t c15 ?_
          obtain ⟨rfl, rfl⟩ := am_inj2 H
          exact ex.nd ⟨rfl, rfl⟩
        · rw [if_neg c15] at H
          refine ex.f c15 ?_
          obtain ⟨rfl, rfl⟩ := am_inj2 H
          exact ex.nd ⟨rfl, rfl⟩
      · clear E16
        obtain ⟨rfl, rfl⟩ : jv13 = z17 ∧ jv14 = z18 := hq
        exact ih _ _ _ _ _ _ hR_t  H
set_option maxHeartbeats 4000000 in
set_option maxRecDepth 100000 in
theorem sX9_loudest  {h : am_H} {t : tS} {r : Int32} (hR_t : Rp h t)  (H : tX9_loudest  t = some r) : ex (fX9_loudest 0 h) (fun x => r = x) := by
  unfold tX9_loudest at H
  unfold fX9_loudest
  refine ex.bd (r_isO hR_t lk8) ?_
  obtain ⟨lw19, E21, H⟩ := am_bd H
  refine ex.j1 (sX9_loudest_L6 _ _ _ _ _ _ _ hR_t  E21) (fun z20 hq => ?_)
  clear E21
  obtain rfl : lw19 = z20 := hq
  obtain rfl := Option.some.inj H
  exact ex.nd rfl
def tX9_eldest_L14 : Nat → Int32 → Int32 → Int32 → tS → Option (Int32)
  | 0, _, _, _, _ => none
  | n + 1, v1, v2, v3, t =>
    if (t.1 (t.2.2.2.2 0 9) 12) ≤ v3 then
      some v2
    else
      (tA t 7 6 v3).bind fun x12 =>
      Option.bind (
        if ¬ x12 = v1 then
          some v2
        else
          if v2 = ((-1 : Int32)) then
            some v3
          else
            (tA t 8 6 v3).bind fun x19 =>
            (tA t 8 6 v2).bind fun x23 =>
            if x19 ≤ x23 then
              some v2
            else
              some v3) fun jv14 =>
      tX9_eldest_L14 n v1 jv14 (v3 + (1 : Int32)) t
def tX9_eldest (a1 : Int32) (t : tS) : Option (Int32) :=
  (tX9_isHouse a1 t).bind fun x2 =>
  if ¬ x2 = 0 then
    Option.bind (tX9_eldest_L14 4000 a1 ((-1 : Int32)) ((0 : Int32)) t) fun lw28 =>
    some lw28
  else
    some ((-1 : Int32))
set_option maxHeartbeats 4000000 in
set_option maxRecDepth 100000 in
theorem sX9_eldest_L14 : ∀ (n : Nat) (v1 : Int32) (v2 : Int32) (v3 : Int32) (h : am_H) (t : tS) (w2 : Int32), Rp h t → tX9_eldest_L14 n v1 v2 v3 t = some w2 → ex (fX9_eldest_L14 n 0 v1 v2 v3 h) (fun p => w2 = p) := by
  intro n
  induction n with
  | zero => intro _ _ _ _ _ _ _ H; cases H
  | succ n ih =>
    intro v1 v2 v3 h t w2 hR_t H
    rw [tX9_eldest_L14] at H
    rw [fX9_eldest_L14]
    obtain ⟨eD6, iD7⟩ := r_gD hR_t (k := 9) (by decide) (by decide)
    refine ex.bd eD6 ?_
    refine ex.bd (r_gI hR_t (lc7 iD7) rfl) ?_
    by_cases c9 : (t.1 (t.2.2.2.2 0 9) 12) ≤ v3
    · rw [if_pos c9] at H
      refine ex.t c9 ?_
      obtain rfl := Option.some.inj H
      exact ex.nd rfl
    · rw [if_neg c9] at H
      refine ex.f c9 ?_
      refine ex.bd (r_gR hR_t lk8 rfl) ?_
      refine ex.bd (r_gR hR_t (lc5 (show ly_Is 5 3 by decide)) rfl) ?_
      obtain ⟨x12, e13, H⟩ := am_bd H
      refine ex.bd (r_aI hR_t (la5_3 (show ly_Is 5 3 by decide)) e13) ?_
      obtain ⟨jv14, E26, H⟩ := am_bd H
      refine ex.j1 (Q := fun p => jv14 = p) ?_ (fun z27 hq => ?_)
      · clear H
        have H := E26
        clear E26
        by_cases c15 : ¬ x12 = v1
        · rw [if_pos c15] at H
          refine ex.t c15 ?_
          obtain rfl := Option.some.inj H
          exact ex.nd rfl
        · rw [if_neg c15] at H
          refine ex.f c15 ?_
          by_cases c16 : v2 = ((-1 : Int32))
          · rw [if_pos c16] at H
            refine ex.t c16 ?_
            obtain rfl := Option.some.inj H
            exact ex.nd rfl
          · rw [if_neg c16] at H
            refine ex.f c16 ?_
            refine ex.bd (r_gR hR_t lk8 rfl) ?_
            refine ex.bd (r_gR hR_t (lc5 (show ly_Is 5 3 by decide)) rfl) ?_
            obtain ⟨x19, e20, H⟩ := am_bd H
            refine ex.bd (r_aI hR_t (la5_4 (show ly_Is 5 3 by decide)) e20) ?_
            refine ex.bd (r_gR hR_t lk8 rfl) ?_
            refine ex.bd (r_gR hR_t (lc5 (show ly_Is 5 3 by decide)) rfl) ?_
            obtain ⟨x23, e24, H⟩ := am_bd H
            refine ex.bd (r_aI hR_t (la5_4 (show ly_Is 5 3 by decide)) e24) ?_
            by_cases c25 : x19 ≤ x23
            · rw [if_pos c25] at H
              refine ex.t c25 ?_
              obtain rfl := Option.some.inj H
              exact ex.nd rfl
            · rw [if_neg c25] at H
              refine ex.f c25 ?_
              obtain rfl := Option.some.inj H
              exact ex.nd rfl
      · clear E26
        obtain rfl : jv14 = z27 := hq
        exact ih _ _ _ _ _ _ hR_t  H
set_option maxHeartbeats 4000000 in
set_option maxRecDepth 100000 in
theorem sX9_eldest {a1 : Int32} {h : am_H} {t : tS} {r : Int32} (hR_t : Rp h t)  (H : tX9_eldest a1 t = some r) : ex (fX9_eldest 0 a1 h) (fun x => r = x) := by
  unfold tX9_eldest at H
  unfold fX9_eldest
  refine ex.bd (r_isO hR_t lk8) ?_
  obtain ⟨x2, e1, H⟩ := am_bd H
  refine ex.j1 (sX9_isHouse hR_t  e1) (fun z3 hz => ?_)
  obtain rfl : x2 = z3 := hz
  by_cases c4 : ¬ x2 = 0
  · rw [if_pos c4] at H
    refine ex.t c4 ?_
    obtain ⟨lw28, E30, H⟩ := am_bd H
    refine ex.j1 (sX9_eldest_L14 _ _ _ _ _ _ _ hR_t  E30) (fun z29 hq => ?_)
    clear E30
    obtain rfl : lw28 = z29 := hq
    obtain rfl := Option.some.inj H
    exact ex.nd rfl
  · rw [if_neg c4] at H
    refine ex.f c4 ?_
    obtain rfl := Option.some.inj H
    exact ex.nd rfl
def tX9_spare_L4 : Nat → Int32 → Int32 → tS → Option (Int32 × tS)
  | 0, _, _, _ => none
  | n + 1, v1, v2, t =>
    if (t.1 (t.2.2.2.2 0 9) 11) ≤ v2 then
      some (v1, t)
    else
      (tA t 4 4 v2).bind fun x8 =>
      am_b2 (
        if x8 ≤ ((1 : Int32)) then
          some (v1, t)
        else
          (tX6_copyFrom 10 3 t).bind fun tt18 =>
          (tA tt18 11 4 v2).bind fun x21 =>
          (tWA tt18 0 11 4 v2 (x21 - ((1 : Int32)))).bind fun tt24 =>
          am_b2 (tX9_noneTurnedOff ((24 : Int32)) tt24) fun x28 tt30 =>
          if x28 = 0 then
            some (v1, tt30)
          else
            some (v1 ||| (((1 : Int32)) <<< (v2 &&& 31)), tt30)) fun jv10 tt12 =>
      tX9_spare_L4 n jv10 (v2 + (1 : Int32)) tt12
def tX9_spare  (t : tS) : Option (Int32 × tS) :=
  am_b2 (tX9_spare_L4 4000 ((0 : Int32)) ((0 : Int32)) t) fun lw35 tt37 =>
  some (lw35, tt37)
set_option maxHeartbeats 4000000 in
set_option maxRecDepth 100000 in
theorem sX9_spare_L4 : ∀ (n : Nat) (v1 : Int32) (v2 : Int32) (h : am_H) (t : tS) (w1 : Int32) (t1 : tS), Rp h t → tX9_spare_L4 n v1 v2 t = some (w1, t1) → ex (fX9_spare_L4 n 0 v1 v2 h) (fun p => w1 = p.1 ∧ Rp p.2 t1) := by
  intro n
  induction n with
  | zero => intro _ _ _ _ _ _ _ H; cases H
  | succ n ih =>
    intro v1 v2 h t w1 t1 hR_t H
    rw [tX9_spare_L4] at H
    rw [fX9_spare_L4]
    obtain ⟨eD2, iD3⟩ := r_gD hR_t (k := 9) (by decide) (by decide)
    refine ex.bd eD2 ?_
    refine ex.bd (r_gI hR_t (lc7 iD3) rfl) ?_
    by_cases c5 : (t.1 (t.2.2.2.2 0 9) 11) ≤ v2
    · rw [if_pos c5] at H
      refine ex.t c5 ?_
      obtain ⟨rfl, rfl⟩ := am_inj2 H
      exact ex.nd ⟨rfl, hR_t⟩
    · rw [if_neg c5] at H
      refine ex.f c5 ?_
      refine ex.bd (r_gR hR_t lk8 rfl) ?_
      refine ex.bd (r_gR hR_t (lc5 (show ly_Is 5 3 by decide)) rfl) ?_
      obtain ⟨x8, e9, H⟩ := am_bd H
      refine ex.bd (r_aI hR_t (la5_0 (show ly_Is 5 3 by decide)) e9) ?_
      obtain ⟨jv10, tt12, E33, H⟩ := am_bd2 H
      refine ex.j2 (Q := fun p => jv10 = p.1 ∧ Rp p.2 tt12) ?_ (fun z34 hh11 hq => ?_)
      · clear H
        have H := E33
        clear E33
        by_cases c13 : x8 ≤ ((1 : Int32))
        · rw [if_pos c13] at H
          refine ex.t c13 ?_
          obtain ⟨rfl, rfl⟩ := am_inj2 H
          exact ex.nd ⟨rfl, hR_t⟩
        · rw [if_neg c13] at H
          refine ex.f c13 ?_
          refine ex.bd (r_gR hR_t lk8 rfl) ?_
          refine ex.bd (r_gR hR_t lk8 rfl) ?_
          obtain ⟨tt18, e16, H⟩ := am_bd H
          refine ex.j1 (sX6_copyFrom hR_t (show ly_Is 5 10 by decide) (show ly_Is 5 3 by decide) e16) (fun hh17 hR_tt18 => ?_)
          refine ex.bd (r_gR hR_tt18 lk8 rfl) ?_
          refine ex.bd (r_gR hR_tt18 (lc5 (show ly_Is 5 10 by decide)) rfl) ?_
          obtain ⟨x21, e22, H⟩ := am_bd H
          refine ex.bd (r_aI hR_tt18 (la5_0 (show ly_Is 5 10 by decide)) e22) ?_
          obtain ⟨tt24, e25, H⟩ := am_bd H
          obtain ⟨hh23, e26, hR_tt24⟩ := r_sI hR_tt18 (la5_0 (show ly_Is 5 10 by decide)) e25
          refine ex.bd e26 ?_
          obtain ⟨x28, tt30, e27, H⟩ := am_bd2 H
          refine ex.j2 (sX9_noneTurnedOff hR_tt24  e27) (fun z31 hh29 hz => ?_)
          obtain ⟨rfl, hR_tt30⟩ : x28 = z31 ∧ Rp hh29 tt30 := hz
          by_cases c32 : x28 = 0
          · rw [if_pos c32] at H
            refine ex.t c32 ?_
            obtain ⟨rfl, rfl⟩ := am_inj2 H
            exact ex.nd ⟨rfl, hR_tt30⟩
          · rw [if_neg c32] at H
            refine ex.f c32 ?_
            obtain ⟨rfl, rfl⟩ := am_inj2 H
            exact ex.nd ⟨rfl, hR_tt30⟩
      · clear E33
        obtain ⟨rfl, hR_tt12⟩ : jv10 = z34 ∧ Rp hh11 tt12 := hq
        exact ih _ _ _ _ _ _ hR_tt12  H
set_option maxHeartbeats 4000000 in
set_option maxRecDepth 100000 in
theorem sX9_spare  {h : am_H} {t : tS} {r : Int32} {t1 : tS} (hR_t : Rp h t)  (H : tX9_spare  t = some (r, t1)) : ex (fX9_spare 0 h) (fun p => r = p.1 ∧ Rp p.2 t1) := by
  unfold tX9_spare at H
  unfold fX9_spare
  refine ex.bd (r_isO hR_t lk8) ?_
  obtain ⟨lw35, tt37, E39, H⟩ := am_bd2 H
  refine ex.j2 (sX9_spare_L4 _ _ _ _ _ _ _ hR_t  E39) (fun z38 hh36 hq => ?_)
  clear E39
  obtain ⟨rfl, hR_tt37⟩ : lw35 = z38 ∧ Rp hh36 tt37 := hq
  obtain ⟨rfl, rfl⟩ := am_inj2 H
  exact ex.nd ⟨rfl, hR_tt37⟩
def tX9_isTurnedOffBy_L14 : Nat → Int32 → Int32 → Int32 → Int32 → tS → Option ((tS) ⊕ (Int32 × tS))
  | 0, _, _, _, _, _ => none
  | n + 1, v1, v2, v3, v4, t =>
    if v3 ≤ v4 then
      some (.inl t)
    else
      (tX9_has v1 v4 t).bind fun x8 =>
      Option.bind (
        if x8 = 0 then
          some t
        else
          (tX6_flood 10 t).bind fun tt16 =>
          some tt16) fun tt11 =>
      (tX6_passDate 10 (tt11.2.2.2.2 0 9) tt11).bind fun tt23 =>
      (tX9_has (tt23.1 10 10) v2 tt23).bind fun x27 =>
      if x27 = 0 then
        tX9_isTurnedOffBy_L14 n v1 v2 v3 (v4 + (1 : Int32)) tt23
      else
        some (.inr ((1 : Int32), tt23))
def tX9_isTurnedOffBy (a1 : Int32) (a2 : Int32) (a3 : Int32) (t : tS) : Option (Int32 × tS) :=
  (tX6_copyFrom 10 3 t).bind fun tt5 =>
  (tX9_isTurnedOffBy_L14 4000 a1 a2 a3 ((0 : Int32)) tt5).bind fun o34 => match o34 with
    | .inl tt32 =>
      some ((0 : Int32), tt32)
    | .inr y35 => some y35
set_option maxHeartbeats 4000000 in
set_option maxRecDepth 100000 in
theorem sX9_isTurnedOffBy_L14 : ∀ (n : Nat) (v1 : Int32) (v2 : Int32) (v3 : Int32) (v4 : Int32) (h : am_H) (t : tS) (o : (tS) ⊕ (Int32 × tS)), Rp h t → tX9_isTurnedOffBy_L14 n v1 v2 v3 v4 t = some o → ex (fX9_isTurnedOffBy_L14 n 0 v1 v2 v3 v4 h) (fun p => match o, p with
    | .inl t1, .inl h1 => Rp h1 t1
    | .inr y, .inr z => y.1 = z.1 ∧ Rp z.2 y.2
    | _, _ => False) := by
  intro n
  induction n with
  | zero => intro _ _ _ _ _ _ _ _ H; cases H
  | succ n ih =>
    intro v1 v2 v3 v4 h t o hR_t H
    rw [tX9_isTurnedOffBy_L14] at H
    rw [fX9_isTurnedOffBy_L14]
    by_cases c6 : v3 ≤ v4
    · rw [if_pos c6] at H
      refine ex.t c6 ?_
      obtain rfl := Option.some.inj H
      exact ex.nd hR_t
    · rw [if_neg c6] at H
      refine ex.f c6 ?_
      obtain ⟨x8, e7, H⟩ := am_bd H
      refine ex.j1 (sX9_has hR_t  e7) (fun z9 hz => ?_)
      obtain rfl : x8 = z9 := hz
      obtain ⟨tt11, E30, H⟩ := am_bd H
      refine ex.j1 (Q := fun p => Rp p tt11) ?_ (fun hh10 hq => ?_)
      · clear H
        have H := E30
        clear E30
        by_cases c12 : x8 = 0
        · rw [if_pos c12] at H
          refine ex.t c12 ?_
          obtain rfl := Option.some.inj H
          exact ex.nd hR_t
        · rw [if_neg c12] at H
          refine ex.f c12 ?_
          refine ex.bd (r_gR hR_t lk8 rfl) ?_
          obtain ⟨tt16, e14, H⟩ := am_bd H
          refine ex.j1 (sX6_flood hR_t (show ly_Is 5 10 by decide) e14) (fun hh15 hR_tt16 => ?_)
          obtain rfl := Option.some.inj H
          exact ex.nd hR_tt16
      · clear E30
        have hR_tt11 : Rp hh10 tt11 := hq
        refine ex.bd (r_gR hR_tt11 lk8 rfl) ?_
        obtain ⟨eD19, iD20⟩ := r_gD hR_tt11 (k := 9) (by decide) (by decide)
        refine ex.bd eD19 ?_
        obtain ⟨tt23, e21, H⟩ := am_bd H
        refine ex.j1 (sX6_passDate hR_tt11 (show ly_Is 5 10 by decide) iD20 e21) (fun hh22 hR_tt23 => ?_)
        refine ex.bd (r_gR hR_tt23 lk8 rfl) ?_
        refine ex.bd (r_gI hR_tt23 (lc5 (show ly_Is 5 10 by decide)) rfl) ?_
        obtain ⟨x27, e26, H⟩ := am_bd H
        refine ex.j1 (sX9_has hR_tt23  e26) (fun z28 hz => ?_)
        obtain rfl : x27 = z28 := hz
        by_cases c29 : x27 = 0
        · rw [if_pos c29] at H
          refine ex.t c29 ?_
          exact ih _ _ _ _ _ _ _ hR_tt23  H
        · rw [if_neg c29] at H
          refine ex.f c29 ?_
          obtain rfl := Option.some.inj H
          exact ex.nd ⟨rfl, hR_tt23⟩
set_option maxHeartbeats 4000000 in
set_option maxRecDepth 100000 in
theorem sX9_isTurnedOffBy {a1 : Int32} {a2 : Int32} {a3 : Int32} {h : am_H} {t : tS} {r : Int32} {t1 : tS} (hR_t : Rp h t)  (H : tX9_isTurnedOffBy a1 a2 a3 t = some (r, t1)) : ex (fX9_isTurnedOffBy 0 a1 a2 a3 h) (fun p => r = p.1 ∧ Rp p.2 t1) := by
  unfold tX9_isTurnedOffBy at H
  unfold fX9_isTurnedOffBy
  refine ex.bd (r_isO hR_t lk8) ?_
  refine ex.bd (r_gR hR_t lk8 rfl) ?_
  refine ex.bd (r_gR hR_t lk8 rfl) ?_
  obtain ⟨tt5, e3, H⟩ := am_bd H
  refine ex.j1 (sX6_copyFrom hR_t (show ly_Is 5 10 by decide) (show ly_Is 5 3 by decide) e3) (fun hh4 hR_tt5 => ?_)
  obtain ⟨o34, E33, H⟩ := am_bd H
  refine ex.j1 (sX9_isTurnedOffBy_L14 _ _ _ _ _ _ _ _ hR_tt5  E33) (fun p36 hq => ?_)
  clear E33
  rcases o34 with tt32 | y35
  · rcases p36 with hh31 | z37
    · dsimp only at H hq ⊢
      have hR_tt32 : Rp hh31 tt32 := hq
      obtain ⟨rfl, rfl⟩ := am_inj2 H
      exact ex.nd ⟨rfl, hR_tt32⟩
    · exact hq.elim
  · rcases p36 with _ | z37
    · exact hq.elim
    · dsimp only at H ⊢
      obtain rfl := Option.some.inj H
      exact ex.nd hq
def tX9_weightOf_L5 : Nat → Int32 → Int32 → Int32 → Int32 → Int32 → tS → Option (Int32)
  | 0, _, _, _, _, _, _ => none
  | n + 1, v0, v1, v2, v3, v4, t =>
    if ((6 : Int32)) ≤ v4 then
      some v3
    else
      Option.bind (
        if v4 < v1 then
          (tX9_has v0 v4 t).bind fun x5 =>
          Option.bind (
            if x5 = 0 then
              some (((10 : Int32)) - v2)
            else
              some v2) fun js7 =>
          some (v3 * js7)
        else
          some (v3 * ((10 : Int32)))) fun jv2 =>
      tX9_weightOf_L5 n v0 v1 v2 jv2 (v4 + (1 : Int32)) t
def tX9_weightOf (a0 : Int32) (a1 : Int32) (a2 : Int32) (t : tS) : Option (Int32) :=
  Option.bind (tX9_weightOf_L5 4000 a0 a1 a2 ((1 : Int32)) ((0 : Int32)) t) fun lw13 =>
  some lw13
set_option maxHeartbeats 4000000 in
set_option maxRecDepth 100000 in
theorem sX9_weightOf_L5 : ∀ (n : Nat) (v0 : Int32) (v1 : Int32) (v2 : Int32) (v3 : Int32) (v4 : Int32) (h : am_H) (t : tS) (w3 : Int32), Rp h t → tX9_weightOf_L5 n v0 v1 v2 v3 v4 t = some w3 → ex (fX9_weightOf_L5 n v0 v1 v2 v3 v4 h) (fun p => w3 = p) := by
  intro n
  induction n with
  | zero => intro _ _ _ _ _ _ _ _ _ H; cases H
  | succ n ih =>
    intro v0 v1 v2 v3 v4 h t w3 hR_t H
    rw [tX9_weightOf_L5] at H
    rw [fX9_weightOf_L5]
    by_cases c1 : ((6 : Int32)) ≤ v4
    · rw [if_pos c1] at H
      refine ex.t c1 ?_
      obtain rfl := Option.some.inj H
      exact ex.nd rfl
    · rw [if_neg c1] at H
      refine ex.f c1 ?_
      obtain ⟨jv2, E11, H⟩ := am_bd H
      refine ex.j1 (Q := fun p => jv2 = p) ?_ (fun z12 hq => ?_)
      · clear H
        have H := E11
        clear E11
        by_cases c3 : v4 < v1
        · rw [if_pos c3] at H
          refine ex.t c3 ?_
          obtain ⟨x5, e4, H⟩ := am_bd H
          refine ex.j1 (sX9_has hR_t  e4) (fun z6 hz => ?_)
          obtain rfl : x5 = z6 := hz
          obtain ⟨js7, E9, H⟩ := am_bd H
          refine ex.j1 (Q := fun p => js7 = p) ?_ (fun z10 hq => ?_)
          · clear H
            have H := E9
            clear E9
            by_cases c8 : x5 = 0
            · rw [if_pos c8] at H
              refine ex.t c8 ?_
              obtain rfl := Option.some.inj H
              exact ex.nd rfl
            · rw [if_neg c8] at H
              refine ex.f c8 ?_
              obtain rfl := Option.some.inj H
              exact ex.nd rfl
          · clear E9
            obtain rfl : js7 = z10 := hq
            obtain rfl := Option.some.inj H
            exact ex.nd rfl
        · rw [if_neg c3] at H
          refine ex.f c3 ?_
          obtain rfl := Option.some.inj H
          exact ex.nd rfl
      · clear E11
        obtain rfl : jv2 = z12 := hq
        exact ih _ _ _ _ _ _ _ _ hR_t  H
set_option maxHeartbeats 4000000 in
set_option maxRecDepth 100000 in
theorem sX9_weightOf {a0 : Int32} {a1 : Int32} {a2 : Int32} {h : am_H} {t : tS} {r : Int32} (hR_t : Rp h t)  (H : tX9_weightOf a0 a1 a2 t = some r) : ex (fX9_weightOf a0 a1 a2 h) (fun x => r = x) := by
  unfold tX9_weightOf at H
  unfold fX9_weightOf
  obtain ⟨lw13, E15, H⟩ := am_bd H
  refine ex.j1 (sX9_weightOf_L5 _ _ _ _ _ _ _ _ _ hR_t  E15) (fun z14 hq => ?_)
  clear E15
  obtain rfl : lw13 = z14 := hq
  obtain rfl := Option.some.inj H
  exact ex.nd rfl
def tX9_chance_L36 : Nat → Int32 → Int32 → Int32 → Int32 → Int32 → tS → Option (Int32 × tS)
  | 0, _, _, _, _, _, _ => none
  | n + 1, v1, v2, v3, v4, v5, t =>
    if (((1 : Int32)) <<< (v2 &&& 31)) ≤ v5 then
      some (v4, t)
    else
      (tX9_weightOf v5 v2 v3 t).bind fun x15 =>
      am_b2 (
        if x15 ≤ 0 then
          some (v4, t)
        else
          am_b2 (tX9_isTurnedOffBy v5 v1 v2 t) fun x22 tt24 =>
          if x22 = 0 then
            some (v4, tt24)
          else
            some (v4 + x15, tt24)) fun jv17 tt19 =>
      tX9_chance_L36 n v1 v2 v3 jv17 (v5 + (1 : Int32)) tt19
def tX9_chance (a1 : Int32) (a2 : Int32) (a3 : Int32) (t : tS) : Option (Int32 × tS) :=
  (tX9_isDay a1 t).bind fun x2 =>
  if x2 = 0 then
    some ((-1 : Int32), t)
  else
    (tX9_within a2 ((1 : Int32)) ((6 : Int32)) t).bind fun x6 =>
    if x6 = 0 then
      some ((-1 : Int32), t)
    else
      (tX9_within a3 ((0 : Int32)) ((10 : Int32)) t).bind fun x10 =>
      if ¬ x10 = 0 then
        am_b2 (tX9_chance_L36 4000 a1 a2 a3 ((0 : Int32)) ((0 : Int32)) t) fun lw29 tt31 =>
        some (lw29, tt31)
      else
        some ((-1 : Int32), t)
set_option maxHeartbeats 4000000 in
set_option maxRecDepth 100000 in
theorem sX9_chance_L36 : ∀ (n : Nat) (v1 : Int32) (v2 : Int32) (v3 : Int32) (v4 : Int32) (v5 : Int32) (h : am_H) (t : tS) (w4 : Int32) (t1 : tS), Rp h t → tX9_chance_L36 n v1 v2 v3 v4 v5 t = some (w4, t1) → ex (fX9_chance_L36 n 0 v1 v2 v3 v4 v5 h) (fun p => w4 = p.1 ∧ Rp p.2 t1) := by
  intro n
  induction n with
  | zero => intro _ _ _ _ _ _ _ _ _ _ H; cases H
  | succ n ih =>
    intro v1 v2 v3 v4 v5 h t w4 t1 hR_t H
    rw [tX9_chance_L36] at H
    rw [fX9_chance_L36]
    by_cases c13 : (((1 : Int32)) <<< (v2 &&& 31)) ≤ v5
    · rw [if_pos c13] at H
      refine ex.t c13 ?_
      obtain ⟨rfl, rfl⟩ := am_inj2 H
      exact ex.nd ⟨rfl, hR_t⟩
    · rw [if_neg c13] at H
      refine ex.f c13 ?_
      obtain ⟨x15, e14, H⟩ := am_bd H
      refine ex.j1 (sX9_weightOf hR_t  e14) (fun z16 hz => ?_)
      obtain rfl : x15 = z16 := hz
      obtain ⟨jv17, tt19, E27, H⟩ := am_bd2 H
      refine ex.j2 (Q := fun p => jv17 = p.1 ∧ Rp p.2 tt19) ?_ (fun z28 hh18 hq => ?_)
      · clear H
        have H := E27
        clear E27
        by_cases c20 : x15 ≤ 0
        · rw [if_pos c20] at H
          refine ex.t c20 ?_
          obtain ⟨rfl, rfl⟩ := am_inj2 H
          exact ex.nd ⟨rfl, hR_t⟩
        · rw [if_neg c20] at H
          refine ex.f c20 ?_
          obtain ⟨x22, tt24, e21, H⟩ := am_bd2 H
          refine ex.j2 (sX9_isTurnedOffBy hR_t  e21) (fun z25 hh23 hz => ?_)
          obtain ⟨rfl, hR_tt24⟩ : x22 = z25 ∧ Rp hh23 tt24 := hz
          by_cases c26 : x22 = 0
          · rw [if_pos c26] at H
            refine ex.t c26 ?_
            obtain ⟨rfl, rfl⟩ := am_inj2 H
            exact ex.nd ⟨rfl, hR_tt24⟩
          · rw [if_neg c26] at H
            refine ex.f c26 ?_
            obtain ⟨rfl, rfl⟩ := am_inj2 H
            exact ex.nd ⟨rfl, hR_tt24⟩
      · clear E27
        obtain ⟨rfl, hR_tt19⟩ : jv17 = z28 ∧ Rp hh18 tt19 := hq
        exact ih _ _ _ _ _ _ _ _ _ hR_tt19  H
set_option maxHeartbeats 4000000 in
set_option maxRecDepth 100000 in
theorem sX9_chance {a1 : Int32} {a2 : Int32} {a3 : Int32} {h : am_H} {t : tS} {r : Int32} {t1 : tS} (hR_t : Rp h t)  (H : tX9_chance a1 a2 a3 t = some (r, t1)) : ex (fX9_chance 0 a1 a2 a3 h) (fun p => r = p.1 ∧ Rp p.2 t1) := by
  unfold tX9_chance at H
  unfold fX9_chance
  refine ex.bd (r_isO hR_t lk8) ?_
  obtain ⟨x2, e1, H⟩ := am_bd H
  refine ex.j1 (sX9_isDay hR_t  e1) (fun z3 hz => ?_)
  obtain rfl : x2 = z3 := hz
  by_cases c4 : x2 = 0
  · rw [if_pos c4] at H
    refine ex.t c4 ?_
    obtain ⟨rfl, rfl⟩ := am_inj2 H
    exact ex.nd ⟨rfl, hR_t⟩
  · rw [if_neg c4] at H
    refine ex.f c4 ?_
    obtain ⟨x6, e5, H⟩ := am_bd H
    refine ex.j1 (sX9_within hR_t  e5) (fun z7 hz => ?_)
    obtain rfl : x6 = z7 := hz
    by_cases c8 : x6 = 0
    · rw [if_pos c8] at H
      refine ex.t c8 ?_
      obtain ⟨rfl, rfl⟩ := am_inj2 H
      exact ex.nd ⟨rfl, hR_t⟩
    · rw [if_neg c8] at H
      refine ex.f c8 ?_
      obtain ⟨x10, e9, H⟩ := am_bd H
      refine ex.j1 (sX9_within hR_t  e9) (fun z11 hz => ?_)
      obtain rfl : x10 = z11 := hz
      by_cases c12 : ¬ x10 = 0
      · rw [if_pos c12] at H
        refine ex.t c12 ?_
        obtain ⟨lw29, tt31, E33, H⟩ := am_bd2 H
        refine ex.j2 (sX9_chance_L36 _ _ _ _ _ _ _ _ _ _ hR_t  E33) (fun z32 hh30 hq => ?_)
        clear E33
        obtain ⟨rfl, hR_tt31⟩ : lw29 = z32 ∧ Rp hh30 tt31 := hq
        obtain ⟨rfl, rfl⟩ := am_inj2 H
        exact ex.nd ⟨rfl, hR_tt31⟩
      · rw [if_neg c12] at H
        refine ex.f c12 ?_
        obtain ⟨rfl, rfl⟩ := am_inj2 H
        exact ex.nd ⟨rfl, hR_t⟩
def tX9_gain (a0 : Int32) (a1 : Int32) (a2 : Int32) (a3 : Int32) (a4 : Int32) (t : tS) : Option (Int32) :=
  if ¬ a0 = ((1 : Int32)) then
    Option.bind (
      if ¬ a1 = ((1 : Int32)) then
        some ((0 : Int32))
      else
        some a4) fun js2 =>
    some js2
  else
    Option.bind (
      if ¬ a1 = ((1 : Int32)) then
        some a3
      else
        some (-a2)) fun js6 =>
    some js6
set_option maxHeartbeats 4000000 in
set_option maxRecDepth 100000 in
theorem sX9_gain {a0 : Int32} {a1 : Int32} {a2 : Int32} {a3 : Int32} {a4 : Int32} {h : am_H} {t : tS} {r : Int32} (hR_t : Rp h t)  (H : tX9_gain a0 a1 a2 a3 a4 t = some r) : ex (fX9_gain a0 a1 a2 a3 a4 h) (fun x => r = x) := by
  unfold tX9_gain at H
  unfold fX9_gain
  by_cases c1 : ¬ a0 = ((1 : Int32))
  · rw [if_pos c1] at H
    refine ex.t c1 ?_
    obtain ⟨js2, E4, H⟩ := am_bd H
    refine ex.j1 (Q := fun p => js2 = p) ?_ (fun z5 hq => ?_)
    · clear H
      have H := E4
      clear E4
      by_cases c3 : ¬ a1 = ((1 : Int32))
      · rw [if_pos c3] at H
        refine ex.t c3 ?_
        obtain rfl := Option.some.inj H
        exact ex.nd rfl
      · rw [if_neg c3] at H
        refine ex.f c3 ?_
        obtain rfl := Option.some.inj H
        exact ex.nd rfl
    · clear E4
      obtain rfl : js2 = z5 := hq
      obtain rfl := Option.some.inj H
      exact ex.nd rfl
  · rw [if_neg c1] at H
    refine ex.f c1 ?_
    obtain ⟨js6, E8, H⟩ := am_bd H
    refine ex.j1 (Q := fun p => js6 = p) ?_ (fun z9 hq => ?_)
    · clear H
      have H := E8
      clear E8
      by_cases c7 : ¬ a1 = ((1 : Int32))
      · rw [if_pos c7] at H
        refine ex.t c7 ?_
        obtain rfl := Option.some.inj H
        exact ex.nd rfl
      · rw [if_neg c7] at H
        refine ex.f c7 ?_
        obtain rfl := Option.some.inj H
        exact ex.nd rfl
    · clear E8
      obtain rfl : js6 = z9 := hq
      obtain rfl := Option.some.inj H
      exact ex.nd rfl
def tX9_drawBelow (a1 : Int32) (t : tS) : Option (Int32 × tS) :=
  (am_rmL (((t.2.2.2.1 0 13) * ((1103515245 : Int64))) + ((12345 : Int64))) ((2147483648 : Int64))).bind fun q2 =>
  (some (uJ t 0 13 q2)).bind fun tt5 =>
  Option.bind (
    if a1 ≤ 0 then
      some ((0 : Int32))
    else
      (am_dvL (tt5.2.2.2.1 0 13) ((65536 : Int64))).bind fun q11 =>
      (am_rmL q11 a1.toInt64).bind fun q13 =>
      some q13.toInt32) fun js8 =>
  some (js8, tt5)
set_option maxHeartbeats 4000000 in
set_option maxRecDepth 100000 in
theorem sX9_drawBelow {a1 : Int32} {h : am_H} {t : tS} {r : Int32} {t1 : tS} (hR_t : Rp h t)  (H : tX9_drawBelow a1 t = some (r, t1)) : ex (fX9_drawBelow 0 a1 h) (fun p => r = p.1 ∧ Rp p.2 t1) := by
  unfold tX9_drawBelow at H
  unfold fX9_drawBelow
  refine ex.bd (r_isO hR_t lk8) ?_
  refine ex.bd (r_gL hR_t lk8 rfl) ?_
  obtain ⟨q2, e3, H⟩ := am_bd H
  refine ex.bd e3 ?_
  obtain ⟨tt5, et6, H⟩ := am_bd H
  obtain ⟨hh4, e7, hR_tt5⟩ := r_pL (k := 13) (x := q2) hR_t lk8 rfl rfl
  rw [Option.some.inj et6] at hR_tt5
  refine ex.bd e7 ?_
  obtain ⟨js8, E15, H⟩ := am_bd H
  refine ex.j1 (Q := fun p => js8 = p) ?_ (fun z16 hq => ?_)
  · clear H
    have H := E15
    clear E15
    by_cases c9 : a1 ≤ 0
    · rw [if_pos c9] at H
      refine ex.t c9 ?_
      obtain rfl := Option.some.inj H
      exact ex.nd rfl
    · rw [if_neg c9] at H
      refine ex.f c9 ?_
      refine ex.bd (r_gL hR_tt5 lk8 rfl) ?_
      obtain ⟨q11, e12, H⟩ := am_bd H
      refine ex.bd e12 ?_
      obtain ⟨q13, e14, H⟩ := am_bd H
      refine ex.bd e14 ?_
      obtain rfl := Option.some.inj H
      exact ex.nd rfl
  · clear E15
    obtain rfl : js8 = z16 := hq
    obtain ⟨rfl, rfl⟩ := am_inj2 H
    exact ex.nd ⟨rfl, hR_tt5⟩
def tX9_actByDraw  (t : tS) : Option (tS) :=
  am_b2 (tX9_drawBelow ((6 : Int32)) t) fun x2 tt4 =>
  Option.bind (
    if ¬ x2 = 0 then
      if ¬ x2 = ((1 : Int32)) then
        some tt4
      else
        am_b2 (tX9_drawBelow (tt4.1 (tt4.2.2.2.2 0 9) 12) tt4) fun x15 tt17 =>
        am_b2 (tX9_drawBelow (tt17.1 (tt17.2.2.2.2 0 9) 11) tt17) fun x24 tt26 =>
        (tX6_canShift 10 (tt26.2.2.2.2 0 9) x15 x24 tt26).bind fun x33 =>
        if x33 = 0 then
          some tt26
        else
          (tX6_shift 10 x15 x24 tt26).bind fun tt39 =>
          some tt39
    else
      am_b2 (tX9_drawBelow (tt4.1 (tt4.2.2.2.2 0 9) 12) tt4) fun x45 tt47 =>
      (tA tt47 14 6 x45).bind fun x51 =>
      Option.bind (
        if x51 = ((-1 : Int32)) then
          some tt47
        else
          (tX6_leave 10 x45 tt47).bind fun tt59 =>
          some tt59) fun tt54 =>
      some tt54) fun tt7 =>
  some tt7
set_option maxHeartbeats 4000000 in
set_option maxRecDepth 100000 in
theorem sX9_actByDraw  {h : am_H} {t : tS} {t1 : tS} (hR_t : Rp h t)  (H : tX9_actByDraw  t = some t1) : ex (fX9_actByDraw 0 h) (fun h1 => Rp h1 t1) := by
  unfold tX9_actByDraw at H
  unfold fX9_actByDraw
  refine ex.bd (r_isO hR_t lk8) ?_
  obtain ⟨x2, tt4, e1, H⟩ := am_bd2 H
  refine ex.j2 (sX9_drawBelow hR_t  e1) (fun z5 hh3 hz => ?_)
  obtain ⟨rfl, hR_tt4⟩ : x2 = z5 ∧ Rp hh3 tt4 := hz
  obtain ⟨tt7, E61, H⟩ := am_bd H
  refine ex.j1 (Q := fun p => Rp p tt7) ?_ (fun hh6 hq => ?_)
  · clear H
    have H := E61
    clear E61
    by_cases c8 : ¬ x2 = 0
    · rw [if_pos c8] at H
      refine ex.t c8 ?_
      by_cases c9 : ¬ x2 = ((1 : Int32))
      · rw [if_pos c9] at H
        refine ex.t c9 ?_
        obtain rfl := Option.some.inj H
        exact ex.nd hR_tt4
      · rw [if_neg c9] at H
        refine ex.f c9 ?_
        obtain ⟨eD11, iD12⟩ := r_gD hR_tt4 (k := 9) (by decide) (by decide)
        refine ex.bd eD11 ?_
        refine ex.bd (r_gI hR_tt4 (lc7 iD12) rfl) ?_
        obtain ⟨x15, tt17, e14, H⟩ := am_bd2 H
        refine ex.j2 (sX9_drawBelow hR_tt4  e14) (fun z18 hh16 hz => ?_)
        obtain ⟨rfl, hR_tt17⟩ : x15 = z18 ∧ Rp hh16 tt17 := hz
        obtain ⟨eD20, iD21⟩ := r_gD hR_tt17 (k := 9) (by decide) (by decide)
        refine ex.bd eD20 ?_
        refine ex.bd (r_gI hR_tt17 (lc7 iD21) rfl) ?_
        obtain ⟨x24, tt26, e23, H⟩ := am_bd2 H
        refine ex.j2 (sX9_drawBelow hR_tt17  e23) (fun z27 hh25 hz => ?_)
        obtain ⟨rfl, hR_tt26⟩ : x24 = z27 ∧ Rp hh25 tt26 := hz
        refine ex.bd (r_gR hR_tt26 lk8 rfl) ?_
        obtain ⟨eD30, iD31⟩ := r_gD hR_tt26 (k := 9) (by decide) (by decide)
        refine ex.bd eD30 ?_
        obtain ⟨x33, e32, H⟩ := am_bd H
        refine ex.j1 (sX6_canShift hR_tt26 (show ly_Is 5 10 by decide) iD31 e32) (fun z34 hz => ?_)
        obtain rfl : x33 = z34 := hz
        by_cases c35 : x33 = 0
        · rw [if_pos c35] at H
          refine ex.t c35 ?_
          obtain rfl := Option.some.inj H
          exact ex.nd hR_tt26
        · rw [if_neg c35] at H
          refine ex.f c35 ?_
          refine ex.bd (r_gR hR_tt26 lk8 rfl) ?_
          obtain ⟨tt39, e37, H⟩ := am_bd H
          refine ex.j1 (sX6_shift hR_tt26 (show ly_Is 5 10 by decide) e37) (fun hh38 hR_tt39 => ?_)
          obtain rfl := Option.some.inj H
          exact ex.nd hR_tt39
    · rw [if_neg c8] at H
      refine ex.f c8 ?_
      obtain ⟨eD41, iD42⟩ := r_gD hR_tt4 (k := 9) (by decide) (by decide)
      refine ex.bd eD41 ?_
      refine ex.bd (r_gI hR_tt4 (lc7 iD42) rfl) ?_
      obtain ⟨x45, tt47, e44, H⟩ := am_bd2 H
      refine ex.j2 (sX9_drawBelow hR_tt4  e44) (fun z48 hh46 hz => ?_)
      obtain ⟨rfl, hR_tt47⟩ : x45 = z48 ∧ Rp hh46 tt47 := hz
      refine ex.bd (r_gR hR_tt47 lk8 rfl) ?_
      refine ex.bd (r_gR hR_tt47 (lc5 (show ly_Is 5 10 by decide)) rfl) ?_
      obtain ⟨x51, e52, H⟩ := am_bd H
      refine ex.bd (r_aI hR_tt47 (la5_3 (show ly_Is 5 10 by decide)) e52) ?_
      obtain ⟨tt54, E60, H⟩ := am_bd H
      refine ex.j1 (Q := fun p => Rp p tt54) ?_ (fun hh53 hq => ?_)
      · clear H
        have H := E60
        clear E60
        by_cases c55 : x51 = ((-1 : Int32))
        · rw [if_pos c55] at H
          refine ex.t c55 ?_
          obtain rfl := Option.some.inj H
          exact ex.nd hR_tt47
        · rw [if_neg c55] at H
          refine ex.f c55 ?_
          refine ex.bd (r_gR hR_tt47 lk8 rfl) ?_
          obtain ⟨tt59, e57, H⟩ := am_bd H
          refine ex.j1 (sX6_leave hR_tt47 (show ly_Is 5 10 by decide) e57) (fun hh58 hR_tt59 => ?_)
          obtain rfl := Option.some.inj H
          exact ex.nd hR_tt59
      · clear E60
        have hR_tt54 : Rp hh53 tt54 := hq
        obtain rfl := Option.some.inj H
        exact ex.nd hR_tt54
  · clear E61
    have hR_tt7 : Rp hh6 tt7 := hq
    obtain rfl := Option.some.inj H
    exact ex.nd hR_tt7
def tX9_ages_L58 : Nat → Int32 → Int32 → Int32 → Int32 → Int32 → tS → Option (Int32 × Int32 × tS)
  | 0, _, _, _, _, _, _ => none
  | n + 1, v2, v3, v4, v5, v6, t =>
    if v2 ≤ v6 then
      some (v4, v5, t)
    else
      Option.bind (
        if (t.1 (t.2.2.2.2 0 9) 12) ≤ 0 then
          some t
        else
          (tX9_actByDraw  t).bind fun tt32 =>
          some tt32) fun tt28 =>
      (tX6_passDate 10 (tt28.2.2.2.2 0 9) tt28).bind fun tt39 =>
      (tJ6_bitCount_0f7a4 (tt39.1 10 9) tt39).bind fun x43 =>
      (tJ6_bitCount_0f7a4 (tt39.1 10 10) tt39).bind fun x48 =>
      tX9_ages_L58 n v2 v3 (v4 + x43) (v5 + x48) (v6 + (1 : Int32)) tt39
def tX9_ages (a1 : Int32) (a2 : Int32) (a3 : Int32) (t : tS) : Option (Int32 × tS) :=
  (tX9_within a1 ((0 : Int32)) ((9999 : Int32)) t).bind fun x2 =>
  if x2 = 0 then
    some ((-1 : Int32), t)
  else
    (tX9_within a2 ((1 : Int32)) ((99 : Int32)) t).bind fun x6 =>
    if x6 = 0 then
      some ((-1 : Int32), t)
    else
      (tX9_within a3 ((0 : Int32)) ((2 : Int32)) t).bind fun x10 =>
      if ¬ x10 = 0 then
        (some (uJ t 0 13 a1.toInt64)).bind fun tt14 =>
        (tX6_copyFrom 10 3 tt14).bind fun tt21 =>
        am_b3 (tX9_ages_L58 4000 a2 a3 ((0 : Int32)) ((0 : Int32)) ((0 : Int32)) tt21) fun lw51 lw52 tt54 =>
        if ¬ a3 = ((2 : Int32)) then
          Option.bind (
            if ¬ a3 = 0 then
              some lw52
            else
              some lw51) fun js59 =>
          some (js59, tt54)
        else
          (tX6_talkOfAll 10 (tt54.2.2.2.2 0 9) tt54).bind fun x68 =>
          some (x68, tt54)
      else
        some ((-1 : Int32), t)
set_option maxHeartbeats 4000000 in
set_option maxRecDepth 100000 in
theorem sX9_ages_L58 : ∀ (n : Nat) (v2 : Int32) (v3 : Int32) (v4 : Int32) (v5 : Int32) (v6 : Int32) (h : am_H) (t : tS) (w4 : Int32) (w5 : Int32) (t1 : tS), Rp h t → tX9_ages_L58 n v2 v3 v4 v5 v6 t = some (w4, w5, t1) → ex (fX9_ages_L58 n 0 v2 v3 v4 v5 v6 h) (fun p => w4 = p.1 ∧ w5 = p.2.1 ∧ Rp p.2.2 t1) := by
  intro n
  induction n with
  | zero => intro _ _ _ _ _ _ _ _ _ _ _ H; cases H
  | succ n ih =>
    intro v2 v3 v4 v5 v6 h t w4 w5 t1 hR_t H
    rw [tX9_ages_L58] at H
    rw [fX9_ages_L58]
    by_cases c22 : v2 ≤ v6
    · rw [if_pos c22] at H
      refine ex.t c22 ?_
      obtain ⟨rfl, rfl, rfl⟩ := am_inj3 H
      exact ex.nd ⟨rfl, rfl, hR_t⟩
    · rw [if_neg c22] at H
      refine ex.f c22 ?_
      obtain ⟨eD24, iD25⟩ := r_gD hR_t (k := 9) (by decide) (by decide)
      refine ex.bd eD24 ?_
      refine ex.bd (r_gI hR_t (lc7 iD25) rfl) ?_
      obtain ⟨tt28, E50, H⟩ := am_bd H
      refine ex.j1 (Q := fun p => Rp p tt28) ?_ (fun hh27 hq => ?_)
      · clear H
        have H := E50
        clear E50
        by_cases c29 : (t.1 (t.2.2.2.2 0 9) 12) ≤ 0
        · rw [if_pos c29] at H
          refine ex.t c29 ?_
          obtain rfl := Option.some.inj H
          exact ex.nd hR_t
        · rw [if_neg c29] at H
          refine ex.f c29 ?_
          obtain ⟨tt32, e30, H⟩ := am_bd H
          refine ex.j1 (sX9_actByDraw hR_t  e30) (fun hh31 hR_tt32 => ?_)
          obtain rfl := Option.some.inj H
          exact ex.nd hR_tt32
      · clear E50
        have hR_tt28 : Rp hh27 tt28 := hq
        refine ex.bd (r_gR hR_tt28 lk8 rfl) ?_
        obtain ⟨eD35, iD36⟩ := r_gD hR_tt28 (k := 9) (by decide) (by decide)
        refine ex.bd eD35 ?_
        obtain ⟨tt39, e37, H⟩ := am_bd H
        refine ex.j1 (sX6_passDate hR_tt28 (show ly_Is 5 10 by decide) iD36 e37) (fun hh38 hR_tt39 => ?_)
        refine ex.bd (r_gR hR_tt39 lk8 rfl) ?_
        refine ex.bd (r_gI hR_tt39 (lc5 (show ly_Is 5 10 by decide)) rfl) ?_
        obtain ⟨x43, e42, H⟩ := am_bd H
        refine ex.j1 (sJ6_bitCount_0f7a4 hR_tt39  e42) (fun z44 hz => ?_)
        obtain rfl : x43 = z44 := hz
        refine ex.bd (r_gR hR_tt39 lk8 rfl) ?_
        refine ex.bd (r_gI hR_tt39 (lc5 (show ly_Is 5 10 by decide)) rfl) ?_
        obtain ⟨x48, e47, H⟩ := am_bd H
        refine ex.j1 (sJ6_bitCount_0f7a4 hR_tt39  e47) (fun z49 hz => ?_)
        obtain rfl : x48 = z49 := hz
        exact ih _ _ _ _ _ _ _ _ _ _ hR_tt39  H
set_option maxHeartbeats 4000000 in
set_option maxRecDepth 100000 in
theorem sX9_ages {a1 : Int32} {a2 : Int32} {a3 : Int32} {h : am_H} {t : tS} {r : Int32} {t1 : tS} (hR_t : Rp h t)  (H : tX9_ages a1 a2 a3 t = some (r, t1)) : ex (fX9_ages 0 a1 a2 a3 h) (fun p => r = p.1 ∧ Rp p.2 t1) := by
  unfold tX9_ages at H
  unfold fX9_ages
  refine ex.bd (r_isO hR_t lk8) ?_
  obtain ⟨x2, e1, H⟩ := am_bd H
  refine ex.j1 (sX9_within hR_t  e1) (fun z3 hz => ?_)
  obtain rfl : x2 = z3 := hz
  by_cases c4 : x2 = 0
  · rw [if_pos c4] at H
    refine ex.t c4 ?_
    obtain ⟨rfl, rfl⟩ := am_inj2 H
    exact ex.nd ⟨rfl, hR_t⟩
  · rw [if_neg c4] at H
    refine ex.f c4 ?_
    obtain ⟨x6, e5, H⟩ := am_bd H
    refine ex.j1 (sX9_within hR_t  e5) (fun z7 hz => ?_)
    obtain rfl : x6 = z7 := hz
    by_cases c8 : x6 = 0
    · rw [if_pos c8] at H
      refine ex.t c8 ?_
      obtain ⟨rfl, rfl⟩ := am_inj2 H
      exact ex.nd ⟨rfl, hR_t⟩
    · rw [if_neg c8] at H
      refine ex.f c8 ?_
      obtain ⟨x10, e9, H⟩ := am_bd H
      refine ex.j1 (sX9_within hR_t  e9) (fun z11 hz => ?_)
      obtain rfl : x10 = z11 := hz
      by_cases c12 : ¬ x10 = 0
      · rw [if_pos c12] at H
        refine ex.t c12 ?_
        obtain ⟨tt14, et15, H⟩ := am_bd H
        obtain ⟨hh13, e16, hR_tt14⟩ := r_pL (k := 13) (x := a1.toInt64) hR_t lk8 rfl rfl
        rw [Option.some.inj et15] at hR_tt14
        refine ex.bd e16 ?_
        refine ex.bd (r_gR hR_tt14 lk8 rfl) ?_
        refine ex.bd (r_gR hR_tt14 lk8 rfl) ?_
        obtain ⟨tt21, e19, H⟩ := am_bd H
        refine ex.j1 (sX6_copyFrom hR_tt14 (show ly_Is 5 10 by decide) (show ly_Is 5 3 by decide) e19) (fun hh20 hR_tt21 => ?_)
        obtain ⟨lw51, lw52, tt54, E57, H⟩ := am_bd3 H
        refine ex.j3 (sX9_ages_L58 _ _ _ _ _ _ _ _ _ _ _ hR_tt21  E57) (fun z55 z56 hh53 hq => ?_)
        clear E57
        obtain ⟨rfl, rfl, hR_tt54⟩ : lw51 = z55 ∧ lw52 = z56 ∧ Rp hh53 tt54 := hq
        by_cases c58 : ¬ a3 = ((2 : Int32))
        · rw [if_pos c58] at H
          refine ex.t c58 ?_
          obtain ⟨js59, E61, H⟩ := am_bd H
          refine ex.j1 (Q := fun p => js59 = p) ?_ (fun z62 hq => ?_)
          · clear H
            have H := E61
            clear E61
            by_cases c60 : ¬ a3 = 0
            · rw [if_pos c60] at H
              refine ex.t c60 ?_
              obtain rfl := Option.some.inj H
              exact ex.nd rfl
            · rw [if_neg c60] at H
              refine ex.f c60 ?_
              obtain rfl := Option.some.inj H
              exact ex.nd rfl
          · clear E61
            obtain rfl : js59 = z62 := hq
            obtain ⟨rfl, rfl⟩ := am_inj2 H
            exact ex.nd ⟨rfl, hR_tt54⟩
        · rw [if_neg c58] at H
          refine ex.f c58 ?_
          refine ex.bd (r_gR hR_tt54 lk8 rfl) ?_
          obtain ⟨eD65, iD66⟩ := r_gD hR_tt54 (k := 9) (by decide) (by decide)
          refine ex.bd eD65 ?_
          obtain ⟨x68, e67, H⟩ := am_bd H
          refine ex.j1 (sX6_talkOfAll hR_tt54 (show ly_Is 5 10 by decide) iD66 e67) (fun z69 hz => ?_)
          obtain rfl : x68 = z69 := hz
          obtain ⟨rfl, rfl⟩ := am_inj2 H
          exact ex.nd ⟨rfl, hR_tt54⟩
      · rw [if_neg c12] at H
        refine ex.f c12 ?_
        obtain ⟨rfl, rfl⟩ := am_inj2 H
        exact ex.nd ⟨rfl, hR_t⟩
def tX9_mark (a1 : Int32) (a2 : Int32) (t : tS) : Option (Int32 × tS) :=
  (tX9_within a1 ((0 : Int32)) ((3 : Int32)) t).bind fun x2 =>
  if ¬ x2 = 0 then
    if ¬ a2 = 0 then
      (tQ 132 11 4 a1).bind fun r7 =>
      if ¬ (t.1 r7 2) = 0 then
        (tQ 132 11 4 a1).bind fun r15 =>
        (tX6_copyFrom 3 (r15 + 1) t).bind fun tt22 =>
        (tQ 132 11 4 a1).bind fun r25 =>
        (tX5_copyFrom 176 (r25 + 8) tt22).bind fun tt32 =>
        (some (uI tt32 17 2 ((0 : Int32)))).bind fun tt35 =>
        some ((1 : Int32), tt35)
      else
        some ((0 : Int32), t)
    else
      (tQ 132 11 4 a1).bind fun r39 =>
      (tX2_lay r39 3 176 t).bind fun tt47 =>
      some ((1 : Int32), tt47)
  else
    some ((0 : Int32), t)
set_option maxHeartbeats 4000000 in
set_option maxRecDepth 100000 in
theorem sX9_mark {a1 : Int32} {a2 : Int32} {h : am_H} {t : tS} {r : Int32} {t1 : tS} (hR_t : Rp h t)  (H : tX9_mark a1 a2 t = some (r, t1)) : ex (fX9_mark 0 a1 a2 h) (fun p => r = p.1 ∧ Rp p.2 t1) := by
  unfold tX9_mark at H
  unfold fX9_mark
  refine ex.bd (r_isO hR_t lk8) ?_
  obtain ⟨x2, e1, H⟩ := am_bd H
  refine ex.j1 (sX9_within hR_t  e1) (fun z3 hz => ?_)
  obtain rfl : x2 = z3 := hz
  by_cases c4 : ¬ x2 = 0
  · rw [if_pos c4] at H
    refine ex.t c4 ?_
    by_cases c5 : ¬ a2 = 0
    · rw [if_pos c5] at H
      refine ex.t c5 ?_
      refine ex.bd (r_gR hR_t lk8 rfl) ?_
      obtain ⟨r7, e8, H⟩ := am_bd H
      obtain ⟨q9, iq10⟩ := r_aM hR_t e8
      refine ex.bd q9 ?_
      refine ex.bd (r_gI hR_t (lc2 iq10) rfl) ?_
      by_cases c12 : ¬ (t.1 r7 2) = 0
      · rw [if_pos c12] at H
        refine ex.t c12 ?_
        refine ex.bd (r_gR hR_t lk8 rfl) ?_
        refine ex.bd (r_gR hR_t lk8 rfl) ?_
        obtain ⟨r15, e16, H⟩ := am_bd H
        obtain ⟨q17, iq18⟩ := r_aM hR_t e16
        refine ex.bd q17 ?_
        refine ex.bd (r_gR hR_t (lc2 iq18) rfl) ?_
        obtain ⟨tt22, e20, H⟩ := am_bd H
        refine ex.j1 (sX6_copyFrom hR_t (show ly_Is 5 3 by decide) (li2_0 iq18) e20) (fun hh21 hR_tt22 => ?_)
        refine ex.bd (r_gR hR_tt22 lk8 rfl) ?_
        refine ex.bd (r_gR hR_tt22 lk8 rfl) ?_
        obtain ⟨r25, e26, H⟩ := am_bd H
        obtain ⟨q27, iq28⟩ := r_aM hR_tt22 e26
        refine ex.bd q27 ?_
        refine ex.bd (r_gR hR_tt22 (lc2 iq28) rfl) ?_
        obtain ⟨tt32, e30, H⟩ := am_bd H
        refine ex.j1 (sX5_copyFrom hR_tt22 (show ly_Is 4 176 by decide) (li2_1 iq28) e30) (fun hh31 hR_tt32 => ?_)
        refine ex.bd (r_gR hR_tt32 lk8 rfl) ?_
        obtain ⟨tt35, et36, H⟩ := am_bd H
        obtain ⟨hh34, e37, hR_tt35⟩ := r_pI (k := 2) (x := (0 : Int32)) hR_tt32 lk0 rfl rfl
        rw [Option.some.inj et36] at hR_tt35
        refine ex.bd e37 ?_
        obtain ⟨rfl, rfl⟩ := am_inj2 H
        exact ex.nd ⟨rfl, hR_tt35⟩
      · rw [if_neg c12] at H
        refine ex.f c12 ?_
        obtain ⟨rfl, rfl⟩ := am_inj2 H
        exact ex.nd ⟨rfl, hR_t⟩
    · rw [if_neg c5] at H
      refine ex.f c5 ?_
      refine ex.bd (r_gR hR_t lk8 rfl) ?_
      obtain ⟨r39, e40, H⟩ := am_bd H
      obtain ⟨q41, iq42⟩ := r_aM hR_t e40
      refine ex.bd q41 ?_
      refine ex.bd (r_gR hR_t lk8 rfl) ?_
      refine ex.bd (r_gR hR_t lk8 rfl) ?_
      obtain ⟨tt47, e45, H⟩ := am_bd H
      refine ex.j1 (sX2_lay hR_t iq42 (show ly_Is 5 3 by decide) (show ly_Is 4 176 by decide) e45) (fun hh46 hR_tt47 => ?_)
      obtain ⟨rfl, rfl⟩ := am_inj2 H
      exact ex.nd ⟨rfl, hR_tt47⟩
  · rw [if_neg c4] at H
    refine ex.f c4 ?_
    obtain ⟨rfl, rfl⟩ := am_inj2 H
    exact ex.nd ⟨rfl, hR_t⟩
def tX9_count (a1 : Int32) (t : tS) : Option (Int32) :=
  if a1.toInt < 0 ∨ 12 < a1.toInt then
    some ((-1 : Int32))
  else (some (a1.toInt - 0).toNat).bind fun k2 =>
  if k2 = 0 then
    some (t.1 (t.2.2.2.2 0 9) 11)
  else if k2 = 1 then
    some (t.1 (t.2.2.2.2 0 9) 12)
  else if k2 = 2 then
    some (t.1 (t.2.2.2.2 0 9) 13)
  else if k2 = 3 then
    some (t.1 3 7)
  else if k2 = 4 then
    some (t.1 3 6)
  else if k2 = 5 then
    (tX6_somewhere 3 (t.2.2.2.2 0 9) t).bind fun x30 =>
    some x30
  else if k2 = 6 then
    (tX6_bedsOfAll 3 (t.2.2.2.2 0 9) t).bind fun x38 =>
    some x38
  else if k2 = 7 then
    some (t.1 3 8)
  else if k2 = 8 then
    (tX6_faded 3 (t.2.2.2.2 0 9) t).bind fun x49 =>
    some x49
  else if k2 = 9 then
    some (t.1 (t.2.2.2.2 0 11) 3)
  else if k2 = 10 then
    some (t.1 176 2)
  else if k2 = 11 then
    some (t.1 17 2)
  else if k2 = 12 then
    some (t.1 1 1)
  else none
set_option maxHeartbeats 4000000 in
set_option maxRecDepth 100000 in
theorem sX9_count {a1 : Int32} {h : am_H} {t : tS} {r : Int32} (hR_t : Rp h t)  (H : tX9_count a1 t = some r) : ex (fX9_count 0 a1 h) (fun x => r = x) := by
  unfold tX9_count at H
  unfold fX9_count
  refine ex.bd (r_isO hR_t lk8) ?_
  by_cases c1 : a1.toInt < 0 ∨ 12 < a1.toInt
  · rw [if_pos c1] at H
    refine ex.t c1 ?_
    obtain rfl := Option.some.inj H
    exact ex.nd rfl
  · rw [if_neg c1] at H
    refine ex.f c1 ?_
    obtain ⟨k2, e3, H⟩ := am_bd H
    refine ex.bd e3 ?_
    by_cases c8 : k2 = 0
    · rw [if_pos c8] at H
      refine ex.t c8 ?_
      obtain ⟨eD5, iD6⟩ := r_gD hR_t (k := 9) (by decide) (by decide)
      refine ex.bd eD5 ?_
      refine ex.bd (r_gI hR_t (lc7 iD6) rfl) ?_
      obtain rfl := Option.some.inj H
      exact ex.nd rfl
    · rw [if_neg c8] at H
      refine ex.f c8 ?_
      by_cases c13 : k2 = 1
      · rw [if_pos c13] at H
        refine ex.t c13 ?_
        obtain ⟨eD10, iD11⟩ := r_gD hR_t (k := 9) (by decide) (by decide)
        refine ex.bd eD10 ?_
        refine ex.bd (r_gI hR_t (lc7 iD11) rfl) ?_
        obtain rfl := Option.some.inj H
        exact ex.nd rfl
      · rw [if_neg c13] at H
        refine ex.f c13 ?_
        by_cases c18 : k2 = 2
        · rw [if_pos c18] at H
          refine ex.t c18 ?_
          obtain ⟨eD15, iD16⟩ := r_gD hR_t (k := 9) (by decide) (by decide)
          refine ex.bd eD15 ?_
          refine ex.bd (r_gI hR_t (lc7 iD16) rfl) ?_
          obtain rfl := Option.some.inj H
          exact ex.nd rfl
        · rw [if_neg c18] at H
          refine ex.f c18 ?_
          by_cases c21 : k2 = 3
          · rw [if_pos c21] at H
            refine ex.t c21 ?_
            refine ex.bd (r_gR hR_t lk8 rfl) ?_
            refine ex.bd (r_gI hR_t (lc5 (show ly_Is 5 3 by decide)) rfl) ?_
            obtain rfl := Option.some.inj H
            exact ex.nd rfl
          · rw [if_neg c21] at H
            refine ex.f c21 ?_
            by_cases c24 : k2 = 4
            · rw [if_pos c24] at H
              refine ex.t c24 ?_
              refine ex.bd (r_gR hR_t lk8 rfl) ?_
              refine ex.bd (r_gI hR_t (lc5 (show ly_Is 5 3 by decide)) rfl) ?_
              obtain rfl := Option.some.inj H
              exact ex.nd rfl
            · rw [if_neg c24] at H
              refine ex.f c24 ?_
              by_cases c32 : k2 = 5
              · rw [if_pos c32] at H
                refine ex.t c32 ?_
                refine ex.bd (r_gR hR_t lk8 rfl) ?_
                obtain ⟨eD27, iD28⟩ := r_gD hR_t (k := 9) (by decide) (by decide)
                refine ex.bd eD27 ?_
                obtain ⟨x30, e29, H⟩ := am_bd H
                refine ex.j1 (sX6_somewhere hR_t (show ly_Is 5 3 by decide) iD28 e29) (fun z31 hz => ?_)
                obtain rfl : x30 = z31 := hz
                obtain rfl := Option.some.inj H
                exact ex.nd rfl
              · rw [if_neg c32] at H
                refine ex.f c32 ?_
                by_cases c40 : k2 = 6
                · rw [if_pos c40] at H
                  refine ex.t c40 ?_
                  refine ex.bd (r_gR hR_t lk8 rfl) ?_
                  obtain ⟨eD35, iD36⟩ := r_gD hR_t (k := 9) (by decide) (by decide)
                  refine ex.bd eD35 ?_
                  obtain ⟨x38, e37, H⟩ := am_bd H
                  refine ex.j1 (sX6_bedsOfAll hR_t (show ly_Is 5 3 by decide) iD36 e37) (fun z39 hz => ?_)
                  obtain rfl : x38 = z39 := hz
                  obtain rfl := Option.some.inj H
                  exact ex.nd rfl
                · rw [if_neg c40] at H
                  refine ex.f c40 ?_
                  by_cases c43 : k2 = 7
                  · rw [if_pos c43] at H
                    refine ex.t c43 ?_
                    refine ex.bd (r_gR hR_t lk8 rfl) ?_
                    refine ex.bd (r_gI hR_t (lc5 (show ly_Is 5 3 by decide)) rfl) ?_
                    obtain rfl := Option.some.inj H
                    exact ex.nd rfl
                  · rw [if_neg c43] at H
                    refine ex.f c43 ?_
                    by_cases c51 : k2 = 8
                    · rw [if_pos c51] at H
                      refine ex.t c51 ?_
                      refine ex.bd (r_gR hR_t lk8 rfl) ?_
                      obtain ⟨eD46, iD47⟩ := r_gD hR_t (k := 9) (by decide) (by decide)
                      refine ex.bd eD46 ?_
                      obtain ⟨x49, e48, H⟩ := am_bd H
                      refine ex.j1 (sX6_faded hR_t (show ly_Is 5 3 by decide) iD47 e48) (fun z50 hz => ?_)
                      obtain rfl : x49 = z50 := hz
                      obtain rfl := Option.some.inj H
                      exact ex.nd rfl
                    · rw [if_neg c51] at H
                      refine ex.f c51 ?_
                      by_cases c56 : k2 = 9
                      · rw [if_pos c56] at H
                        refine ex.t c56 ?_
                        obtain ⟨eD53, iD54⟩ := r_gD hR_t (k := 11) (by decide) (by decide)
                        refine ex.bd eD53 ?_
                        refine ex.bd (r_gI hR_t (lc3 iD54) rfl) ?_
                        obtain rfl := Option.some.inj H
                        exact ex.nd rfl
                      · rw [if_neg c56] at H
                        refine ex.f c56 ?_
                        by_cases c59 : k2 = 10
                        · rw [if_pos c59] at H
                          refine ex.t c59 ?_
                          refine ex.bd (r_gR hR_t lk8 rfl) ?_
                          refine ex.bd (r_gI hR_t (lc4 (show ly_Is 4 176 by decide)) rfl) ?_
                          obtain rfl := Option.some.inj H
                          exact ex.nd rfl
                        · rw [if_neg c59] at H
                          refine ex.f c59 ?_
                          by_cases c62 : k2 = 11
                          · rw [if_pos c62] at H
                            refine ex.t c62 ?_
                            refine ex.bd (r_gR hR_t lk8 rfl) ?_
                            refine ex.bd (r_gI hR_t lk0 rfl) ?_
                            obtain rfl := Option.some.inj H
                            exact ex.nd rfl
                          · rw [if_neg c62] at H
                            refine ex.f c62 ?_
                            by_cases c65 : k2 = 12
                            · rw [if_pos c65] at H
                              refine ex.t c65 ?_
                              refine ex.bd (r_gR hR_t lk8 rfl) ?_
                              refine ex.bd (r_gI hR_t lk6 rfl) ?_
                              obtain rfl := Option.some.inj H
                              exact ex.nd rfl
                            · rw [if_neg c65] at H
                              refine ex.f c65 ?_
                              cases H
