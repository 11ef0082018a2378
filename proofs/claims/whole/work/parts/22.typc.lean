/-! typed functions -/
theorem lk8 : ly_0[0]? = some (.inr (8, [.inr 1, .inr 3, .inr 10, .inr 17, .inr 131, .inr 176, .inr 179, .inr 180, .inr 181, .inl 2, .inl 2, .inl 2, .inl 2, .inl 1])) := by decide +kernel
theorem lk9 : ly_0[218]? = some (.inr (9, [.inl 0, .inr 219, .inl 0, .inl 0, .inr 220, .inr 221, .inr 222, .inl 0, .inl 0, .inr 223, .inr 224, .inr 225, .inr 226, .inl 0, .inr 227, .inr 228, .inr 229, .inr 230, .inl 0, .inl 0, .inl 0, .inr 231, .inr 232, .inr 233, .inr 234, .inl 0, .inr 235, .inr 236, .inl 0, .inl 0, .inr 237, .inl 1])) := by decide +kernel
theorem lk0 : ly_0[17]? = some (.inr (0, [.inr 18, .inl 0, .inl 0])) := by decide +kernel
theorem lk6 : ly_0[1]? = some (.inr (6, [.inr 2, .inl 0, .inl 0, .inl 0, .inl 0, .inl 0, .inl 1, .inl 0, .inl 0])) := by decide +kernel
def tJ7_fill_53178_L5 : Nat → Nat → Nat → Int32 → Int32 → Int32 → tS → Option (tS)
  | 0, _, _, _, _, _, _ => none
  | n + 1, v0, n0, v1, v2, v3, t =>
    if v3 ≤ v2 then
      some t
    else
      (tWA t 0 v0 n0 v2 v1).bind fun tt4 =>
      tJ7_fill_53178_L5 n v0 n0 v1 (v2 + (1 : Int32)) v3 tt4
def tJ7_fill_53178 (a0 : Nat) (n0 : Nat) (a1 : Int32) (t : tS) : Option (tS) :=
  Option.bind (tJ7_fill_53178_L5 4000 a0 n0 a1 ((0 : Int32)) (Int32.ofNat n0) t) fun tt8 =>
  some tt8
set_option maxHeartbeats 4000000 in
set_option maxRecDepth 100000 in
theorem sJ7_fill_53178_L5 : ∀ (n : Nat) (v0 : Nat) (n0 : Nat) (v1 : Int32) (v2 : Int32) (v3 : Int32) (h : am_H) (t : tS) (t1 : tS), Rp h t → ly_0[v0]? = some (.inl (0, n0, 0)) → tJ7_fill_53178_L5 n v0 n0 v1 v2 v3 t = some t1 → ex (fJ7_fill_53178_L5 n v0 v1 v2 v3 h) (fun p => Rp p t1) := by
  intro n
  induction n with
  | zero => intro _ _ _ _ _ _ _ _ _ _ H; cases H
  | succ n ih =>
    intro v0 n0 v1 v2 v3 h t t1 hR_t i0 H
    rw [tJ7_fill_53178_L5] at H
    rw [fJ7_fill_53178_L5]
    by_cases c2 : v3 ≤ v2
    · rw [if_pos c2] at H
      refine ex.t c2 ?_
      obtain rfl := Option.some.inj H
      exact ex.nd hR_t
    · rw [if_neg c2] at H
      refine ex.f c2 ?_
      obtain ⟨tt4, e5, H⟩ := am_bd H
      obtain ⟨hh3, e6, hR_tt4⟩ := r_sI hR_t i0 e5
      refine ex.bd e6 ?_
      exact ih _ _ _ _ _ _ _ _ hR_tt4 i0 H
set_option maxHeartbeats 4000000 in
set_option maxRecDepth 100000 in
theorem sJ7_fill_53178 {a0 : Nat} {n0 : Nat} {a1 : Int32} {h : am_H} {t : tS} {t1 : tS} (hR_t : Rp h t) (i0 : ly_0[a0]? = some (.inl (0, n0, 0))) (H : tJ7_fill_53178 a0 n0 a1 t = some t1) : ex (fJ7_fill_53178 a0 a1 h) (fun h1 => Rp h1 t1) := by
  unfold tJ7_fill_53178 at H
  unfold fJ7_fill_53178
  refine ex.bd (r_len hR_t i0 (by decide)) ?_
  obtain ⟨tt8, E9, H⟩ := am_bd H
  refine ex.j1 (sJ7_fill_53178_L5 _ _ _ _ _ _ _ _ _ hR_t i0 E9) (fun hh7 hq => ?_)
  clear E9
  have hR_tt8 : Rp hh7 tt8 := hq
  obtain rfl := Option.some.inj H
  exact ex.nd hR_tt8
def tJ9_min_7cf53 (a0 : Int32) (a1 : Int32) (t : tS) : Option (Int32) :=
  Option.bind (
    if a1 < a0 then
      some a1
    else
      some a0) fun js1 =>
  some js1
set_option maxHeartbeats 4000000 in
set_option maxRecDepth 100000 in
theorem sJ9_min_7cf53 {a0 : Int32} {a1 : Int32} {h : am_H} {t : tS} {r : Int32} (hR_t : Rp h t)  (H : tJ9_min_7cf53 a0 a1 t = some r) : ex (fJ9_min_7cf53 a0 a1 h) (fun x => r = x) := by
  unfold tJ9_min_7cf53 at H
  unfold fJ9_min_7cf53
  obtain ⟨js1, E3, H⟩ := am_bd H
  refine ex.j1 (Q := fun p => js1 = p) ?_ (fun z4 hq => ?_)
  · clear H
    have H := E3
    clear E3
    by_cases c2 : a1 < a0
    · rw [if_pos c2] at H
      refine ex.t c2 ?_
      obtain rfl := Option.some.inj H
      exact ex.nd rfl
    · rw [if_neg c2] at H
      refine ex.f c2 ?_
      obtain rfl := Option.some.inj H
      exact ex.nd rfl
  · clear E3
    obtain rfl : js1 = z4 := hq
    obtain rfl := Option.some.inj H
    exact ex.nd rfl
def tX6_copyFrom (a0 : Nat) (a1 : Nat) (t : tS) : Option (tS) :=
  (tWC t (a1 + 1) 4 ((0 : Int32)) (a0 + 1) 4 ((0 : Int32)) ((4 : Int32))).bind fun tt4 =>
  (tWC tt4 (a1 + 2) 6 ((0 : Int32)) (a0 + 2) 6 ((0 : Int32)) ((6 : Int32))).bind fun tt10 =>
  (tWC tt10 (a1 + 3) 6 ((0 : Int32)) (a0 + 3) 6 ((0 : Int32)) ((6 : Int32))).bind fun tt16 =>
  (tWC tt16 (a1 + 4) 6 ((0 : Int32)) (a0 + 4) 6 ((0 : Int32)) ((6 : Int32))).bind fun tt22 =>
  (tWC tt22 (a1 + 5) 6 ((0 : Int32)) (a0 + 5) 6 ((0 : Int32)) ((6 : Int32))).bind fun tt28 =>
  (tWC tt28 (a1 + 6) 6 ((0 : Int32)) (a0 + 6) 6 ((0 : Int32)) ((6 : Int32))).bind fun tt34 =>
  (some (uI tt34 a0 6 (tt34.1 a1 6))).bind fun tt39 =>
  (some (uI tt39 a0 7 (tt39.1 a1 7))).bind fun tt44 =>
  (some (uI tt44 a0 8 (tt44.1 a1 8))).bind fun tt49 =>
  some tt49
set_option maxHeartbeats 4000000 in
set_option maxRecDepth 100000 in
theorem sX6_copyFrom {a0 : Nat} {a1 : Nat} {h : am_H} {t : tS} {t1 : tS} (hR_t : Rp h t) (i0 : ly_Is 5 a0) (i1 : ly_Is 5 a1) (H : tX6_copyFrom a0 a1 t = some t1) : ex (fX6_copyFrom a0 a1 h) (fun h1 => Rp h1 t1) := by
  unfold tX6_copyFrom at H
  unfold fX6_copyFrom
  refine ex.bd (r_isO hR_t (lc5 i0)) ?_
  refine ex.bd (r_gR hR_t (lc5 i1) rfl) ?_
  refine ex.bd (r_gR hR_t (lc5 i0) rfl) ?_
  obtain ⟨tt4, e5, H⟩ := am_bd H
  obtain ⟨hh3, e6, hR_tt4⟩ := r_cp hR_t (la5_0 i1) (la5_0 i0) e5
  refine ex.bd e6 ?_
  refine ex.bd (r_gR hR_tt4 (lc5 i1) rfl) ?_
  refine ex.bd (r_gR hR_tt4 (lc5 i0) rfl) ?_
  obtain ⟨tt10, e11, H⟩ := am_bd H
  obtain ⟨hh9, e12, hR_tt10⟩ := r_cp hR_tt4 (la5_1 i1) (la5_1 i0) e11
  refine ex.bd e12 ?_
  refine ex.bd (r_gR hR_tt10 (lc5 i1) rfl) ?_
  refine ex.bd (r_gR hR_tt10 (lc5 i0) rfl) ?_
  obtain ⟨tt16, e17, H⟩ := am_bd H
  obtain ⟨hh15, e18, hR_tt16⟩ := r_cp hR_tt10 (la5_2 i1) (la5_2 i0) e17
  refine ex.bd e18 ?_
  refine ex.bd (r_gR hR_tt16 (lc5 i1) rfl) ?_
  refine ex.bd (r_gR hR_tt16 (lc5 i0) rfl) ?_
  obtain ⟨tt22, e23, H⟩ := am_bd H
  obtain ⟨hh21, e24, hR_tt22⟩ := r_cp hR_tt16 (la5_3 i1) (la5_3 i0) e23
  refine ex.bd e24 ?_
  refine ex.bd (r_gR hR_tt22 (lc5 i1) rfl) ?_
  refine ex.bd (r_gR hR_tt22 (lc5 i0) rfl) ?_
  obtain ⟨tt28, e29, H⟩ := am_bd H
  obtain ⟨hh27, e30, hR_tt28⟩ := r_cp hR_tt22 (la5_4 i1) (la5_4 i0) e29
  refine ex.bd e30 ?_
  refine ex.bd (r_gR hR_tt28 (lc5 i1) rfl) ?_
  refine ex.bd (r_gR hR_tt28 (lc5 i0) rfl) ?_
  obtain ⟨tt34, e35, H⟩ := am_bd H
  obtain ⟨hh33, e36, hR_tt34⟩ := r_cp hR_tt28 (la5_5 i1) (la5_5 i0) e35
  refine ex.bd e36 ?_
  refine ex.bd (r_gI hR_tt34 (lc5 i1) rfl) ?_
  obtain ⟨tt39, et40, H⟩ := am_bd H
  obtain ⟨hh38, e41, hR_tt39⟩ := r_pI (k := 6) (x := tt34.1 a1 6) hR_tt34 (lc5 i0) rfl rfl
  rw [Option.some.inj et40] at hR_tt39
  refine ex.bd e41 ?_
  refine ex.bd (r_gI hR_tt39 (lc5 i1) rfl) ?_
  obtain ⟨tt44, et45, H⟩ := am_bd H
  obtain ⟨hh43, e46, hR_tt44⟩ := r_pI (k := 7) (x := tt39.1 a1 7) hR_tt39 (lc5 i0) rfl rfl
  rw [Option.some.inj et45] at hR_tt44
  refine ex.bd e46 ?_
  refine ex.bd (r_gI hR_tt44 (lc5 i1) rfl) ?_
  obtain ⟨tt49, et50, H⟩ := am_bd H
  obtain ⟨hh48, e51, hR_tt49⟩ := r_pI (k := 8) (x := tt44.1 a1 8) hR_tt44 (lc5 i0) rfl rfl
  rw [Option.some.inj et50] at hR_tt49
  refine ex.bd e51 ?_
  obtain rfl := Option.some.inj H
  exact ex.nd hR_tt49
def tX0_keep (a1 : Nat) (t : tS) : Option (tS) :=
  (am_rm' ((t.1 17 1) + ((1 : Int32))) ((16 : Int32))).bind fun q2 =>
  (some (uI t 17 1 q2)).bind fun tt5 =>
  (tQ 19 7 16 (tt5.1 17 1)).bind fun r10 =>
  (tX6_copyFrom r10 a1 tt5).bind fun tt16 =>
  (tJ9_min_7cf53 ((tt16.1 17 2) + ((1 : Int32))) ((16 : Int32)) tt16).bind fun x19 =>
  (some (uI tt16 17 2 x19)).bind fun tt22 =>
  some tt22
set_option maxHeartbeats 4000000 in
set_option maxRecDepth 100000 in
theorem sX0_keep {a1 : Nat} {h : am_H} {t : tS} {t1 : tS} (hR_t : Rp h t) (i1 : ly_Is 5 a1) (H : tX0_keep a1 t = some t1) : ex (fX0_keep 17 a1 h) (fun h1 => Rp h1 t1) := by
  unfold tX0_keep at H
  unfold fX0_keep
  refine ex.bd (r_isO hR_t lk0) ?_
  refine ex.bd (r_gI hR_t lk0 rfl) ?_
  obtain ⟨q2, e3, H⟩ := am_bd H
  refine ex.bd e3 ?_
  obtain ⟨tt5, et6, H⟩ := am_bd H
  obtain ⟨hh4, e7, hR_tt5⟩ := r_pI (k := 1) (x := q2) hR_t lk0 rfl rfl
  rw [Option.some.inj et6] at hR_tt5
  refine ex.bd e7 ?_
  refine ex.bd (r_gR hR_tt5 lk0 rfl) ?_
  refine ex.bd (r_gI hR_tt5 lk0 rfl) ?_
  obtain ⟨r10, e11, H⟩ := am_bd H
  obtain ⟨q12, iq13⟩ := r_aQ hR_tt5 e11
  refine ex.bd q12 ?_
  obtain ⟨tt16, e14, H⟩ := am_bd H
  refine ex.j1 (sX6_copyFrom hR_tt5 iq13 i1 e14) (fun hh15 hR_tt16 => ?_)
  refine ex.bd (r_gI hR_tt16 lk0 rfl) ?_
  obtain ⟨x19, e18, H⟩ := am_bd H
  refine ex.j1 (sJ9_min_7cf53 hR_tt16  e18) (fun z20 hz => ?_)
  obtain rfl : x19 = z20 := hz
  obtain ⟨tt22, et23, H⟩ := am_bd H
  obtain ⟨hh21, e24, hR_tt22⟩ := r_pI (k := 2) (x := x19) hR_tt16 lk0 rfl rfl
  rw [Option.some.inj et23] at hR_tt22
  refine ex.bd e24 ?_
  obtain rfl := Option.some.inj H
  exact ex.nd hR_tt22
def tX0_bringBack (a1 : Nat) (t : tS) : Option (Int32 × tS) :=
  if ¬ (t.1 17 2) = 0 then
    (tQ 19 7 16 (t.1 17 1)).bind fun r5 =>
    (tX6_copyFrom a1 r5 t).bind fun tt11 =>
    (am_rm' (((tt11.1 17 1) + ((16 : Int32))) - ((1 : Int32))) ((16 : Int32))).bind fun q13 =>
    (some (uI tt11 17 1 q13)).bind fun tt16 =>
    (some (uI tt16 17 2 ((tt16.1 17 2) - ((1 : Int32))))).bind fun tt21 =>
    some ((1 : Int32), tt21)
  else
    some ((0 : Int32), t)
set_option maxHeartbeats 4000000 in
set_option maxRecDepth 100000 in
theorem sX0_bringBack {a1 : Nat} {h : am_H} {t : tS} {r : Int32} {t1 : tS} (hR_t : Rp h t) (i1 : ly_Is 5 a1) (H : tX0_bringBack a1 t = some (r, t1)) : ex (fX0_bringBack 17 a1 h) (fun p => r = p.1 ∧ Rp p.2 t1) := by
  unfold tX0_bringBack at H
  unfold fX0_bringBack
  refine ex.bd (r_isO hR_t lk0) ?_
  refine ex.bd (r_gI hR_t lk0 rfl) ?_
  by_cases c2 : ¬ (t.1 17 2) = 0
  · rw [if_pos c2] at H
    refine ex.t c2 ?_
    refine ex.bd (r_gR hR_t lk0 rfl) ?_
    refine ex.bd (r_gI hR_t lk0 rfl) ?_
    obtain ⟨r5, e6, H⟩ := am_bd H
    obtain ⟨q7, iq8⟩ := r_aQ hR_t e6
    refine ex.bd q7 ?_
    obtain ⟨tt11, e9, H⟩ := am_bd H
    refine ex.j1 (sX6_copyFrom hR_t i1 iq8 e9) (fun hh10 hR_tt11 => ?_)
    refine ex.bd (r_gI hR_tt11 lk0 rfl) ?_
    obtain ⟨q13, e14, H⟩ := am_bd H
    refine ex.bd e14 ?_
    obtain ⟨tt16, et17, H⟩ := am_bd H
    obtain ⟨hh15, e18, hR_tt16⟩ := r_pI (k := 1) (x := q13) hR_tt11 lk0 rfl rfl
    rw [Option.some.inj et17] at hR_tt16
    refine ex.bd e18 ?_
    refine ex.bd (r_gI hR_tt16 lk0 rfl) ?_
    obtain ⟨tt21, et22, H⟩ := am_bd H
    obtain ⟨hh20, e23, hR_tt21⟩ := r_pI (k := 2) (x := (tt16.1 17 2) - ((1 : Int32))) hR_tt16 lk0 rfl rfl
    rw [Option.some.inj et22] at hR_tt21
    refine ex.bd e23 ?_
    obtain ⟨rfl, rfl⟩ := am_inj2 H
    exact ex.nd ⟨rfl, hR_tt21⟩
  · rw [if_neg c2] at H
    refine ex.f c2 ?_
    obtain ⟨rfl, rfl⟩ := am_inj2 H
    exact ex.nd ⟨rfl, hR_t⟩
def tX1_add (a0 : Nat) (a1 : Int32) (t : tS) : Option (tS) :=
  Option.bind (
    if (Int32.ofNat 1000) ≤ (t.1 a0 2) then
      some t
    else
      (tWA t 0 (a0 + 1) 1000 (t.1 a0 2) a1).bind fun tt10 =>
      (some (uI tt10 a0 2 ((tt10.1 a0 2) + ((1 : Int32))))).bind fun tt15 =>
      some tt15) fun tt5 =>
  some tt5
set_option maxHeartbeats 4000000 in
set_option maxRecDepth 100000 in
theorem sX1_add {a0 : Nat} {a1 : Int32} {h : am_H} {t : tS} {t1 : tS} (hR_t : Rp h t) (i0 : ly_Is 1 a0) (H : tX1_add a0 a1 t = some t1) : ex (fX1_add a0 a1 h) (fun h1 => Rp h1 t1) := by
  unfold tX1_add at H
  unfold fX1_add
  refine ex.bd (r_isO hR_t (lc1 i0)) ?_
  refine ex.bd (r_gI hR_t (lc1 i0) rfl) ?_
  refine ex.bd (r_gR hR_t (lc1 i0) rfl) ?_
  refine ex.bd (r_len hR_t (la1_0 i0) (by decide)) ?_
  obtain ⟨tt5, E18, H⟩ := am_bd H
  refine ex.j1 (Q := fun p => Rp p tt5) ?_ (fun hh4 hq => ?_)
  · clear H
    have H := E18
    clear E18
    by_cases c6 : (Int32.ofNat 1000) ≤ (t.1 a0 2)
    · rw [if_pos c6] at H
      refine ex.t c6 ?_
      obtain rfl := Option.some.inj H
      exact ex.nd hR_t
    · rw [if_neg c6] at H
      refine ex.f c6 ?_
      refine ex.bd (r_gR hR_t (lc1 i0) rfl) ?_
      refine ex.bd (r_gI hR_t (lc1 i0) rfl) ?_
      obtain ⟨tt10, e11, H⟩ := am_bd H
      obtain ⟨hh9, e12, hR_tt10⟩ := r_sI hR_t (la1_0 i0) e11
      refine ex.bd e12 ?_
      refine ex.bd (r_gI hR_tt10 (lc1 i0) rfl) ?_
      obtain ⟨tt15, et16, H⟩ := am_bd H
      obtain ⟨hh14, e17, hR_tt15⟩ := r_pI (k := 2) (x := (tt10.1 a0 2) + ((1 : Int32))) hR_tt10 (lc1 i0) rfl rfl
      rw [Option.some.inj et16] at hR_tt15
      refine ex.bd e17 ?_
      obtain rfl := Option.some.inj H
      exact ex.nd hR_tt15
  · clear E18
    have hR_tt5 : Rp hh4 tt5 := hq
    obtain rfl := Option.some.inj H
    exact ex.nd hR_tt5
def tX7_isSignOf (a1 : Int32) (t : tS) : Option (Int32) :=
  Option.bind (
    if ¬ (t.1 1 4) = ((3 : Int32)) then
      some ((0 : Int32))
    else
      (tA t 2 1000 (t.1 1 2)).bind fun x6 =>
      if ¬ x6 = a1 then
        some ((0 : Int32))
      else
        some ((1 : Int32))) fun js2 =>
  (am_z01 js2).bind fun b9 =>
  some b9
set_option maxHeartbeats 4000000 in
set_option maxRecDepth 100000 in
theorem sX7_isSignOf {a1 : Int32} {h : am_H} {t : tS} {r : Int32} (hR_t : Rp h t)  (H : tX7_isSignOf a1 t = some r) : ex (fX7_isSignOf 1 a1 h) (fun x => r = x) := by
  unfold tX7_isSignOf at H
  unfold fX7_isSignOf
  refine ex.bd (r_isO hR_t lk6) ?_
  refine ex.bd (r_gI hR_t lk6 rfl) ?_
  obtain ⟨js2, E11, H⟩ := am_bd H
  refine ex.j1 (Q := fun p => js2 = p) ?_ (fun z12 hq => ?_)
  · clear H
    have H := E11
    clear E11
    by_cases c3 : ¬ (t.1 1 4) = ((3 : Int32))
    · rw [if_pos c3] at H
      refine ex.t c3 ?_
      obtain rfl := Option.some.inj H
      exact ex.nd rfl
    · rw [if_neg c3] at H
      refine ex.f c3 ?_
      refine ex.bd (r_gR hR_t lk6 rfl) ?_
      refine ex.bd (r_gI hR_t lk6 rfl) ?_
      obtain ⟨x6, e7, H⟩ := am_bd H
      refine ex.bd (r_aI hR_t (la6_0 (a := 1) (by decide)) e7) ?_
      by_cases c8 : ¬ x6 = a1
      · rw [if_pos c8] at H
        refine ex.t c8 ?_
        obtain rfl := Option.some.inj H
        exact ex.nd rfl
      · rw [if_neg c8] at H
        refine ex.f c8 ?_
        obtain rfl := Option.some.inj H
        exact ex.nd rfl
  · clear E11
    obtain rfl : js2 = z12 := hq
    obtain ⟨b9, e10, H⟩ := am_bd H
    refine ex.bd e10 ?_
    obtain rfl := Option.some.inj H
    exact ex.nd rfl
def tX7_isWord_L28 : Nat → Nat → Int32 → tS → Option ((Unit) ⊕ (Int32))
  | 0, _, _, _ => none
  | n + 1, v1, v2, t =>
    (am_sLen v1).bind fun x9 =>
    if x9 ≤ v2 then
      some (.inl ())
    else
      (tA t 2 1000 ((t.1 1 2) + v2)).bind fun x13 =>
      (am_sCh v1 v2).bind fun x16 =>
      if x13 = x16 then
        tX7_isWord_L28 n v1 (v2 + (1 : Int32)) t
      else
        some (.inr ((0 : Int32)))
def tX7_isWord (a1 : Nat) (t : tS) : Option (Int32) :=
  if ¬ (t.1 1 4) = ((1 : Int32)) then
    some ((0 : Int32))
  else
    (am_sLen a1).bind fun x4 =>
    if x4 = ((t.1 1 3) - (t.1 1 2)) then
      (tX7_isWord_L28 4000 a1 ((0 : Int32)) t).bind fun o19 => match o19 with
        | .inl _ =>
          some ((1 : Int32))
        | .inr y20 => some y20
    else
      some ((0 : Int32))
set_option maxHeartbeats 4000000 in
set_option maxRecDepth 100000 in
theorem sX7_isWord_L28 : ∀ (n : Nat) (v1 : Nat) (v2 : Int32) (h : am_H) (t : tS) (o : (Unit) ⊕ (Int32)), Rp h t → tX7_isWord_L28 n v1 v2 t = some o → ex (fX7_isWord_L28 n 1 v1 v2 h) (fun p => match o, p with
    | .inl _, .inl _ => True
    | .inr y, .inr z => y = z
    | _, _ => False) := by
  intro n
  induction n with
  | zero => intro _ _ _ _ _ _ H; cases H
  | succ n ih =>
    intro v1 v2 h t o hR_t H
    rw [tX7_isWord_L28] at H
    rw [fX7_isWord_L28]
    obtain ⟨x9, e8, H⟩ := am_bd H
    refine ex.bd e8 ?_
    by_cases c10 : x9 ≤ v2
    · rw [if_pos c10] at H
      refine ex.t c10 ?_
      obtain rfl := Option.some.inj H
      exact ex.nd trivial
    · rw [if_neg c10] at H
      refine ex.f c10 ?_
      refine ex.bd (r_gR hR_t lk6 rfl) ?_
      refine ex.bd (r_gI hR_t lk6 rfl) ?_
      obtain ⟨x13, e14, H⟩ := am_bd H
      refine ex.bd (r_aI hR_t (la6_0 (a := 1) (by decide)) e14) ?_
      obtain ⟨x16, e15, H⟩ := am_bd H
      refine ex.bd e15 ?_
      by_cases c17 : x13 = x16
      · rw [if_pos c17] at H
        refine ex.t c17 ?_
        exact ih _ _ _ _ _ hR_t  H
      · rw [if_neg c17] at H
        refine ex.f c17 ?_
        obtain rfl := Option.some.inj H
        exact ex.nd rfl
set_option maxHeartbeats 4000000 in
set_option maxRecDepth 100000 in
theorem sX7_isWord {a1 : Nat} {h : am_H} {t : tS} {r : Int32} (hR_t : Rp h t)  (H : tX7_isWord a1 t = some r) : ex (fX7_isWord 1 a1 h) (fun x => r = x) := by
  unfold tX7_isWord at H
  unfold fX7_isWord
  refine ex.bd (r_isO hR_t lk6) ?_
  refine ex.bd (r_gI hR_t lk6 rfl) ?_
  by_cases c2 : ¬ (t.1 1 4) = ((1 : Int32))
  · rw [if_pos c2] at H
    refine ex.t c2 ?_
    obtain rfl := Option.some.inj H
    exact ex.nd rfl
  · rw [if_neg c2] at H
    refine ex.f c2 ?_
    obtain ⟨x4, e3, H⟩ := am_bd H
    refine ex.bd e3 ?_
    refine ex.bd (r_gI hR_t lk6 rfl) ?_
    refine ex.bd (r_gI hR_t lk6 rfl) ?_
    by_cases c7 : x4 = ((t.1 1 3) - (t.1 1 2))
    · rw [if_pos c7] at H
      refine ex.t c7 ?_
      obtain ⟨o19, E18, H⟩ := am_bd H
      refine ex.j1 (sX7_isWord_L28 _ _ _ _ _ _ hR_t  E18) (fun p21 hq => ?_)
      clear E18
      rcases o19 with _ | y20
      · rcases p21 with _ | z22
        · dsimp only at H hq ⊢
          obtain rfl := Option.some.inj H
          exact ex.nd rfl
        · exact hq.elim
      · rcases p21 with _ | z22
        · exact hq.elim
        · dsimp only at H ⊢
          obtain rfl := Option.some.inj H
          exact ex.nd hq
    · rw [if_neg c7] at H
      refine ex.f c7 ?_
      obtain rfl := Option.some.inj H
      exact ex.nd rfl
def tX1_operatorOf (a1 : Int32) (t : tS) : Option (Int32) :=
  if a1.toInt < 0 ∨ 2 < a1.toInt then
    (tX7_isSignOf ((42 : Int32)) t).bind fun x5 =>
    Option.bind (
      if x5 = 0 then
        some ((0 : Int32))
      else
        some ((-12 : Int32))) fun js7 =>
    some js7
  else (some (a1.toInt - 0).toNat).bind fun k2 =>
  if k2 = 0 then
    (tX7_isWord 1000019 t).bind fun x12 =>
    Option.bind (
      if x12 = 0 then
        (tX7_isWord 1000020 t).bind fun x17 =>
        if x17 = 0 then
          some ((0 : Int32))
        else
          some ((-7 : Int32))
      else
        some ((-6 : Int32))) fun js14 =>
    some js14
  else if k2 = 1 then
    (tX7_isSignOf ((60 : Int32)) t).bind fun x24 =>
    Option.bind (
      if x24 = 0 then
        (tX7_isSignOf ((61 : Int32)) t).bind fun x29 =>
        if x29 = 0 then
          some ((0 : Int32))
        else
          some ((-9 : Int32))
      else
        some ((-8 : Int32))) fun js26 =>
    some js26
  else if k2 = 2 then
    (tX7_isSignOf ((43 : Int32)) t).bind fun x36 =>
    Option.bind (
      if x36 = 0 then
        (tX7_isSignOf ((45 : Int32)) t).bind fun x41 =>
        if x41 = 0 then
          some ((0 : Int32))
        else
          some ((-11 : Int32))
      else
        some ((-10 : Int32))) fun js38 =>
    some js38
  else none
set_option maxHeartbeats 4000000 in
set_option maxRecDepth 100000 in
theorem sX1_operatorOf {a1 : Int32} {h : am_H} {t : tS} {r : Int32} (hR_t : Rp h t)  (H : tX1_operatorOf a1 t = some r) : ex (fX1_operatorOf 1 a1 h) (fun x => r = x) := by
  unfold tX1_operatorOf at H
  unfold fX1_operatorOf
  by_cases c1 : a1.toInt < 0 ∨ 2 < a1.toInt
  · rw [if_pos c1] at H
    refine ex.t c1 ?_
    obtain ⟨x5, e4, H⟩ := am_bd H
    refine ex.j1 (sX7_isSignOf hR_t  e4) (fun z6 hz => ?_)
    obtain rfl : x5 = z6 := hz
    obtain ⟨js7, E9, H⟩ := am_bd H
    refine ex.j1 (Q := fun p => js7 = p) ?_ (fun z10 hq => ?_)
    · clear H
      have H := E9
      clear E9
      by_cases c8 : x5 = 0
      · rw [if_pos c8] at H
        refine ex.t c8 ?_
        obtain rfl := Option.some.inj H
        exact ex.nd rfl
      · rw [if_neg c8] at H
        refine ex.f c8 ?_
        obtain rfl := Option.some.inj H
        exact ex.nd rfl
    · clear E9
      obtain rfl : js7 = z10 := hq
      obtain rfl := Option.some.inj H
      exact ex.nd rfl
  · rw [if_neg c1] at H
    refine ex.f c1 ?_
    obtain ⟨k2, e3, H⟩ := am_bd H
    refine ex.bd e3 ?_
    by_cases c22 : k2 = 0
    · rw [if_pos c22] at H
      refine ex.t c22 ?_
      obtain ⟨x12, e11, H⟩ := am_bd H
      refine ex.j1 (sX7_isWord hR_t  e11) (fun z13 hz => ?_)
      obtain rfl : x12 = z13 := hz
      obtain ⟨js14, E20, H⟩ := am_bd H
      refine ex.j1 (Q := fun p => js14 = p) ?_ (fun z21 hq => ?_)
      · clear H
        have H := E20
        clear E20
        by_cases c15 : x12 = 0
        · rw [if_pos c15] at H
          refine ex.t c15 ?_
          obtain ⟨x17, e16, H⟩ := am_bd H
          refine ex.j1 (sX7_isWord hR_t  e16) (fun z18 hz => ?_)
          obtain rfl : x17 = z18 := hz
          by_cases c19 : x17 = 0
          · rw [if_pos c19] at H
            refine ex.t c19 ?_
            obtain rfl := Option.some.inj H
            exact ex.nd rfl
          · rw [if_neg c19] at H
            refine ex.f c19 ?_
            obtain rfl := Option.some.inj H
            exact ex.nd rfl
        · rw [if_neg c15] at H
          refine ex.f c15 ?_
          obtain rfl := Option.some.inj H
          exact ex.nd rfl
      · clear E20
        obtain rfl : js14 = z21 := hq
        obtain rfl := Option.some.inj H
        exact ex.nd rfl
    · rw [if_neg c22] at H
      refine ex.f c22 ?_
      by_cases c34 : k2 = 1
      · rw [if_pos c34] at H
        refine ex.t c34 ?_
        obtain ⟨x24, e23, H⟩ := am_bd H
        refine ex.j1 (sX7_isSignOf hR_t  e23) (fun z25 hz => ?_)
        obtain rfl : x24 = z25 := hz
        obtain ⟨js26, E32, H⟩ := am_bd H
        refine ex.j1 (Q := fun p => js26 = p) ?_ (fun z33 hq => ?_)
        · clear H
          have H := E32
          clear E32
          by_cases c27 : x24 = 0
          · rw [if_pos c27] at H
            refine ex.t c27 ?_
            obtain ⟨x29, e28, H⟩ := am_bd H
            refine ex.j1 (sX7_isSignOf hR_t  e28) (fun z30 hz => ?_)
            obtain rfl : x29 = z30 := hz
            by_cases c31 : x29 = 0
            · rw [if_pos c31] at H
              refine ex.t c31 ?_
              obtain rfl := Option.some.inj H
              exact ex.nd rfl
            · rw [if_neg c31] at H
              refine ex.f c31 ?_
              obtain rfl := Option.some.inj H
              exact ex.nd rfl
          · rw [if_neg c27] at H
            refine ex.f c27 ?_
            obtain rfl := Option.some.inj H
            exact ex.nd rfl
        · clear E32
          obtain rfl : js26 = z33 := hq
          obtain rfl := Option.some.inj H
          exact ex.nd rfl
      · rw [if_neg c34] at H
        refine ex.f c34 ?_
        by_cases c46 : k2 = 2
        · rw [if_pos c46] at H
          refine ex.t c46 ?_
          obtain ⟨x36, e35, H⟩ := am_bd H
          refine ex.j1 (sX7_isSignOf hR_t  e35) (fun z37 hz => ?_)
          obtain rfl : x36 = z37 := hz
          obtain ⟨js38, E44, H⟩ := am_bd H
          refine ex.j1 (Q := fun p => js38 = p) ?_ (fun z45 hq => ?_)
          · clear H
            have H := E44
            clear E44
            by_cases c39 : x36 = 0
            · rw [if_pos c39] at H
              refine ex.t c39 ?_
              obtain ⟨x41, e40, H⟩ := am_bd H
              refine ex.j1 (sX7_isSignOf hR_t  e40) (fun z42 hz => ?_)
              obtain rfl : x41 = z42 := hz
              by_cases c43 : x41 = 0
              · rw [if_pos c43] at H
                refine ex.t c43 ?_
                obtain rfl := Option.some.inj H
                exact ex.nd rfl
              · rw [if_neg c43] at H
                refine ex.f c43 ?_
                obtain rfl := Option.some.inj H
                exact ex.nd rfl
            · rw [if_neg c39] at H
              refine ex.f c39 ?_
              obtain rfl := Option.some.inj H
              exact ex.nd rfl
          · clear E44
            obtain rfl : js38 = z45 := hq
            obtain rfl := Option.some.inj H
            exact ex.nd rfl
        · rw [if_neg c46] at H
          refine ex.f c46 ?_
          cases H
def tX1_factOf  (t : tS) : Option (Int32) :=
  (tX7_isWord 1000021 t).bind fun x2 =>
  if x2 = 0 then
    (tX7_isWord 1000022 t).bind fun x6 =>
    if x6 = 0 then
      (tX7_isWord 1000023 t).bind fun x10 =>
      if x10 = 0 then
        (tX7_isWord 1000024 t).bind fun x14 =>
        Option.bind (
          if x14 = 0 then
            some ((0 : Int32))
          else
            some ((-4 : Int32))) fun js16 =>
        some js16
      else
        some ((-3 : Int32))
    else
      some ((-2 : Int32))
  else
    some ((-1 : Int32))
set_option maxHeartbeats 4000000 in
set_option maxRecDepth 100000 in
theorem sX1_factOf  {h : am_H} {t : tS} {r : Int32} (hR_t : Rp h t)  (H : tX1_factOf  t = some r) : ex (fX1_factOf 1 h) (fun x => r = x) := by
  unfold tX1_factOf at H
  unfold fX1_factOf
  obtain ⟨x2, e1, H⟩ := am_bd H
  refine ex.j1 (sX7_isWord hR_t  e1) (fun z3 hz => ?_)
  obtain rfl : x2 = z3 := hz
  by_cases c4 : x2 = 0
  · rw [if_pos c4] at H
    refine ex.t c4 ?_
    obtain ⟨x6, e5, H⟩ := am_bd H
    refine ex.j1 (sX7_isWord hR_t  e5) (fun z7 hz => ?_)
    obtain rfl : x6 = z7 := hz
    by_cases c8 : x6 = 0
    · rw [if_pos c8] at H
      refine ex.t c8 ?_
      obtain ⟨x10, e9, H⟩ := am_bd H
      refine ex.j1 (sX7_isWord hR_t  e9) (fun z11 hz => ?_)
      obtain rfl : x10 = z11 := hz
      by_cases c12 : x10 = 0
      · rw [if_pos c12] at H
        refine ex.t c12 ?_
        obtain ⟨x14, e13, H⟩ := am_bd H
        refine ex.j1 (sX7_isWord hR_t  e13) (fun z15 hz => ?_)
        obtain rfl : x14 = z15 := hz
        obtain ⟨js16, E18, H⟩ := am_bd H
        refine ex.j1 (Q := fun p => js16 = p) ?_ (fun z19 hq => ?_)
        · clear H
          have H := E18
          clear E18
          by_cases c17 : x14 = 0
          · rw [if_pos c17] at H
            refine ex.t c17 ?_
            obtain rfl := Option.some.inj H
            exact ex.nd rfl
          · rw [if_neg c17] at H
            refine ex.f c17 ?_
            obtain rfl := Option.some.inj H
            exact ex.nd rfl
        · clear E18
          obtain rfl : js16 = z19 := hq
          obtain rfl := Option.some.inj H
          exact ex.nd rfl
      · rw [if_neg c12] at H
        refine ex.f c12 ?_
        obtain rfl := Option.some.inj H
        exact ex.nd rfl
    · rw [if_neg c8] at H
      refine ex.f c8 ?_
      obtain rfl := Option.some.inj H
      exact ex.nd rfl
  · rw [if_neg c4] at H
    refine ex.f c4 ?_
    obtain rfl := Option.some.inj H
    exact ex.nd rfl
def tX7_isNumber  (t : tS) : Option (Int32) :=
  Option.bind (
    if ¬ (t.1 1 4) = ((2 : Int32)) then
      some ((0 : Int32))
    else
      some ((1 : Int32))) fun js2 =>
  (am_z01 js2).bind fun b4 =>
  some b4
set_option maxHeartbeats 4000000 in
set_option maxRecDepth 100000 in
theorem sX7_isNumber  {h : am_H} {t : tS} {r : Int32} (hR_t : Rp h t)  (H : tX7_isNumber  t = some r) : ex (fX7_isNumber 1 h) (fun x => r = x) := by
  unfold tX7_isNumber at H
  unfold fX7_isNumber
  refine ex.bd (r_isO hR_t lk6) ?_
  refine ex.bd (r_gI hR_t lk6 rfl) ?_
  obtain ⟨js2, E6, H⟩ := am_bd H
  refine ex.j1 (Q := fun p => js2 = p) ?_ (fun z7 hq => ?_)
  · clear H
    have H := E6
    clear E6
    by_cases c3 : ¬ (t.1 1 4) = ((2 : Int32))
    · rw [if_pos c3] at H
      refine ex.t c3 ?_
      obtain rfl := Option.some.inj H
      exact ex.nd rfl
    · rw [if_neg c3] at H
      refine ex.f c3 ?_
      obtain rfl := Option.some.inj H
      exact ex.nd rfl
  · clear E6
    obtain rfl : js2 = z7 := hq
    obtain ⟨b4, e5, H⟩ := am_bd H
    refine ex.bd e5 ?_
    obtain rfl := Option.some.inj H
    exact ex.nd rfl
def tX7_refuse (a1 : Int32) (t : tS) : Option (Int32 × tS) :=
  (some (uI t 1 7 (a1 + (((16 : Int32)) * (t.1 1 2))))).bind fun tt3 =>
  some ((0 : Int32), tt3)
set_option maxHeartbeats 4000000 in
set_option maxRecDepth 100000 in
theorem sX7_refuse {a1 : Int32} {h : am_H} {t : tS} {r : Int32} {t1 : tS} (hR_t : Rp h t)  (H : tX7_refuse a1 t = some (r, t1)) : ex (fX7_refuse 1 a1 h) (fun p => r = p.1 ∧ Rp p.2 t1) := by
  unfold tX7_refuse at H
  unfold fX7_refuse
  refine ex.bd (r_isO hR_t lk6) ?_
  refine ex.bd (r_gI hR_t lk6 rfl) ?_
  obtain ⟨tt3, et4, H⟩ := am_bd H
  obtain ⟨hh2, e5, hR_tt3⟩ := r_pI (k := 7) (x := a1 + (((16 : Int32)) * (t.1 1 2))) hR_t lk6 rfl rfl
  rw [Option.some.inj et4] at hR_tt3
  refine ex.bd e5 ?_
  obtain ⟨rfl, rfl⟩ := am_inj2 H
  exact ex.nd ⟨rfl, hR_tt3⟩
def tX7_isSign (a0 : Int32) (t : tS) : Option (Int32) :=
  if a0.toInt < 40 ∨ 61 < a0.toInt then
    some ((0 : Int32))
  else (some (a0.toInt - 40).toNat).bind fun k2 =>
  if k2 = 0 then
    some ((1 : Int32))
  else if k2 = 1 then
    some ((1 : Int32))
  else if k2 = 2 then
    some ((1 : Int32))
  else if k2 = 3 then
    some ((1 : Int32))
  else if k2 = 4 then
    some ((0 : Int32))
  else if k2 = 5 then
    some ((1 : Int32))
  else if k2 = 6 then
    some ((0 : Int32))
  else if k2 = 7 then
    some ((0 : Int32))
  else if k2 = 8 then
    some ((0 : Int32))
  else if k2 = 9 then
    some ((0 : Int32))
  else if k2 = 10 then
    some ((0 : Int32))
  else if k2 = 11 then
    some ((0 : Int32))
  else if k2 = 12 then
    some ((0 : Int32))
  else if k2 = 13 then
    some ((0 : Int32))
  else if k2 = 14 then
    some ((0 : Int32))
  else if k2 = 15 then
    some ((0 : Int32))
  else if k2 = 16 then
    some ((0 : Int32))
  else if k2 = 17 then
    some ((0 : Int32))
  else if k2 = 18 then
    some ((0 : Int32))
  else if k2 = 19 then
    some ((1 : Int32))
  else if k2 = 20 then
    some ((1 : Int32))
  else if k2 = 21 then
    some ((1 : Int32))
  else none
set_option maxHeartbeats 4000000 in
set_option maxRecDepth 100000 in
theorem sX7_isSign {a0 : Int32} {h : am_H} {t : tS} {r : Int32} (hR_t : Rp h t)  (H : tX7_isSign a0 t = some r) : ex (fX7_isSign a0 h) (fun x => r = x) := by
  unfold tX7_isSign at H
  unfold fX7_isSign
  by_cases c1 : a0.toInt < 40 ∨ 61 < a0.toInt
  · rw [if_pos c1] at H
    refine ex.t c1 ?_
    obtain rfl := Option.some.inj H
    exact ex.nd rfl
  · rw [if_neg c1] at H
    refine ex.f c1 ?_
    obtain ⟨k2, e3, H⟩ := am_bd H
    refine ex.bd e3 ?_
    by_cases c4 : k2 = 0
    · rw [if_pos c4] at H
      refine ex.t c4 ?_
      obtain rfl := Option.some.inj H
      exact ex.nd rfl
    · rw [if_neg c4] at H
      refine ex.f c4 ?_
      by_cases c5 : k2 = 1
      · rw [if_pos c5] at H
        refine ex.t c5 ?_
        obtain rfl := Option.some.inj H
        exact ex.nd rfl
      · rw [if_neg c5] at H
        refine ex.f c5 ?_
        by_cases c6 : k2 = 2
        · rw [if_pos c6] at H
          refine ex.t c6 ?_
          obtain rfl := Option.some.inj H
          exact ex.nd rfl
        · rw [if_neg c6] at H
          refine ex.f c6 ?_
          by_cases c7 : k2 = 3
          · rw [if_pos c7] at H
            refine ex.t c7 ?_
            obtain rfl := Option.some.inj H
            exact ex.nd rfl
          · rw [if_neg c7] at H
            refine ex.f c7 ?_
            by_cases c8 : k2 = 4
            · rw [if_pos c8] at H
              refine ex.t c8 ?_
              obtain rfl := Option.some.inj H
              exact ex.nd rfl
            · rw [if_neg c8] at H
              refine ex.f c8 ?_
              by_cases c9 : k2 = 5
              · rw [if_pos c9] at H
                refine ex.t c9 ?_
                obtain rfl := Option.some.inj H
                exact ex.nd rfl
              · rw [if_neg c9] at H
                refine ex.f c9 ?_
                by_cases c10 : k2 = 6
                · rw [if_pos c10] at H
                  refine ex.t c10 ?_
                  obtain rfl := Option.some.inj H
                  exact ex.nd rfl
                · rw [if_neg c10] at H
                  refine ex.f c10 ?_
                  by_cases c11 : k2 = 7
                  · rw [if_pos c11] at H
                    refine ex.t c11 ?_
                    obtain rfl := Option.some.inj H
                    exact ex.nd rfl
                  · rw [if_neg c11] at H
                    refine ex.f c11 ?_
                    by_cases c12 : k2 = 8
                    · rw [if_pos c12] at H
                      refine ex.t c12 ?_
                      obtain rfl := Option.some.inj H
                      exact ex.nd rfl
                    · rw [if_neg c12] at H
                      refine ex.f c12 ?_
                      by_cases c13 : k2 = 9
                      · rw [if_pos c13] at H
                        refine ex.t c13 ?_
                        obtain rfl := Option.some.inj H
                        exact ex.nd rfl
                      · rw [if_neg c13] at H
                        refine ex.f c13 ?_
                        by_cases c14 : k2 = 10
                        · rw [if_pos c14] at H
                          refine ex.t c14 ?_
                          obtain rfl := Option.some.inj H
                          exact ex.nd rfl
                        · rw [if_neg c14] at H
                          refine ex.f c14 ?_
                          by_cases c15 : k2 = 11
                          · rw [if_pos c15] at H
                            refine ex.t c15 ?_
                            obtain rfl := Option.some.inj H
                            exact ex.nd rfl
                          · rw [if_neg c15] at H
                            refine ex.f c15 ?_
                            by_cases c16 : k2 = 12
                            · rw [if_pos c16] at H
                              refine ex.t c16 ?_
                              obtain rfl := Option.some.inj H
                              exact ex.nd rfl
                            · rw [if_neg c16] at H
                              refine ex.f c16 ?_
                              by_cases c17 : k2 = 13
                              · rw [if_pos c17] at H
                                refine ex.t c17 ?_
                                obtain rfl := Option.some.inj H
                                exact ex.nd rfl
                              · rw [if_neg c17] at H
                                refine ex.f c17 ?_
                                by_cases c18 : k2 = 14
                                · rw [if_pos c18] at H
                                  refine ex.t c18 ?_
                                  obtain rfl := Option.some.inj H
                                  exact ex.nd rfl
                                · rw [if_neg c18] at H
                                  refine ex.f c18 ?_
                                  by_cases c19 : k2 = 15
                                  · rw [if_pos c19] at H
                                    refine ex.t c19 ?_
                                    obtain rfl := Option.some.inj H
                                    exact ex.nd rfl
                                  · rw [if_neg c19] at H
                                    refine ex.f c19 ?_
                                    by_cases c20 : k2 = 16
                                    · rw [if_pos c20] at H
                                      refine ex.t c20 ?_
                                      obtain rfl := Option.some.inj H
                                      exact ex.nd rfl
                                    · rw [if_neg c20] at H
                                      refine ex.f c20 ?_
                                      by_cases c21 : k2 = 17
                                      · rw [if_pos c21] at H
                                        refine ex.t c21 ?_
                                        obtain rfl := Option.some.inj H
                                        exact ex.nd rfl
                                      · rw [if_neg c21] at H
                                        refine ex.f c21 ?_
                                        by_cases c22 : k2 = 18
                                        · rw [if_pos c22] at H
                                          refine ex.t c22 ?_
                                          obtain rfl := Option.some.inj H
                                          exact ex.nd rfl
                                        · rw [if_neg c22] at H
                                          refine ex.f c22 ?_
                                          by_cases c23 : k2 = 19
                                          · rw [if_pos c23] at H
                                            refine ex.t c23 ?_
                                            obtain rfl := Option.some.inj H
                                            exact ex.nd rfl
                                          · rw [if_neg c23] at H
                                            refine ex.f c23 ?_
                                            by_cases c24 : k2 = 20
                                            · rw [if_pos c24] at H
                                              refine ex.t c24 ?_
                                              obtain rfl := Option.some.inj H
                                              exact ex.nd rfl
                                            · rw [if_neg c24] at H
                                              refine ex.f c24 ?_
                                              by_cases c25 : k2 = 21
                                              · rw [if_pos c25] at H
                                                refine ex.t c25 ?_
                                                obtain rfl := Option.some.inj H
                                                exact ex.nd rfl
                                              · rw [if_neg c25] at H
                                                refine ex.f c25 ?_
                                                cases H
def tX7_scanNumber_L5 : Nat → tS → Option (tS)
  | 0, _ => none
  | n + 1, t =>
    if (t.1 1 1) ≤ (t.1 1 3) then
      some t
    else
      (tA t 2 1000 (t.1 1 3)).bind fun x10 =>
      if x10 < ((48 : Int32)) then
        some t
      else
        (tA t 2 1000 (t.1 1 3)).bind fun x15 =>
        if ((57 : Int32)) < x15 then
          some t
        else
          (tA t 2 1000 (t.1 1 3)).bind fun x21 =>
          (some (uI t 1 5 (((t.1 1 5) * ((10 : Int32))) + (x21 - ((48 : Int32)))))).bind fun tt24 =>
          (some (uI tt24 1 3 ((tt24.1 1 3) + ((1 : Int32))))).bind fun tt29 =>
          tX7_scanNumber_L5 n  tt29
def tX7_scanNumber  (t : tS) : Option (tS) :=
  (some (uI t 1 5 ((0 : Int32)))).bind fun tt2 =>
  Option.bind (tX7_scanNumber_L5 4000  tt2) fun tt33 =>
  Option.bind (
    if ((4 : Int32)) < ((tt33.1 1 3) - (tt33.1 1 2)) then
      some ((4 : Int32))
    else
      some ((2 : Int32))) fun js37 =>
  (some (uI tt33 1 4 js37)).bind fun tt40 =>
  some tt40
set_option maxHeartbeats 4000000 in
set_option maxRecDepth 100000 in
theorem sX7_scanNumber_L5 : ∀ (n : Nat)  (h : am_H) (t : tS) (t1 : tS), Rp h t → tX7_scanNumber_L5 n  t = some t1 → ex (fX7_scanNumber_L5 n 1 h) (fun p => Rp p t1) := by
  intro n
  induction n with
  | zero => intro _ _ _ _ H; cases H
  | succ n ih =>
    intro h t t1 hR_t H
    rw [tX7_scanNumber_L5] at H
    rw [fX7_scanNumber_L5]
    refine ex.bd (r_gI hR_t lk6 rfl) ?_
    refine ex.bd (r_gI hR_t lk6 rfl) ?_
    by_cases c7 : (t.1 1 1) ≤ (t.1 1 3)
    · rw [if_pos c7] at H
      refine ex.t c7 ?_
      obtain rfl := Option.some.inj H
      exact ex.nd hR_t
    · rw [if_neg c7] at H
      refine ex.f c7 ?_
      refine ex.bd (r_gR hR_t lk6 rfl) ?_
      refine ex.bd (r_gI hR_t lk6 rfl) ?_
      obtain ⟨x10, e11, H⟩ := am_bd H
      refine ex.bd (r_aI hR_t (la6_0 (a := 1) (by decide)) e11) ?_
      by_cases c12 : x10 < ((48 : Int32))
      · rw [if_pos c12] at H
        refine ex.t c12 ?_
        obtain rfl := Option.some.inj H
        exact ex.nd hR_t
      · rw [if_neg c12] at H
        refine ex.f c12 ?_
        refine ex.bd (r_gR hR_t lk6 rfl) ?_
        refine ex.bd (r_gI hR_t lk6 rfl) ?_
        obtain ⟨x15, e16, H⟩ := am_bd H
        refine ex.bd (r_aI hR_t (la6_0 (a := 1) (by decide)) e16) ?_
        by_cases c17 : ((57 : Int32)) < x15
        · rw [if_pos c17] at H
          refine ex.t c17 ?_
          obtain rfl := Option.some.inj H
          exact ex.nd hR_t
        · rw [if_neg c17] at H
          refine ex.f c17 ?_
          refine ex.bd (r_gI hR_t lk6 rfl) ?_
          refine ex.bd (r_gR hR_t lk6 rfl) ?_
          refine ex.bd (r_gI hR_t lk6 rfl) ?_
          obtain ⟨x21, e22, H⟩ := am_bd H
          refine ex.bd (r_aI hR_t (la6_0 (a := 1) (by decide)) e22) ?_
          obtain ⟨tt24, et25, H⟩ := am_bd H
          obtain ⟨hh23, e26, hR_tt24⟩ := r_pI (k := 5) (x := ((t.1 1 5) * ((10 : Int32))) + (x21 - ((48 : Int32)))) hR_t lk6 rfl rfl
          rw [Option.some.inj et25] at hR_tt24
          refine ex.bd e26 ?_
          refine ex.bd (r_gI hR_tt24 lk6 rfl) ?_
          obtain ⟨tt29, et30, H⟩ := am_bd H
          obtain ⟨hh28, e31, hR_tt29⟩ := r_pI (k := 3) (x := (tt24.1 1 3) + ((1 : Int32))) hR_tt24 lk6 rfl rfl
          rw [Option.some.inj et30] at hR_tt29
          refine ex.bd e31 ?_
          exact ih _ _ _ hR_tt29  H
set_option maxHeartbeats 4000000 in
set_option maxRecDepth 100000 in
theorem sX7_scanNumber  {h : am_H} {t : tS} {t1 : tS} (hR_t : Rp h t)  (H : tX7_scanNumber  t = some t1) : ex (fX7_scanNumber 1 h) (fun h1 => Rp h1 t1) := by
  unfold tX7_scanNumber at H
  unfold fX7_scanNumber
  refine ex.bd (r_isO hR_t lk6) ?_
  obtain ⟨tt2, et3, H⟩ := am_bd H
  obtain ⟨hh1, e4, hR_tt2⟩ := r_pI (k := 5) (x := (0 : Int32)) hR_t lk6 rfl rfl
  rw [Option.some.inj et3] at hR_tt2
  refine ex.bd e4 ?_
  obtain ⟨tt33, E34, H⟩ := am_bd H
  refine ex.j1 (sX7_scanNumber_L5 _ _ _ _ hR_tt2  E34) (fun hh32 hq => ?_)
  clear E34
  have hR_tt33 : Rp hh32 tt33 := hq
  refine ex.bd (r_gI hR_tt33 lk6 rfl) ?_
  refine ex.bd (r_gI hR_tt33 lk6 rfl) ?_
  obtain ⟨js37, E43, H⟩ := am_bd H
  refine ex.j1 (Q := fun p => js37 = p) ?_ (fun z44 hq => ?_)
  · clear H
    have H := E43
    clear E43
    by_cases c38 : ((4 : Int32)) < ((tt33.1 1 3) - (tt33.1 1 2))
    · rw [if_pos c38] at H
      refine ex.t c38 ?_
      obtain rfl := Option.some.inj H
      exact ex.nd rfl
    · rw [if_neg c38] at H
      refine ex.f c38 ?_
      obtain rfl := Option.some.inj H
      exact ex.nd rfl
  · clear E43
    obtain rfl : js37 = z44 := hq
    obtain ⟨tt40, et41, H⟩ := am_bd H
    obtain ⟨hh39, e42, hR_tt40⟩ := r_pI (k := 4) (x := js37) hR_tt33 lk6 rfl rfl
    rw [Option.some.inj et41] at hR_tt40
    refine ex.bd e42 ?_
    obtain rfl := Option.some.inj H
    exact ex.nd hR_tt40
def tX7_scanWord_L5 : Nat → tS → Option (tS)
  | 0, _ => none
  | n + 1, t =>
    if (t.1 1 1) ≤ (t.1 1 3) then
      some t
    else
      (tA t 2 1000 (t.1 1 3)).bind fun x10 =>
      if x10 < ((97 : Int32)) then
        some t
      else
        (tA t 2 1000 (t.1 1 3)).bind fun x15 =>
        if ((122 : Int32)) < x15 then
          some t
        else
          (tA t 2 1000 (t.1 1 3)).bind fun x21 =>
          (some (uJ t 1 6 (((t.2.2.2.1 1 6) * ((32 : Int64))) + (((x21 - ((97 : Int32))) + ((1 : Int32))).toInt64)))).bind fun tt24 =>
          (some (uI tt24 1 3 ((tt24.1 1 3) + ((1 : Int32))))).bind fun tt29 =>
          tX7_scanWord_L5 n  tt29
def tX7_scanWord  (t : tS) : Option (tS) :=
  (some (uJ t 1 6 ((0 : Int64)))).bind fun tt2 =>
  Option.bind (tX7_scanWord_L5 4000  tt2) fun tt33 =>
  Option.bind (
    if ((8 : Int32)) < ((tt33.1 1 3) - (tt33.1 1 2)) then
      some ((4 : Int32))
    else
      some ((1 : Int32))) fun js37 =>
  (some (uI tt33 1 4 js37)).bind fun tt40 =>
  some tt40
set_option maxHeartbeats 4000000 in
set_option maxRecDepth 100000 in
theorem sX7_scanWord_L5 : ∀ (n : Nat)  (h : am_H) (t : tS) (t1 : tS), Rp h t → tX7_scanWord_L5 n  t = some t1 → ex (fX7_scanWord_L5 n 1 h) (fun p => Rp p t1) := by
  intro n
  induction n with
  | zero => intro _ _ _ _ H; cases H
  | succ n ih =>
    intro h t t1 hR_t H
    rw [tX7_scanWord_L5] at H
    rw [fX7_scanWord_L5]
    refine ex.bd (r_gI hR_t lk6 rfl) ?_
    refine ex.bd (r_gI hR_t lk6 rfl) ?_
    by_cases c7 : (t.1 1 1) ≤ (t.1 1 3)
    · rw [if_pos c7] at H
      refine ex.t c7 ?_
      obtain rfl := Option.some.inj H
      exact ex.nd hR_t
    · rw [if_neg c7] at H
      refine ex.f c7 ?_
      refine ex.bd (r_gR hR_t lk6 rfl) ?_
      refine ex.bd (r_gI hR_t lk6 rfl) ?_
      obtain ⟨x10, e11, H⟩ := am_bd H
      refine ex.bd (r_aI hR_t (la6_0 (a := 1) (by decide)) e11) ?_
      by_cases c12 : x10 < ((97 : Int32))
      · rw [if_pos c12] at H
        refine ex.t c12 ?_
        obtain rfl := Option.some.inj H
        exact ex.nd hR_t
      · rw [if_neg c12] at H
        refine ex.f c12 ?_
        refine ex.bd (r_gR hR_t lk6 rfl) ?_
        refine ex.bd (r_gI hR_t lk6 rfl) ?_
        obtain ⟨x15, e16, H⟩ := am_bd H
        refine ex.bd (r_aI hR_t (la6_0 (a := 1) (by decide)) e16) ?_
        by_cases c17 : ((122 : Int32)) < x15
        · rw [if_pos c17] at H
          refine ex.t c17 ?_
          obtain rfl := Option.some.inj H
          exact ex.nd hR_t
        · rw [if_neg c17] at H
          refine ex.f c17 ?_
          refine ex.bd (r_gL hR_t lk6 rfl) ?_
          refine ex.bd (r_gR hR_t lk6 rfl) ?_
          refine ex.bd (r_gI hR_t lk6 rfl) ?_
          obtain ⟨x21, e22, H⟩ := am_bd H
          refine ex.bd (r_aI hR_t (la6_0 (a := 1) (by decide)) e22) ?_
          obtain ⟨tt24, et25, H⟩ := am_bd H
          obtain ⟨hh23, e26, hR_tt24⟩ := r_pL (k := 6) (x := ((t.2.2.2.1 1 6) * ((32 : Int64))) + (((x21 - ((97 : Int32))) + ((1 : Int32))).toInt64)) hR_t lk6 rfl rfl
          rw [Option.some.inj et25] at hR_tt24
          refine ex.bd e26 ?_
          refine ex.bd (r_gI hR_tt24 lk6 rfl) ?_
          obtain ⟨tt29, et30, H⟩ := am_bd H
          obtain ⟨hh28, e31, hR_tt29⟩ := r_pI (k := 3) (x := (tt24.1 1 3) + ((1 : Int32))) hR_tt24 lk6 rfl rfl
          rw [Option.some.inj et30] at hR_tt29
          refine ex.bd e31 ?_
          exact ih _ _ _ hR_tt29  H
set_option maxHeartbeats 4000000 in
set_option maxRecDepth 100000 in
theorem sX7_scanWord  {h : am_H} {t : tS} {t1 : tS} (hR_t : Rp h t)  (H : tX7_scanWord  t = some t1) : ex (fX7_scanWord 1 h) (fun h1 => Rp h1 t1) := by
  unfold tX7_scanWord at H
  unfold fX7_scanWord
  refine ex.bd (r_isO hR_t lk6) ?_
  obtain ⟨tt2, et3, H⟩ := am_bd H
  obtain ⟨hh1, e4, hR_tt2⟩ := r_pL (k := 6) (x := (0 : Int64)) hR_t lk6 rfl rfl
  rw [Option.some.inj et3] at hR_tt2
  refine ex.bd e4 ?_
  obtain ⟨tt33, E34, H⟩ := am_bd H
  refine ex.j1 (sX7_scanWord_L5 _ _ _ _ hR_tt2  E34) (fun hh32 hq => ?_)
  clear E34
  have hR_tt33 : Rp hh32 tt33 := hq
  refine ex.bd (r_gI hR_tt33 lk6 rfl) ?_
  refine ex.bd (r_gI hR_tt33 lk6 rfl) ?_
  obtain ⟨js37, E43, H⟩ := am_bd H
  refine ex.j1 (Q := fun p => js37 = p) ?_ (fun z44 hq => ?_)
  · clear H
    have H := E43
    clear E43
    by_cases c38 : ((8 : Int32)) < ((tt33.1 1 3) - (tt33.1 1 2))
    · rw [if_pos c38] at H
      refine ex.t c38 ?_
      obtain rfl := Option.some.inj H
      exact ex.nd rfl
    · rw [if_neg c38] at H
      refine ex.f c38 ?_
      obtain rfl := Option.some.inj H
      exact ex.nd rfl
  · clear E43
    obtain rfl : js37 = z44 := hq
    obtain ⟨tt40, et41, H⟩ := am_bd H
    obtain ⟨hh39, e42, hR_tt40⟩ := r_pI (k := 4) (x := js37) hR_tt33 lk6 rfl rfl
    rw [Option.some.inj et41] at hR_tt40
    refine ex.bd e42 ?_
    obtain rfl := Option.some.inj H
    exact ex.nd hR_tt40
def tX9_within (a0 : Int32) (a1 : Int32) (a2 : Int32) (t : tS) : Option (Int32) :=
  Option.bind (
    if a0 < a1 then
      some ((0 : Int32))
    else
      if a2 < a0 then
        some ((0 : Int32))
      else
        some ((1 : Int32))) fun js1 =>
  (am_z01 js1).bind fun b4 =>
  some b4
set_option maxHeartbeats 4000000 in
set_option maxRecDepth 100000 in
theorem sX9_within {a0 : Int32} {a1 : Int32} {a2 : Int32} {h : am_H} {t : tS} {r : Int32} (hR_t : Rp h t)  (H : tX9_within a0 a1 a2 t = some r) : ex (fX9_within a0 a1 a2 h) (fun x => r = x) := by
  unfold tX9_within at H
  unfold fX9_within
  obtain ⟨js1, E6, H⟩ := am_bd H
  refine ex.j1 (Q := fun p => js1 = p) ?_ (fun z7 hq => ?_)
  · clear H
    have H := E6
    clear E6
    by_cases c2 : a0 < a1
    · rw [if_pos c2] at H
      refine ex.t c2 ?_
      obtain rfl := Option.some.inj H
      exact ex.nd rfl
    · rw [if_neg c2] at H
      refine ex.f c2 ?_
      by_cases c3 : a2 < a0
      · rw [if_pos c3] at H
        refine ex.t c3 ?_
        obtain rfl := Option.some.inj H
        exact ex.nd rfl
      · rw [if_neg c3] at H
        refine ex.f c3 ?_
        obtain rfl := Option.some.inj H
        exact ex.nd rfl
  · clear E6
    obtain rfl : js1 = z7 := hq
    obtain ⟨b4, e5, H⟩ := am_bd H
    refine ex.bd e5 ?_
    obtain rfl := Option.some.inj H
    exact ex.nd rfl
def tX7_step_L0 : Nat → tS → Option (tS)
  | 0, _ => none
  | n + 1, t =>
    if (t.1 1 1) ≤ (t.1 1 3) then
      some t
    else
      (tA t 2 1000 (t.1 1 3)).bind fun x6 =>
      if x6 = ((10 : Int32)) then
        (some (uI t 1 3 ((t.1 1 3) + ((1 : Int32))))).bind fun tt11 =>
        tX7_step_L0 n  tt11
      else
        (tA t 2 1000 (t.1 1 3)).bind fun x16 =>
        if ¬ x16 = ((32 : Int32)) then
          some t
        else
          (some (uI t 1 3 ((t.1 1 3) + ((1 : Int32))))).bind fun tt21 =>
          tX7_step_L0 n  tt21
def tX7_step  (t : tS) : Option (tS) :=
  Option.bind (tX7_step_L0 4000  t) fun tt25 =>
  (some (uI tt25 1 2 (tt25.1 1 3))).bind fun tt29 =>
  if (tt29.1 1 2) < (tt29.1 1 1) then
    (tA tt29 2 1000 (tt29.1 1 2)).bind fun x37 =>
    (tX9_within x37 ((97 : Int32)) ((122 : Int32)) tt29).bind fun x40 =>
    Option.bind (
      if x40 = 0 then
        (tX9_within x37 ((48 : Int32)) ((57 : Int32)) tt29).bind fun x46 =>
        if x46 = 0 then
          (some (uI tt29 1 3 ((tt29.1 1 3) + ((1 : Int32))))).bind fun tt51 =>
          (tX7_isSign x37 tt51).bind fun x55 =>
          Option.bind (
            if x55 = 0 then
              some ((4 : Int32))
            else
              some ((3 : Int32))) fun js57 =>
          (some (uI tt51 1 4 js57)).bind fun tt60 =>
          some tt60
        else
          (tX7_scanNumber  tt29).bind fun tt67 =>
          some tt67
      else
        (tX7_scanWord  tt29).bind fun tt70 =>
        some tt70) fun tt43 =>
    some tt43
  else
    (some (uI tt29 1 4 ((0 : Int32)))).bind fun tt73 =>
    some tt73
set_option maxHeartbeats 4000000 in
set_option maxRecDepth 100000 in
theorem sX7_step_L0 : ∀ (n : Nat)  (h : am_H) (t : tS) (t1 : tS), Rp h t → tX7_step_L0 n  t = some t1 → ex (fX7_step_L0 n 1 h) (fun p => Rp p t1) := by
  intro n
  induction n with
  | zero => intro _ _ _ _ H; cases H
  | succ n ih =>
    intro h t t1 hR_t H
    rw [tX7_step_L0] at H
    rw [fX7_step_L0]
    refine ex.bd (r_gI hR_t lk6 rfl) ?_
    refine ex.bd (r_gI hR_t lk6 rfl) ?_
    by_cases c3 : (t.1 1 1) ≤ (t.1 1 3)
    · rw [if_pos c3] at H
      refine ex.t c3 ?_
      obtain rfl := Option.some.inj H
      exact ex.nd hR_t
    · rw [if_neg c3] at H
      refine ex.f c3 ?_
      refine ex.bd (r_gR hR_t lk6 rfl) ?_
      refine ex.bd (r_gI hR_t lk6 rfl) ?_
      obtain ⟨x6, e7, H⟩ := am_bd H
      refine ex.bd (r_aI hR_t (la6_0 (a := 1) (by decide)) e7) ?_
      by_cases c8 : x6 = ((10 : Int32))
      · rw [if_pos c8] at H
        refine ex.t c8 ?_
        refine ex.bd (r_gI hR_t lk6 rfl) ?_
        obtain ⟨tt11, et12, H⟩ := am_bd H
        obtain ⟨hh10, e13, hR_tt11⟩ := r_pI (k := 3) (x := (t.1 1 3) + ((1 : Int32))) hR_t lk6 rfl rfl
        rw [Option.some.inj et12] at hR_tt11
        refine ex.bd e13 ?_
        exact ih _ _ _ hR_tt11  H
      · rw [if_neg c8] at H
        refine ex.f c8 ?_
        refine ex.bd (r_gR hR_t lk6 rfl) ?_
        refine ex.bd (r_gI hR_t lk6 rfl) ?_
        obtain ⟨x16, e17, H⟩ := am_bd H
        refine ex.bd (r_aI hR_t (la6_0 (a := 1) (by decide)) e17) ?_
        by_cases c18 : ¬ x16 = ((32 : Int32))
        · rw [if_pos c18] at H
          refine ex.t c18 ?_
          obtain rfl := Option.some.inj H
          exact ex.nd hR_t
        · rw [if_neg c18] at H
          refine ex.f c18 ?_
          refine ex.bd (r_gI hR_t lk6 rfl) ?_
          obtain ⟨tt21, et22, H⟩ := am_bd H
          obtain ⟨hh20, e23, hR_tt21⟩ := r_pI (k := 3) (x := (t.1 1 3) + ((1 : Int32))) hR_t lk6 rfl rfl
          rw [Option.some.inj et22] at hR_tt21
          refine ex.bd e23 ?_
          exact ih _ _ _ hR_tt21  H
set_option maxHeartbeats 4000000 in
set_option maxRecDepth 100000 in
theorem sX7_step  {h : am_H} {t : tS} {t1 : tS} (hR_t : Rp h t)  (H : tX7_step  t = some t1) : ex (fX7_step 1 h) (fun h1 => Rp h1 t1) := by
  unfold tX7_step at H
  unfold fX7_step
  refine ex.bd (r_isO hR_t lk6) ?_
  obtain ⟨tt25, E26, H⟩ := am_bd H
  refine ex.j1 (sX7_step_L0 _ _ _ _ hR_t  E26) (fun hh24 hq => ?_)
  clear E26
  have hR_tt25 : Rp hh24 tt25 := hq
  refine ex.bd (r_gI hR_tt25 lk6 rfl) ?_
  obtain ⟨tt29, et30, H⟩ := am_bd H
  obtain ⟨hh28, e31, hR_tt29⟩ := r_pI (k := 2) (x := tt25.1 1 3) hR_tt25 lk6 rfl rfl
  rw [Option.some.inj et30] at hR_tt29
  refine ex.bd e31 ?_
  refine ex.bd (r_gI hR_tt29 lk6 rfl) ?_
  refine ex.bd (r_gI hR_tt29 lk6 rfl) ?_
  by_cases c34 : (tt29.1 1 2) < (tt29.1 1 1)
  · rw [if_pos c34] at H
    refine ex.t c34 ?_
    refine ex.bd (r_gR hR_tt29 lk6 rfl) ?_
    refine ex.bd (r_gI hR_tt29 lk6 rfl) ?_
    obtain ⟨x37, e38, H⟩ := am_bd H
    refine ex.bd (r_aI hR_tt29 (la6_0 (a := 1) (by decide)) e38) ?_
    obtain ⟨x40, e39, H⟩ := am_bd H
    refine ex.j1 (sX9_within hR_tt29  e39) (fun z41 hz => ?_)
    obtain rfl : x40 = z41 := hz
    obtain ⟨tt43, E71, H⟩ := am_bd H
    refine ex.j1 (Q := fun p => Rp p tt43) ?_ (fun hh42 hq => ?_)
    · clear H
      have H := E71
      clear E71
      by_cases c44 : x40 = 0
      · rw [if_pos c44] at H
        refine ex.t c44 ?_
        obtain ⟨x46, e45, H⟩ := am_bd H
        refine ex.j1 (sX9_within hR_tt29  e45) (fun z47 hz => ?_)
        obtain rfl : x46 = z47 := hz
        by_cases c48 : x46 = 0
        · rw [if_pos c48] at H
          refine ex.t c48 ?_
          refine ex.bd (r_gI hR_tt29 lk6 rfl) ?_
          obtain ⟨tt51, et52, H⟩ := am_bd H
          obtain ⟨hh50, e53, hR_tt51⟩ := r_pI (k := 3) (x := (tt29.1 1 3) + ((1 : Int32))) hR_tt29 lk6 rfl rfl
          rw [Option.some.inj et52] at hR_tt51
          refine ex.bd e53 ?_
          obtain ⟨x55, e54, H⟩ := am_bd H
          refine ex.j1 (sX7_isSign hR_tt51  e54) (fun z56 hz => ?_)
          obtain rfl : x55 = z56 := hz
          obtain ⟨js57, E63, H⟩ := am_bd H
          refine ex.j1 (Q := fun p => js57 = p) ?_ (fun z64 hq => ?_)
          · clear H
            have H := E63
            clear E63
            by_cases c58 : x55 = 0
            · rw [if_pos c58] at H
              refine ex.t c58 ?_
              obtain rfl := Option.some.inj H
              exact ex.nd rfl
            · rw [if_neg c58] at H
              refine ex.f c58 ?_
              obtain rfl := Option.some.inj H
              exact ex.nd rfl
          · clear E63
            obtain rfl : js57 = z64 := hq
            obtain ⟨tt60, et61, H⟩ := am_bd H
            obtain ⟨hh59, e62, hR_tt60⟩ := r_pI (k := 4) (x := js57) hR_tt51 lk6 rfl rfl
            rw [Option.some.inj et61] at hR_tt60
            refine ex.bd e62 ?_
            obtain rfl := Option.some.inj H
            exact ex.nd hR_tt60
        · rw [if_neg c48] at H
          refine ex.f c48 ?_
          obtain ⟨tt67, e65, H⟩ := am_bd H
          refine ex.j1 (sX7_scanNumber hR_tt29  e65) (fun hh66 hR_tt67 => ?_)
          obtain rfl := Option.some.inj H
          exact ex.nd hR_tt67
      · rw [if_neg c44] at H
        refine ex.f c44 ?_
        obtain ⟨tt70, e68, H⟩ := am_bd H
        refine ex.j1 (sX7_scanWord hR_tt29  e68) (fun hh69 hR_tt70 => ?_)
        obtain rfl := Option.some.inj H
        exact ex.nd hR_tt70
    · clear E71
      have hR_tt43 : Rp hh42 tt43 := hq
      obtain rfl := Option.some.inj H
      exact ex.nd hR_tt43
  · rw [if_neg c34] at H
    refine ex.f c34 ?_
    obtain ⟨tt73, et74, H⟩ := am_bd H
    obtain ⟨hh72, e75, hR_tt73⟩ := r_pI (k := 4) (x := (0 : Int32)) hR_tt29 lk6 rfl rfl
    rw [Option.some.inj et74] at hR_tt73
    refine ex.bd e75 ?_
    obtain rfl := Option.some.inj H
    exact ex.nd hR_tt73
def tX7_passSign (a1 : Int32) (t : tS) : Option (Int32 × tS) :=
  (tX7_isSignOf a1 t).bind fun x2 =>
  if ¬ x2 = 0 then
    (tX7_step  t).bind fun tt7 =>
    some ((1 : Int32), tt7)
  else
    am_b2 (tX7_refuse ((1 : Int32)) t) fun x9 tt11 =>
    (am_z01 x9).bind fun b13 =>
    some (b13, tt11)
set_option maxHeartbeats 4000000 in
set_option maxRecDepth 100000 in
theorem sX7_passSign {a1 : Int32} {h : am_H} {t : tS} {r : Int32} {t1 : tS} (hR_t : Rp h t)  (H : tX7_passSign a1 t = some (r, t1)) : ex (fX7_passSign 1 a1 h) (fun p => r = p.1 ∧ Rp p.2 t1) := by
  unfold tX7_passSign at H
  unfold fX7_passSign
  refine ex.bd (r_isO hR_t lk6) ?_
  obtain ⟨x2, e1, H⟩ := am_bd H
  refine ex.j1 (sX7_isSignOf hR_t  e1) (fun z3 hz => ?_)
  obtain rfl : x2 = z3 := hz
  by_cases c4 : ¬ x2 = 0
  · rw [if_pos c4] at H
    refine ex.t c4 ?_
    obtain ⟨tt7, e5, H⟩ := am_bd H
    refine ex.j1 (sX7_step hR_t  e5) (fun hh6 hR_tt7 => ?_)
    obtain ⟨rfl, rfl⟩ := am_inj2 H
    exact ex.nd ⟨rfl, hR_tt7⟩
  · rw [if_neg c4] at H
    refine ex.f c4 ?_
    obtain ⟨x9, tt11, e8, H⟩ := am_bd2 H
    refine ex.j2 (sX7_refuse hR_t  e8) (fun z12 hh10 hz => ?_)
    obtain ⟨rfl, hR_tt11⟩ : x9 = z12 ∧ Rp hh10 tt11 := hz
    obtain ⟨b13, e14, H⟩ := am_bd H
    refine ex.bd e14 ?_
    obtain ⟨rfl, rfl⟩ := am_inj2 H
    exact ex.nd ⟨rfl, hR_tt11⟩
def tX1_joined (a0 : Int32) (a1 : Int32) (a2 : Int32) (t : tS) : Option (Int32) :=
  if a0.toInt < (-11) ∨ (-6) < a0.toInt then
    some (a1 * a2)
  else (some (a0.toInt - (-11)).toNat).bind fun k2 =>
  if k2 = 0 then
    some (a1 - a2)
  else if k2 = 1 then
    some (a1 + a2)
  else if k2 = 2 then
    Option.bind (
      if ¬ a1 = a2 then
        some ((0 : Int32))
      else
        some ((1 : Int32))) fun js6 =>
    some js6
  else if k2 = 3 then
    Option.bind (
      if a2 ≤ a1 then
        some ((0 : Int32))
      else
        some ((1 : Int32))) fun js11 =>
    some js11
  else if k2 = 4 then
    Option.bind (
      if ¬ a1 = 0 then
        some ((1 : Int32))
      else
        if a2 = 0 then
          some ((0 : Int32))
        else
          some ((1 : Int32))) fun js16 =>
    some js16
  else if k2 = 5 then
    Option.bind (
      if a1 = 0 then
        some ((0 : Int32))
      else
        if a2 = 0 then
          some ((0 : Int32))
        else
          some ((1 : Int32))) fun js22 =>
    some js22
  else none
set_option maxHeartbeats 4000000 in
set_option maxRecDepth 100000 in
theorem sX1_joined {a0 : Int32} {a1 : Int32} {a2 : Int32} {h : am_H} {t : tS} {r : Int32} (hR_t : Rp h t)  (H : tX1_joined a0 a1 a2 t = some r) : ex (fX1_joined a0 a1 a2 h) (fun x => r = x) := by
  unfold tX1_joined at H
  unfold fX1_joined
  by_cases c1 : a0.toInt < (-11) ∨ (-6) < a0.toInt
  · rw [if_pos c1] at H
    refine ex.t c1 ?_
    obtain rfl := Option.some.inj H
    exact ex.nd rfl
  · rw [if_neg c1] at H
    refine ex.f c1 ?_
    obtain ⟨k2, e3, H⟩ := am_bd H
    refine ex.bd e3 ?_
    by_cases c4 : k2 = 0
    · rw [if_pos c4] at H
      refine ex.t c4 ?_
      obtain rfl := Option.some.inj H
      exact ex.nd rfl
    · rw [if_neg c4] at H
      refine ex.f c4 ?_
      by_cases c5 : k2 = 1
      · rw [if_pos c5] at H
        refine ex.t c5 ?_
        obtain rfl := Option.some.inj H
        exact ex.nd rfl
      · rw [if_neg c5] at H
        refine ex.f c5 ?_
        by_cases c10 : k2 = 2
        · rw [if_pos c10] at H
          refine ex.t c10 ?_
          obtain ⟨js6, E8, H⟩ := am_bd H
          refine ex.j1 (Q := fun p => js6 = p) ?_ (fun z9 hq => ?_)
          · clear H
            have H := E8
            clear E8
            by_cases c7 : ¬ a1 = a2
            · rw [if_pos c7] at H
              refine ex.t c7 ?_
              obtain rfl := Option.some.inj H
              exact ex.nd rfl
            · rw [if_neg c7] at H
              refine ex.f c7 ?_
              obtain rfl := Option.some.inj H
              exact ex.nd rfl
          · clear E8
            obtain rfl : js6 = z9 := hq
            obtain rfl := Option.some.inj H
            exact ex.nd rfl
        · rw [if_neg c10] at H
          refine ex.f c10 ?_
          by_cases c15 : k2 = 3
          · rw [if_pos c15] at H
            refine ex.t c15 ?_
            obtain ⟨js11, E13, H⟩ := am_bd H
            refine ex.j1 (Q := fun p => js11 = p) ?_ (fun z14 hq => ?_)
            · clear H
              have H := E13
              clear E13
              by_cases c12 : a2 ≤ a1
              · rw [if_pos c12] at H
                refine ex.t c12 ?_
                obtain rfl := Option.some.inj H
                exact ex.nd rfl
              · rw [if_neg c12] at H
                refine ex.f c12 ?_
                obtain rfl := Option.some.inj H
                exact ex.nd rfl
            · clear E13
              obtain rfl : js11 = z14 := hq
              obtain rfl := Option.some.inj H
              exact ex.nd rfl
          · rw [if_neg c15] at H
            refine ex.f c15 ?_
            by_cases c21 : k2 = 4
            · rw [if_pos c21] at H
              refine ex.t c21 ?_
              obtain ⟨js16, E19, H⟩ := am_bd H
              refine ex.j1 (Q := fun p => js16 = p) ?_ (fun z20 hq => ?_)
              · clear H
                have H := E19
                clear E19
                by_cases c17 : ¬ a1 = 0
                · rw [if_pos c17] at H
                  refine ex.t c17 ?_
                  obtain rfl := Option.some.inj H
                  exact ex.nd rfl
                · rw [if_neg c17] at H
                  refine ex.f c17 ?_
                  by_cases c18 : a2 = 0
                  · rw [if_pos c18] at H
                    refine ex.t c18 ?_
                    obtain rfl := Option.some.inj H
                    exact ex.nd rfl
                  · rw [if_neg c18] at H
                    refine ex.f c18 ?_
                    obtain rfl := Option.some.inj H
                    exact ex.nd rfl
              · clear E19
                obtain rfl : js16 = z20 := hq
                obtain rfl := Option.some.inj H
                exact ex.nd rfl
            · rw [if_neg c21] at H
              refine ex.f c21 ?_
              by_cases c27 : k2 = 5
              · rw [if_pos c27] at H
                refine ex.t c27 ?_
                obtain ⟨js22, E25, H⟩ := am_bd H
                refine ex.j1 (Q := fun p => js22 = p) ?_ (fun z26 hq => ?_)
                · clear H
                  have H := E25
                  clear E25
                  by_cases c23 : a1 = 0
                  · rw [if_pos c23] at H
                    refine ex.t c23 ?_
                    obtain rfl := Option.some.inj H
                    exact ex.nd rfl
                  · rw [if_neg c23] at H
                    refine ex.f c23 ?_
                    by_cases c24 : a2 = 0
                    · rw [if_pos c24] at H
                      refine ex.t c24 ?_
                      obtain rfl := Option.some.inj H
                      exact ex.nd rfl
                    · rw [if_neg c24] at H
                      refine ex.f c24 ?_
                      obtain rfl := Option.some.inj H
                      exact ex.nd rfl
                · clear E25
                  obtain rfl : js22 = z26 := hq
                  obtain rfl := Option.some.inj H
                  exact ex.nd rfl
              · rw [if_neg c27] at H
                refine ex.f c27 ?_
                cases H
def tX1_value_L6 : Nat → Nat → Int32 → Int32 → Int32 → Int32 → Int32 → Int32 → tS → Option (Int32 × tS)
  | 0, _, _, _, _, _, _, _, _ => none
  | n + 1, v0, v1, v2, v3, v4, v5, v6, t =>
    if (t.1 v0 2) ≤ v6 then
      some (v5, t)
    else
      (tA t (v0 + 1) 1000 v6).bind fun x4 =>
      am_b2 (
        if ¬ x4 = ((-5 : Int32)) then
          if ((-5 : Int32)) ≤ x4 then
            if (Int32.ofNat 32) ≤ v5 then
              some (v5, t)
            else
              Option.bind (
                if ¬ x4 = ((-1 : Int32)) then
                  if ¬ x4 = ((-2 : Int32)) then
                    if ¬ x4 = ((-3 : Int32)) then
                      if ¬ x4 = ((-4 : Int32)) then
                        some x4
                      else
                        some v4
                    else
                      some v3
                  else
                    some v2
                else
                  some v1) fun js15 =>
              (tWA t 0 (v0 + 2) 32 v5 js15).bind fun tt21 =>
              some (v5 + (1 : Int32), tt21)
          else
            if v5 ≤ ((1 : Int32)) then
              some (v5, t)
            else
              (tA t (v0 + 2) 32 ((v5 + (-1 : Int32)) - ((1 : Int32)))).bind fun x29 =>
              (tA t (v0 + 2) 32 (v5 + (-1 : Int32))).bind fun x32 =>
              (tX1_joined x4 x29 x32 t).bind fun x35 =>
              (tWA t 0 (v0 + 2) 32 ((v5 + (-1 : Int32)) - ((1 : Int32))) x35).bind fun tt38 =>
              some (v5 + (-1 : Int32), tt38)
        else
          if v5 ≤ 0 then
            some (v5, t)
          else
            (tA t (v0 + 2) 32 (v5 - ((1 : Int32)))).bind fun x44 =>
            Option.bind (
              if ¬ x44 = 0 then
                some ((0 : Int32))
              else
                some ((1 : Int32))) fun js46 =>
            (tWA t 0 (v0 + 2) 32 (v5 - ((1 : Int32))) js46).bind fun tt49 =>
            some (v5, tt49)) fun jv6 tt8 =>
      tX1_value_L6 n v0 v1 v2 v3 v4 jv6 (v6 + (1 : Int32)) tt8
def tX1_value (a0 : Nat) (a1 : Int32) (a2 : Int32) (a3 : Int32) (a4 : Int32) (t : tS) : Option (Int32 × tS) :=
  am_b2 (tX1_value_L6 4000 a0 a1 a2 a3 a4 ((0 : Int32)) ((0 : Int32)) t) fun lw56 tt58 =>
  Option.bind (
    if lw56 ≤ 0 then
      some ((0 : Int32))
    else
      (tA tt58 (a0 + 2) 32 (lw56 - ((1 : Int32)))).bind fun x64 =>
      some x64) fun js61 =>
  some (js61, tt58)
set_option maxHeartbeats 4000000 in
set_option maxRecDepth 100000 in
theorem sX1_value_L6 : ∀ (n : Nat) (v0 : Nat) (v1 : Int32) (v2 : Int32) (v3 : Int32) (v4 : Int32) (v5 : Int32) (v6 : Int32) (h : am_H) (t : tS) (w5 : Int32) (t1 : tS), Rp h t → ly_Is 1 v0 → tX1_value_L6 n v0 v1 v2 v3 v4 v5 v6 t = some (w5, t1) → ex (fX1_value_L6 n v0 v1 v2 v3 v4 v5 v6 h) (fun p => w5 = p.1 ∧ Rp p.2 t1) := by
  intro n
  induction n with
  | zero => intro _ _ _ _ _ _ _ _ _ _ _ _ _ H; cases H
  | succ n ih =>
    intro v0 v1 v2 v3 v4 v5 v6 h t w5 t1 hR_t i0 H
    rw [tX1_value_L6] at H
    rw [fX1_value_L6]
    refine ex.bd (r_gI hR_t (lc1 i0) rfl) ?_
    by_cases c2 : (t.1 v0 2) ≤ v6
    · rw [if_pos c2] at H
      refine ex.t c2 ?_
      obtain ⟨rfl, rfl⟩ := am_inj2 H
      exact ex.nd ⟨rfl, hR_t⟩
    · rw [if_neg c2] at H
      refine ex.f c2 ?_
      refine ex.bd (r_gR hR_t (lc1 i0) rfl) ?_
      obtain ⟨x4, e5, H⟩ := am_bd H
      refine ex.bd (r_aI hR_t (la1_0 i0) e5) ?_
      obtain ⟨jv6, tt8, E54, H⟩ := am_bd2 H
      refine ex.j2 (Q := fun p => jv6 = p.1 ∧ Rp p.2 tt8) ?_ (fun z55 hh7 hq => ?_)
      · clear H
        have H := E54
        clear E54
        by_cases c9 : ¬ x4 = ((-5 : Int32))
        · rw [if_pos c9] at H
          refine ex.t c9 ?_
          by_cases c10 : ((-5 : Int32)) ≤ x4
          · rw [if_pos c10] at H
            refine ex.t c10 ?_
            refine ex.bd (r_gR hR_t (lc1 i0) rfl) ?_
            refine ex.bd (r_len hR_t (la1_1 i0) (by decide)) ?_
            by_cases c13 : (Int32.ofNat 32) ≤ v5
            · rw [if_pos c13] at H
              refine ex.t c13 ?_
              obtain ⟨rfl, rfl⟩ := am_inj2 H
              exact ex.nd ⟨rfl, hR_t⟩
            · rw [if_neg c13] at H
              refine ex.f c13 ?_
              refine ex.bd (r_gR hR_t (lc1 i0) rfl) ?_
              obtain ⟨js15, E24, H⟩ := am_bd H
              refine ex.j1 (Q := fun p => js15 = p) ?_ (fun z25 hq => ?_)
              · clear H
                have H := E24
                clear E24
                by_cases c16 : ¬ x4 = ((-1 : Int32))
                · rw [if_pos c16] at H
                  refine ex.t c16 ?_
                  by_cases c17 : ¬ x4 = ((-2 : Int32))
                  · rw [if_pos c17] at H
                    refine ex.t c17 ?_
                    by_cases c18 : ¬ x4 = ((-3 : Int32))
                    · rw [if_pos c18] at H
                      refine ex.t c18 ?_
                      by_cases c19 : ¬ x4 = ((-4 : Int32))
                      · rw [if_pos c19] at H
                        refine ex.t c19 ?_
                        obtain rfl := Option.some.inj H
                        exact ex.nd rfl
                      · rw [if_neg c19] at H
                        refine ex.f c19 ?_
                        obtain rfl := Option.some.inj H
                        exact ex.nd rfl
                    · rw [if_neg c18] at H
                      refine ex.f c18 ?_
                      obtain rfl := Option.some.inj H
                      exact ex.nd rfl
                  · rw [if_neg c17] at H
                    refine ex.f c17 ?_
                    obtain rfl := Option.some.inj H
                    exact ex.nd rfl
                · rw [if_neg c16] at H
                  refine ex.f c16 ?_
                  obtain rfl := Option.some.inj H
                  exact ex.nd rfl
              · clear E24
                obtain rfl : js15 = z25 := hq
                obtain ⟨tt21, e22, H⟩ := am_bd H
                obtain ⟨hh20, e23, hR_tt21⟩ := r_sI hR_t (la1_1 i0) e22
                refine ex.bd e23 ?_
                obtain ⟨rfl, rfl⟩ := am_inj2 H
                exact ex.nd ⟨rfl, hR_tt21⟩
          · rw [if_neg c10] at H
            refine ex.f c10 ?_
            by_cases c26 : v5 ≤ ((1 : Int32))
            · rw [if_pos c26] at H
              refine ex.t c26 ?_
              obtain ⟨rfl, rfl⟩ := am_inj2 H
              exact ex.nd ⟨rfl, hR_t⟩
            · rw [if_neg c26] at H
              refine ex.f c26 ?_
              refine ex.bd (r_gR hR_t (lc1 i0) rfl) ?_
              refine ex.bd (r_gR hR_t (lc1 i0) rfl) ?_
              obtain ⟨x29, e30, H⟩ := am_bd H
              refine ex.bd (r_aI hR_t (la1_1 i0) e30) ?_
              refine ex.bd (r_gR hR_t (lc1 i0) rfl) ?_
              obtain ⟨x32, e33, H⟩ := am_bd H
              refine ex.bd (r_aI hR_t (la1_1 i0) e33) ?_
              obtain ⟨x35, e34, H⟩ := am_bd H
              refine ex.j1 (sX1_joined hR_t  e34) (fun z36 hz => ?_)
              obtain rfl : x35 = z36 := hz
              obtain ⟨tt38, e39, H⟩ := am_bd H
              obtain ⟨hh37, e40, hR_tt38⟩ := r_sI hR_t (la1_1 i0) e39
              refine ex.bd e40 ?_
              obtain ⟨rfl, rfl⟩ := am_inj2 H
              exact ex.nd ⟨rfl, hR_tt38⟩
        · rw [if_neg c9] at H
          refine ex.f c9 ?_
          by_cases c41 : v5 ≤ 0
          · rw [if_pos c41] at H
            refine ex.t c41 ?_
            obtain ⟨rfl, rfl⟩ := am_inj2 H
            exact ex.nd ⟨rfl, hR_t⟩
          · rw [if_neg c41] at H
            refine ex.f c41 ?_
            refine ex.bd (r_gR hR_t (lc1 i0) rfl) ?_
            refine ex.bd (r_gR hR_t (lc1 i0) rfl) ?_
            obtain ⟨x44, e45, H⟩ := am_bd H
            refine ex.bd (r_aI hR_t (la1_1 i0) e45) ?_
            obtain ⟨js46, E52, H⟩ := am_bd H
            refine ex.j1 (Q := fun p => js46 = p) ?_ (fun z53 hq => ?_)
            · clear H
              have H := E52
              clear E52
              by_cases c47 : ¬ x44 = 0
              · rw [if_pos c47] at H
                refine ex.t c47 ?_
                obtain rfl := Option.some.inj H
                exact ex.nd rfl
              · rw [if_neg c47] at H
                refine ex.f c47 ?_
                obtain rfl := Option.some.inj H
                exact ex.nd rfl
            · clear E52
              obtain rfl : js46 = z53 := hq
              obtain ⟨tt49, e50, H⟩ := am_bd H
              obtain ⟨hh48, e51, hR_tt49⟩ := r_sI hR_t (la1_1 i0) e50
              refine ex.bd e51 ?_
              obtain ⟨rfl, rfl⟩ := am_inj2 H
              exact ex.nd ⟨rfl, hR_tt49⟩
      · clear E54
        obtain ⟨rfl, hR_tt8⟩ : jv6 = z55 ∧ Rp hh7 tt8 := hq
        exact ih _ _ _ _ _ _ _ _ _ _ _ hR_tt8 i0 H
set_option maxHeartbeats 4000000 in
set_option maxRecDepth 100000 in
theorem sX1_value {a0 : Nat} {a1 : Int32} {a2 : Int32} {a3 : Int32} {a4 : Int32} {h : am_H} {t : tS} {r : Int32} {t1 : tS} (hR_t : Rp h t) (i0 : ly_Is 1 a0) (H : tX1_value a0 a1 a2 a3 a4 t = some (r, t1)) : ex (fX1_value a0 a1 a2 a3 a4 h) (fun p => r = p.1 ∧ Rp p.2 t1) := by
  unfold tX1_value at H
  unfold fX1_value
  refine ex.bd (r_isO hR_t (lc1 i0)) ?_
  obtain ⟨lw56, tt58, E60, H⟩ := am_bd2 H
  refine ex.j2 (sX1_value_L6 _ _ _ _ _ _ _ _ _ _ _ _ hR_t i0 E60) (fun z59 hh57 hq => ?_)
  clear E60
  obtain ⟨rfl, hR_tt58⟩ : lw56 = z59 ∧ Rp hh57 tt58 := hq
  obtain ⟨js61, E66, H⟩ := am_bd H
  refine ex.j1 (Q := fun p => js61 = p) ?_ (fun z67 hq => ?_)
  · clear H
    have H := E66
    clear E66
    by_cases c62 : lw56 ≤ 0
    · rw [if_pos c62] at H
      refine ex.t c62 ?_
      obtain rfl := Option.some.inj H
      exact ex.nd rfl
    · rw [if_neg c62] at H
      refine ex.f c62 ?_
      refine ex.bd (r_gR hR_tt58 (lc1 i0) rfl) ?_
      obtain ⟨x64, e65, H⟩ := am_bd H
      refine ex.bd (r_aI hR_tt58 (la1_1 i0) e65) ?_
      obtain rfl := Option.some.inj H
      exact ex.nd rfl
  · clear E66
    obtain rfl : js61 = z67 := hq
    obtain ⟨rfl, rfl⟩ := am_inj2 H
    exact ex.nd ⟨rfl, hR_tt58⟩
def tX5_copyFrom (a0 : Nat) (a1 : Nat) (t : tS) : Option (tS) :=
  (tWC t (a1 + 1) 8 ((0 : Int32)) (a0 + 1) 8 ((0 : Int32)) ((8 : Int32))).bind fun tt4 =>
  (tWC tt4 (a1 + 2) 8 ((0 : Int32)) (a0 + 2) 8 ((0 : Int32)) ((8 : Int32))).bind fun tt10 =>
  (some (uI tt10 a0 2 (tt10.1 a1 2))).bind fun tt15 =>
  some tt15
set_option maxHeartbeats 4000000 in
set_option maxRecDepth 100000 in
theorem sX5_copyFrom {a0 : Nat} {a1 : Nat} {h : am_H} {t : tS} {t1 : tS} (hR_t : Rp h t) (i0 : ly_Is 4 a0) (i1 : ly_Is 4 a1) (H : tX5_copyFrom a0 a1 t = some t1) : ex (fX5_copyFrom a0 a1 h) (fun h1 => Rp h1 t1) := by
  unfold tX5_copyFrom at H
  unfold fX5_copyFrom
  refine ex.bd (r_isO hR_t (lc4 i0)) ?_
  refine ex.bd (r_gR hR_t (lc4 i1) rfl) ?_
  refine ex.bd (r_gR hR_t (lc4 i0) rfl) ?_
  obtain ⟨tt4, e5, H⟩ := am_bd H
  obtain ⟨hh3, e6, hR_tt4⟩ := r_cp hR_t (la4_0 i1) (la4_0 i0) e5
  refine ex.bd e6 ?_
  refine ex.bd (r_gR hR_tt4 (lc4 i1) rfl) ?_
  refine ex.bd (r_gR hR_tt4 (lc4 i0) rfl) ?_
  obtain ⟨tt10, e11, H⟩ := am_bd H
  obtain ⟨hh9, e12, hR_tt10⟩ := r_cp hR_tt4 (la4_1 i1) (la4_1 i0) e11
  refine ex.bd e12 ?_
  refine ex.bd (r_gI hR_tt10 (lc4 i1) rfl) ?_
  obtain ⟨tt15, et16, H⟩ := am_bd H
  obtain ⟨hh14, e17, hR_tt15⟩ := r_pI (k := 2) (x := tt10.1 a1 2) hR_tt10 (lc4 i0) rfl rfl
  rw [Option.some.inj et16] at hR_tt15
  refine ex.bd e17 ?_
  obtain rfl := Option.some.inj H
  exact ex.nd hR_tt15
def tX2_lay (a0 : Nat) (a1 : Nat) (a2 : Nat) (t : tS) : Option (tS) :=
  (tX6_copyFrom (a0 + 1) a1 t).bind fun tt4 =>
  (tX5_copyFrom (a0 + 8) a2 tt4).bind fun tt8 =>
  (some (uI tt8 a0 2 ((1 : Int32)))).bind fun tt10 =>
  some tt10
set_option maxHeartbeats 4000000 in
set_option maxRecDepth 100000 in
theorem sX2_lay {a0 : Nat} {a1 : Nat} {a2 : Nat} {h : am_H} {t : tS} {t1 : tS} (hR_t : Rp h t) (i0 : ly_Is 2 a0) (i1 : ly_Is 5 a1) (i2 : ly_Is 4 a2) (H : tX2_lay a0 a1 a2 t = some t1) : ex (fX2_lay a0 a1 a2 h) (fun h1 => Rp h1 t1) := by
  unfold tX2_lay at H
  unfold fX2_lay
  refine ex.bd (r_isO hR_t (lc2 i0)) ?_
  refine ex.bd (r_gR hR_t (lc2 i0) rfl) ?_
  obtain ⟨tt4, e2, H⟩ := am_bd H
  refine ex.j1 (sX6_copyFrom hR_t (li2_0 i0) i1 e2) (fun hh3 hR_tt4 => ?_)
  refine ex.bd (r_gR hR_tt4 (lc2 i0) rfl) ?_
  obtain ⟨tt8, e6, H⟩ := am_bd H
  refine ex.j1 (sX5_copyFrom hR_tt4 (li2_1 i0) i2 e6) (fun hh7 hR_tt8 => ?_)
  obtain ⟨tt10, et11, H⟩ := am_bd H
  obtain ⟨hh9, e12, hR_tt10⟩ := r_pI (k := 2) (x := (1 : Int32)) hR_tt8 (lc2 i0) rfl rfl
  rw [Option.some.inj et11] at hR_tt10
  refine ex.bd e12 ?_
  obtain rfl := Option.some.inj H
  exact ex.nd hR_tt10
def tX3_add (a0 : Nat) (a1 : Int32) (a2 : Int32) (a3 : Int32) (t : tS) : Option (tS) :=
  Option.bind (
    if ((40 : Int32)) ≤ (t.1 a0 3) then
      some t
    else
      (tWA t 0 (a0 + 1) 40 (t.1 a0 3) a1).bind fun tt8 =>
      (tWA tt8 0 (a0 + 2) 40 (tt8.1 a0 3) a2).bind fun tt14 =>
      (tWA tt14 0 (a0 + 3) 40 (tt14.1 a0 3) a3).bind fun tt20 =>
      (some (uI tt20 a0 3 ((tt20.1 a0 3) + ((1 : Int32))))).bind fun tt25 =>
      some tt25) fun tt3 =>
  some tt3
set_option maxHeartbeats 4000000 in
set_option maxRecDepth 100000 in
theorem sX3_add {a0 : Nat} {a1 : Int32} {a2 : Int32} {a3 : Int32} {h : am_H} {t : tS} {t1 : tS} (hR_t : Rp h t) (i0 : ly_Is 3 a0) (H : tX3_add a0 a1 a2 a3 t = some t1) : ex (fX3_add a0 a1 a2 a3 h) (fun h1 => Rp h1 t1) := by
  unfold tX3_add at H
  unfold fX3_add
  refine ex.bd (r_isO hR_t (lc3 i0)) ?_
  refine ex.bd (r_gI hR_t (lc3 i0) rfl) ?_
  obtain ⟨tt3, E28, H⟩ := am_bd H
  refine ex.j1 (Q := fun p => Rp p tt3) ?_ (fun hh2 hq => ?_)
  · clear H
    have H := E28
    clear E28
    by_cases c4 : ((40 : Int32)) ≤ (t.1 a0 3)
    · rw [if_pos c4] at H
      refine ex.t c4 ?_
      obtain rfl := Option.some.inj H
      exact ex.nd hR_t
    · rw [if_neg c4] at H
      refine ex.f c4 ?_
      refine ex.bd (r_gR hR_t (lc3 i0) rfl) ?_
      refine ex.bd (r_gI hR_t (lc3 i0) rfl) ?_
      obtain ⟨tt8, e9, H⟩ := am_bd H
      obtain ⟨hh7, e10, hR_tt8⟩ := r_sI hR_t (la3_0 i0) e9
      refine ex.bd e10 ?_
      refine ex.bd (r_gR hR_tt8 (lc3 i0) rfl) ?_
      refine ex.bd (r_gI hR_tt8 (lc3 i0) rfl) ?_
      obtain ⟨tt14, e15, H⟩ := am_bd H
      obtain ⟨hh13, e16, hR_tt14⟩ := r_sI hR_tt8 (la3_1 i0) e15
      refine ex.bd e16 ?_
      refine ex.bd (r_gR hR_tt14 (lc3 i0) rfl) ?_
      refine ex.bd (r_gI hR_tt14 (lc3 i0) rfl) ?_
      obtain ⟨tt20, e21, H⟩ := am_bd H
      obtain ⟨hh19, e22, hR_tt20⟩ := r_sI hR_tt14 (la3_2 i0) e21
      refine ex.bd e22 ?_
      refine ex.bd (r_gI hR_tt20 (lc3 i0) rfl) ?_
      obtain ⟨tt25, et26, H⟩ := am_bd H
      obtain ⟨hh24, e27, hR_tt25⟩ := r_pI (k := 3) (x := (tt20.1 a0 3) + ((1 : Int32))) hR_tt20 (lc3 i0) rfl rfl
      rw [Option.some.inj et26] at hR_tt25
      refine ex.bd e27 ?_
      obtain rfl := Option.some.inj H
      exact ex.nd hR_tt25
  · clear E28
    have hR_tt3 : Rp hh2 tt3 := hq
    obtain rfl := Option.some.inj H
    exact ex.nd hR_tt3
def tX6_freeBeds_L10 : Nat → Nat → Nat → Int32 → Int32 → Int32 → tS → Option (Int32)
  | 0, _, _, _, _, _, _ => none
  | n + 1, v0, v1, v2, v3, v4, t =>
    if (t.1 v1 12) ≤ v4 then
      some v3
    else
      (tA t (v0 + 4) 6 v4).bind fun x7 =>
      Option.bind (
        if ¬ x7 = v2 then
          some v3
        else
          (tA t (v1 + 10) 6 v4).bind fun x12 =>
          some (v3 - x12)) fun jv9 =>
      tX6_freeBeds_L10 n v0 v1 v2 jv9 (v4 + (1 : Int32)) t
def tX6_freeBeds (a0 : Nat) (a1 : Nat) (a2 : Int32) (t : tS) : Option (Int32) :=
  (tA t (a0 + 1) 4 a2).bind fun x2 =>
  Option.bind (tX6_freeBeds_L10 4000 a0 a1 a2 x2 ((0 : Int32)) t) fun lw16 =>
  some lw16
set_option maxHeartbeats 4000000 in
set_option maxRecDepth 100000 in
theorem sX6_freeBeds_L10 : ∀ (n : Nat) (v0 : Nat) (v1 : Nat) (v2 : Int32) (v3 : Int32) (v4 : Int32) (h : am_H) (t : tS) (w3 : Int32), Rp h t → ly_Is 5 v0 → ly_Is 7 v1 → tX6_freeBeds_L10 n v0 v1 v2 v3 v4 t = some w3 → ex (fX6_freeBeds_L10 n v0 v1 v2 v3 v4 h) (fun p => w3 = p) := by
  intro n
  induction n with
  | zero => intro _ _ _ _ _ _ _ _ _ _ _ H; cases H
  | succ n ih =>
    intro v0 v1 v2 v3 v4 h t w3 hR_t i0 i1 H
    rw [tX6_freeBeds_L10] at H
    rw [fX6_freeBeds_L10]
    refine ex.bd (r_gI hR_t (lc7 i1) rfl) ?_
    by_cases c5 : (t.1 v1 12) ≤ v4
    · rw [if_pos c5] at H
      refine ex.t c5 ?_
      obtain rfl := Option.some.inj H
      exact ex.nd rfl
    · rw [if_neg c5] at H
      refine ex.f c5 ?_
      refine ex.bd (r_gR hR_t (lc5 i0) rfl) ?_
      obtain ⟨x7, e8, H⟩ := am_bd H
      refine ex.bd (r_aI hR_t (la5_3 i0) e8) ?_
      obtain ⟨jv9, E14, H⟩ := am_bd H
      refine ex.j1 (Q := fun p => jv9 = p) ?_ (fun z15 hq => ?_)
      · clear H
        have H := E14
        clear E14
        by_cases c10 : ¬ x7 = v2
        · rw [if_pos c10] at H
          refine ex.t c10 ?_
          obtain rfl := Option.some.inj H
          exact ex.nd rfl
        · rw [if_neg c10] at H
          refine ex.f c10 ?_
          refine ex.bd (r_gR hR_t (lc7 i1) rfl) ?_
          obtain ⟨x12, e13, H⟩ := am_bd H
          refine ex.bd (r_aI hR_t (la7_9 i1) e13) ?_
          obtain rfl := Option.some.inj H
          exact ex.nd rfl
      · clear E14
        obtain rfl : jv9 = z15 := hq
        exact ih _ _ _ _ _ _ _ _ hR_t i0 i1 H
set_option maxHeartbeats 4000000 in
set_option maxRecDepth 100000 in
theorem sX6_freeBeds {a0 : Nat} {a1 : Nat} {a2 : Int32} {h : am_H} {t : tS} {r : Int32} (hR_t : Rp h t) (i0 : ly_Is 5 a0) (i1 : ly_Is 7 a1) (H : tX6_freeBeds a0 a1 a2 t = some r) : ex (fX6_freeBeds a0 a1 a2 h) (fun x => r = x) := by
  unfold tX6_freeBeds at H
  unfold fX6_freeBeds
  refine ex.bd (r_isO hR_t (lc5 i0)) ?_
  refine ex.bd (r_gR hR_t (lc5 i0) rfl) ?_
  obtain ⟨x2, e3, H⟩ := am_bd H
  refine ex.bd (r_aI hR_t (la5_0 i0) e3) ?_
  obtain ⟨lw16, E18, H⟩ := am_bd H
  refine ex.j1 (sX6_freeBeds_L10 _ _ _ _ _ _ _ _ _ hR_t i0 i1 E18) (fun z17 hq => ?_)
  clear E18
  obtain rfl : lw16 = z17 := hq
  obtain rfl := Option.some.inj H
  exact ex.nd rfl
def tX6_guests_L5 : Nat → Nat → Nat → Int32 → Int32 → Int32 → tS → Option (Int32)
  | 0, _, _, _, _, _, _ => none
  | n + 1, v0, v1, v2, v3, v4, t =>
    if (t.1 v1 12) ≤ v4 then
      some v3
    else
      (tA t (v0 + 4) 6 v4).bind fun x4 =>
      Option.bind (
        if ¬ x4 = v2 then
          some v3
        else
          some (v3 ||| (((1 : Int32)) <<< (v4 &&& 31)))) fun jv6 =>
      tX6_guests_L5 n v0 v1 v2 jv6 (v4 + (1 : Int32)) t
def tX6_guests (a0 : Nat) (a1 : Nat) (a2 : Int32) (t : tS) : Option (Int32) :=
  Option.bind (tX6_guests_L5 4000 a0 a1 a2 ((0 : Int32)) ((0 : Int32)) t) fun lw10 =>
  some lw10
set_option maxHeartbeats 4000000 in
set_option maxRecDepth 100000 in
theorem sX6_guests_L5 : ∀ (n : Nat) (v0 : Nat) (v1 : Nat) (v2 : Int32) (v3 : Int32) (v4 : Int32) (h : am_H) (t : tS) (w3 : Int32), Rp h t → ly_Is 5 v0 → ly_Is 7 v1 → tX6_guests_L5 n v0 v1 v2 v3 v4 t = some w3 → ex (fX6_guests_L5 n v0 v1 v2 v3 v4 h) (fun p => w3 = p) := by
  intro n
  induction n with
  | zero => intro _ _ _ _ _ _ _ _ _ _ _ H; cases H
  | succ n ih =>
    intro v0 v1 v2 v3 v4 h t w3 hR_t i0 i1 H
    rw [tX6_guests_L5] at H
    rw [fX6_guests_L5]
    refine ex.bd (r_gI hR_t (lc7 i1) rfl) ?_
    by_cases c2 : (t.1 v1 12) ≤ v4
    · rw [if_pos c2] at H
      refine ex.t c2 ?_
      obtain rfl := Option.some.inj H
      exact ex.nd rfl
    · rw [if_neg c2] at H
      refine ex.f c2 ?_
      refine ex.bd (r_gR hR_t (lc5 i0) rfl) ?_
      obtain ⟨x4, e5, H⟩ := am_bd H
      refine ex.bd (r_aI hR_t (la5_3 i0) e5) ?_
      obtain ⟨jv6, E8, H⟩ := am_bd H
      refine ex.j1 (Q := fun p => jv6 = p) ?_ (fun z9 hq => ?_)
      · clear H
        have H := E8
        clear E8
        by_cases c7 : ¬ x4 = v2
        · rw [if_pos c7] at H
          refine ex.t c7 ?_
          obtain rfl := Option.some.inj H
          exact ex.nd rfl
        · rw [if_neg c7] at H
          refine ex.f c7 ?_
          obtain rfl := Option.some.inj H
          exact ex.nd rfl
      · clear E8
        obtain rfl : jv6 = z9 := hq
        exact ih _ _ _ _ _ _ _ _ hR_t i0 i1 H
set_option maxHeartbeats 4000000 in
set_option maxRecDepth 100000 in
theorem sX6_guests {a0 : Nat} {a1 : Nat} {a2 : Int32} {h : am_H} {t : tS} {r : Int32} (hR_t : Rp h t) (i0 : ly_Is 5 a0) (i1 : ly_Is 7 a1) (H : tX6_guests a0 a1 a2 t = some r) : ex (fX6_guests a0 a1 a2 h) (fun x => r = x) := by
  unfold tX6_guests at H
  unfold fX6_guests
  refine ex.bd (r_isO hR_t (lc5 i0)) ?_
  obtain ⟨lw10, E12, H⟩ := am_bd H
  refine ex.j1 (sX6_guests_L5 _ _ _ _ _ _ _ _ _ hR_t i0 i1 E12) (fun z11 hq => ?_)
  clear E12
  obtain rfl : lw10 = z11 := hq
  obtain rfl := Option.some.inj H
  exact ex.nd rfl
def tX6_holds (a0 : Nat) (a1 : Nat) (a2 : Int32) (a3 : Int32) (t : tS) : Option (Int32) :=
  (tX6_freeBeds a0 a1 a2 t).bind fun x2 =>
  (tA t (a1 + 10) 6 a3).bind fun x5 =>
  Option.bind (
    if x2 < x5 then
      some ((0 : Int32))
    else
      (tX6_guests a0 a1 a2 t).bind fun x10 =>
      (tA t (a1 + 9) 6 a3).bind fun x13 =>
      if ¬ (x10 &&& x13) = 0 then
        some ((0 : Int32))
      else
        some ((1 : Int32))) fun js7 =>
  (am_z01 js7).bind fun b16 =>
  some b16
set_option maxHeartbeats 4000000 in
set_option maxRecDepth 100000 in
theorem sX6_holds {a0 : Nat} {a1 : Nat} {a2 : Int32} {a3 : Int32} {h : am_H} {t : tS} {r : Int32} (hR_t : Rp h t) (i0 : ly_Is 5 a0) (i1 : ly_Is 7 a1) (H : tX6_holds a0 a1 a2 a3 t = some r) : ex (fX6_holds a0 a1 a2 a3 h) (fun x => r = x) := by
  unfold tX6_holds at H
  unfold fX6_holds
  refine ex.bd (r_isO hR_t (lc5 i0)) ?_
  obtain ⟨x2, e1, H⟩ := am_bd H
  refine ex.j1 (sX6_freeBeds hR_t i0 i1 e1) (fun z3 hz => ?_)
  obtain rfl : x2 = z3 := hz
  refine ex.bd (r_gR hR_t (lc7 i1) rfl) ?_
  obtain ⟨x5, e6, H⟩ := am_bd H
  refine ex.bd (r_aI hR_t (la7_9 i1) e6) ?_
  obtain ⟨js7, E18, H⟩ := am_bd H
  refine ex.j1 (Q := fun p => js7 = p) ?_ (fun z19 hq => ?_)
  · clear H
    have H := E18
    clear E18
    by_cases c8 : x2 < x5
    · rw [if_pos c8] at H
      refine ex.t c8 ?_
      obtain rfl := Option.some.inj H
      exact ex.nd rfl
    · rw [if_neg c8] at H
      refine ex.f c8 ?_
      obtain ⟨x10, e9, H⟩ := am_bd H
      refine ex.j1 (sX6_guests hR_t i0 i1 e9) (fun z11 hz => ?_)
      obtain rfl : x10 = z11 := hz
      refine ex.bd (r_gR hR_t (lc7 i1) rfl) ?_
      obtain ⟨x13, e14, H⟩ := am_bd H
      refine ex.bd (r_aI hR_t (la7_8 i1) e14) ?_
      by_cases c15 : ¬ (x10 &&& x13) = 0
      · rw [if_pos c15] at H
        refine ex.t c15 ?_
        obtain rfl := Option.some.inj H
        exact ex.nd rfl
      · rw [if_neg c15] at H
        refine ex.f c15 ?_
        obtain rfl := Option.some.inj H
        exact ex.nd rfl
  · clear E18
    obtain rfl : js7 = z19 := hq
    obtain ⟨b16, e17, H⟩ := am_bd H
    refine ex.bd e17 ?_
    obtain rfl := Option.some.inj H
    exact ex.nd rfl
def tX6_canShift (a0 : Nat) (a1 : Nat) (a2 : Int32) (a3 : Int32) (t : tS) : Option (Int32) :=
  (tA t (a0 + 4) 6 a2).bind fun x2 =>
  Option.bind (
    if x2 = ((-1 : Int32)) then
      some ((0 : Int32))
    else
      (tA t (a0 + 4) 6 a2).bind fun x7 =>
      if x7 = a3 then
        some ((0 : Int32))
      else
        (tX6_holds a0 a1 a3 a2 t).bind fun x11 =>
        if x11 = 0 then
          some ((0 : Int32))
        else
          some ((1 : Int32))) fun js4 =>
  (am_z01 js4).bind fun b14 =>
  some b14
set_option maxHeartbeats 4000000 in
set_option maxRecDepth 100000 in
theorem sX6_canShift {a0 : Nat} {a1 : Nat} {a2 : Int32} {a3 : Int32} {h : am_H} {t : tS} {r : Int32} (hR_t : Rp h t) (i0 : ly_Is 5 a0) (i1 : ly_Is 7 a1) (H : tX6_canShift a0 a1 a2 a3 t = some r) : ex (fX6_canShift a0 a1 a2 a3 h) (fun x => r = x) := by
  unfold tX6_canShift at H
  unfold fX6_canShift
  refine ex.bd (r_isO hR_t (lc5 i0)) ?_
  refine ex.bd (r_gR hR_t (lc5 i0) rfl) ?_
  obtain ⟨x2, e3, H⟩ := am_bd H
  refine ex.bd (r_aI hR_t (la5_3 i0) e3) ?_
  obtain ⟨js4, E16, H⟩ := am_bd H
  refine ex.j1 (Q := fun p => js4 = p) ?_ (fun z17 hq => ?_)
  · clear H
    have H := E16
    clear E16
    by_cases c5 : x2 = ((-1 : Int32))
    · rw [if_pos c5] at H
      refine ex.t c5 ?_
      obtain rfl := Option.some.inj H
      exact ex.nd rfl
    · rw [if_neg c5] at H
      refine ex.f c5 ?_
      refine ex.bd (r_gR hR_t (lc5 i0) rfl) ?_
      obtain ⟨x7, e8, H⟩ := am_bd H
      refine ex.bd (r_aI hR_t (la5_3 i0) e8) ?_
      by_cases c9 : x7 = a3
      · rw [if_pos c9] at H
        refine ex.t c9 ?_
        obtain rfl := Option.some.inj H
        exact ex.nd rfl
      · rw [if_neg c9] at H
        refine ex.f c9 ?_
        obtain ⟨x11, e10, H⟩ := am_bd H
        refine ex.j1 (sX6_holds hR_t i0 i1 e10) (fun z12 hz => ?_)
        obtain rfl : x11 = z12 := hz
        by_cases c13 : x11 = 0
        · rw [if_pos c13] at H
          refine ex.t c13 ?_
          obtain rfl := Option.some.inj H
          exact ex.nd rfl
        · rw [if_neg c13] at H
          refine ex.f c13 ?_
          obtain rfl := Option.some.inj H
          exact ex.nd rfl
  · clear E16
    obtain rfl : js4 = z17 := hq
    obtain ⟨b14, e15, H⟩ := am_bd H
    refine ex.bd e15 ?_
    obtain rfl := Option.some.inj H
    exact ex.nd rfl
def tX6_leave (a0 : Nat) (a1 : Int32) (t : tS) : Option (tS) :=
  (tWA t 0 (a0 + 4) 6 a1 ((-1 : Int32))).bind fun tt3 =>
  (tWA tt3 0 (a0 + 5) 6 a1 ((0 : Int32))).bind fun tt8 =>
  some tt8
set_option maxHeartbeats 4000000 in
set_option maxRecDepth 100000 in
theorem sX6_leave {a0 : Nat} {a1 : Int32} {h : am_H} {t : tS} {t1 : tS} (hR_t : Rp h t) (i0 : ly_Is 5 a0) (H : tX6_leave a0 a1 t = some t1) : ex (fX6_leave a0 a1 h) (fun h1 => Rp h1 t1) := by
  unfold tX6_leave at H
  unfold fX6_leave
  refine ex.bd (r_isO hR_t (lc5 i0)) ?_
  refine ex.bd (r_gR hR_t (lc5 i0) rfl) ?_
  obtain ⟨tt3, e4, H⟩ := am_bd H
  obtain ⟨hh2, e5, hR_tt3⟩ := r_sI hR_t (la5_3 i0) e4
  refine ex.bd e5 ?_
  refine ex.bd (r_gR hR_tt3 (lc5 i0) rfl) ?_
  obtain ⟨tt8, e9, H⟩ := am_bd H
  obtain ⟨hh7, e10, hR_tt8⟩ := r_sI hR_tt3 (la5_4 i0) e9
  refine ex.bd e10 ?_
  obtain rfl := Option.some.inj H
  exact ex.nd hR_tt8
def tX9_has (a0 : Int32) (a1 : Int32) (t : tS) : Option (Int32) :=
  Option.bind (
    if ((a0 >>> (a1 &&& 31)) &&& ((1 : Int32))) = 0 then
      some ((0 : Int32))
    else
      some ((1 : Int32))) fun js1 =>
  (am_z01 js1).bind fun b3 =>
  some b3
set_option maxHeartbeats 4000000 in
set_option maxRecDepth 100000 in
theorem sX9_has {a0 : Int32} {a1 : Int32} {h : am_H} {t : tS} {r : Int32} (hR_t : Rp h t)  (H : tX9_has a0 a1 t = some r) : ex (fX9_has a0 a1 h) (fun x => r = x) := by
  unfold tX9_has at H
  unfold fX9_has
  obtain ⟨js1, E5, H⟩ := am_bd H
  refine ex.j1 (Q := fun p => js1 = p) ?_ (fun z6 hq => ?_)
  · clear H
    have H := E5
    clear E5
    by_cases c2 : ((a0 >>> (a1 &&& 31)) &&& ((1 : Int32))) = 0
    · rw [if_pos c2] at H
      refine ex.t c2 ?_
      obtain rfl := Option.some.inj H
      exact ex.nd rfl
    · rw [if_neg c2] at H
      refine ex.f c2 ?_
      obtain rfl := Option.some.inj H
      exact ex.nd rfl
  · clear E5
    obtain rfl : js1 = z6 := hq
    obtain ⟨b3, e4, H⟩ := am_bd H
    refine ex.bd e4 ?_
    obtain rfl := Option.some.inj H
    exact ex.nd rfl
def tX6_hostOf_L22 : Nat → Nat → Nat → Int32 → Int32 → Int32 → tS → Option ((Unit) ⊕ (Int32))
  | 0, _, _, _, _, _, _ => none
  | n + 1, v0, v1, v2, v3, v4, t =>
    if (t.1 v1 11) ≤ v4 then
      some (.inl ())
    else
      (tA t (v1 + 3) 4 v3).bind fun x11 =>
      (tX9_has x11 v4 t).bind fun x14 =>
      if x14 = 0 then
        tX6_hostOf_L22 n v0 v1 v2 v3 (v4 + (1 : Int32)) t
      else
        (tX6_holds v0 v1 v4 v2 t).bind fun x18 =>
        if x18 = 0 then
          tX6_hostOf_L22 n v0 v1 v2 v3 (v4 + (1 : Int32)) t
        else
          some (.inr v4)
def tX6_hostOf (a0 : Nat) (a1 : Nat) (a2 : Int32) (t : tS) : Option (Int32) :=
  (tA t (a1 + 6) 6 a2).bind fun x2 =>
  (tX6_holds a0 a1 x2 a2 t).bind fun x5 =>
  if x5 = 0 then
    (tX6_hostOf_L22 4000 a0 a1 a2 x2 ((0 : Int32)) t).bind fun o22 => match o22 with
      | .inl _ =>
        some ((-1 : Int32))
      | .inr y23 => some y23
  else
    some x2
set_option maxHeartbeats 4000000 in
set_option maxRecDepth 100000 in
theorem sX6_hostOf_L22 : ∀ (n : Nat) (v0 : Nat) (v1 : Nat) (v2 : Int32) (v3 : Int32) (v4 : Int32) (h : am_H) (t : tS) (o : (Unit) ⊕ (Int32)), Rp h t → ly_Is 5 v0 → ly_Is 7 v1 → tX6_hostOf_L22 n v0 v1 v2 v3 v4 t = some o → ex (fX6_hostOf_L22 n v0 v1 v2 v3 v4 h) (fun p => match o, p with
    | .inl _, .inl _ => True
    | .inr y, .inr z => y = z
    | _, _ => False) := by
  intro n
  induction n with
  | zero => intro _ _ _ _ _ _ _ _ _ _ _ H; cases H
  | succ n ih =>
    intro v0 v1 v2 v3 v4 h t o hR_t i0 i1 H
    rw [tX6_hostOf_L22] at H
    rw [fX6_hostOf_L22]
    refine ex.bd (r_gI hR_t (lc7 i1) rfl) ?_
    by_cases c9 : (t.1 v1 11) ≤ v4
    · rw [if_pos c9] at H
      refine ex.t c9 ?_
      obtain rfl := Option.some.inj H
      exact ex.nd trivial
    · rw [if_neg c9] at H
      refine ex.f c9 ?_
      refine ex.bd (r_gR hR_t (lc7 i1) rfl) ?_
      obtain ⟨x11, e12, H⟩ := am_bd H
      refine ex.bd (r_aI hR_t (la7_2 i1) e12) ?_
      obtain ⟨x14, e13, H⟩ := am_bd H
      refine ex.j1 (sX9_has hR_t  e13) (fun z15 hz => ?_)
      obtain rfl : x14 = z15 := hz
      by_cases c16 : x14 = 0
      · rw [if_pos c16] at H
        refine ex.t c16 ?_
        exact ih _ _ _ _ _ _ _ _ hR_t i0 i1 H
      · rw [if_neg c16] at H
        refine ex.f c16 ?_
        obtain ⟨x18, e17, H⟩ := am_bd H
        refine ex.j1 (sX6_holds hR_t i0 i1 e17) (fun z19 hz => ?_)
        obtain rfl : x18 = z19 := hz
        by_cases c20 : x18 = 0
        · rw [if_pos c20] at H
          refine ex.t c20 ?_
          exact ih _ _ _ _ _ _ _ _ hR_t i0 i1 H
        · rw [if_neg c20] at H
          refine ex.f c20 ?_
          obtain rfl := Option.some.inj H
          exact ex.nd rfl
set_option maxHeartbeats 4000000 in
set_option maxRecDepth 100000 in
theorem sX6_hostOf {a0 : Nat} {a1 : Nat} {a2 : Int32} {h : am_H} {t : tS} {r : Int32} (hR_t : Rp h t) (i0 : ly_Is 5 a0) (i1 : ly_Is 7 a1) (H : tX6_hostOf a0 a1 a2 t = some r) : ex (fX6_hostOf a0 a1 a2 h) (fun x => r = x) := by
  unfold tX6_hostOf at H
  unfold fX6_hostOf
  refine ex.bd (r_isO hR_t (lc5 i0)) ?_
  refine ex.bd (r_gR hR_t (lc7 i1) rfl) ?_
  obtain ⟨x2, e3, H⟩ := am_bd H
  refine ex.bd (r_aI hR_t (la7_5 i1) e3) ?_
  obtain ⟨x5, e4, H⟩ := am_bd H
  refine ex.j1 (sX6_holds hR_t i0 i1 e4) (fun z6 hz => ?_)
  obtain rfl : x5 = z6 := hz
  by_cases c7 : x5 = 0
  · rw [if_pos c7] at H
    refine ex.t c7 ?_
    obtain ⟨o22, E21, H⟩ := am_bd H
    refine ex.j1 (sX6_hostOf_L22 _ _ _ _ _ _ _ _ _ hR_t i0 i1 E21) (fun p24 hq => ?_)
    clear E21
    rcases o22 with _ | y23
    · rcases p24 with _ | z25
      · dsimp only at H hq ⊢
        obtain rfl := Option.some.inj H
        exact ex.nd rfl
      · exact hq.elim
    · rcases p24 with _ | z25
      · exact hq.elim
      · dsimp only at H ⊢
        obtain rfl := Option.some.inj H
        exact ex.nd hq
  · rw [if_neg c7] at H
    refine ex.f c7 ?_
    obtain rfl := Option.some.inj H
    exact ex.nd rfl
def tX6_isDue (a0 : Nat) (a1 : Nat) (a2 : Int32) (t : tS) : Option (Int32) :=
  (tA t (a0 + 4) 6 a2).bind fun x2 =>
  if ¬ x2 = ((-1 : Int32)) then
    some ((0 : Int32))
  else
    (tA t (a0 + 3) 6 a2).bind fun x6 =>
    if ¬ x6 = 0 then
      (tA t (a1 + 5) 6 a2).bind fun x10 =>
      if ¬ x10 = ((3 : Int32)) then
        Option.bind (
          if ¬ x10 = ((2 : Int32)) then
            (tA t (a0 + 2) 6 a2).bind fun x16 =>
            some x16
          else
            (tA t (a0 + 2) 6 a2).bind fun x19 =>
            (am_rm' ((x19 + ((12 : Int32))) - ((1 : Int32))) ((12 : Int32))).bind fun q21 =>
            some q21) fun js13 =>
        Option.bind (
          if ¬ (t.1 a0 6) = js13 then
            some ((0 : Int32))
          else
            some ((1 : Int32))) fun js24 =>
        (am_z01 js24).bind fun b26 =>
        some b26
      else
        (am_rm' (t.1 a0 7) ((4 : Int32))).bind fun q33 =>
        if q33 = 0 then
          Option.bind (
            if ¬ x10 = ((2 : Int32)) then
              (tA t (a0 + 2) 6 a2).bind fun x39 =>
              some x39
            else
              (tA t (a0 + 2) 6 a2).bind fun x42 =>
              (am_rm' ((x42 + ((12 : Int32))) - ((1 : Int32))) ((12 : Int32))).bind fun q44 =>
              some q44) fun js36 =>
          Option.bind (
            if ¬ (t.1 a0 6) = js36 then
              some ((0 : Int32))
            else
              some ((1 : Int32))) fun js47 =>
          (am_z01 js47).bind fun b49 =>
          some b49
        else
          some ((0 : Int32))
    else
      some ((0 : Int32))
set_option maxHeartbeats 4000000 in
set_option maxRecDepth 100000 in
theorem sX6_isDue {a0 : Nat} {a1 : Nat} {a2 : Int32} {h : am_H} {t : tS} {r : Int32} (hR_t : Rp h t) (i0 : ly_Is 5 a0) (i1 : ly_Is 7 a1) (H : tX6_isDue a0 a1 a2 t = some r) : ex (fX6_isDue a0 a1 a2 h) (fun x => r = x) := by
  unfold tX6_isDue at H
  unfold fX6_isDue
  refine ex.bd (r_isO hR_t (lc5 i0)) ?_
  refine ex.bd (r_gR hR_t (lc5 i0) rfl) ?_
  obtain ⟨x2, e3, H⟩ := am_bd H
  refine ex.bd (r_aI hR_t (la5_3 i0) e3) ?_
  by_cases c4 : ¬ x2 = ((-1 : Int32))
  · rw [if_pos c4] at H
    refine ex.t c4 ?_
    obtain rfl := Option.some.inj H
    exact ex.nd rfl
  · rw [if_neg c4] at H
    refine ex.f c4 ?_
    refine ex.bd (r_gR hR_t (lc5 i0) rfl) ?_
    obtain ⟨x6, e7, H⟩ := am_bd H
    refine ex.bd (r_aI hR_t (la5_2 i0) e7) ?_
    by_cases c8 : ¬ x6 = 0
    · rw [if_pos c8] at H
      refine ex.t c8 ?_
      refine ex.bd (r_gR hR_t (lc7 i1) rfl) ?_
      obtain ⟨x10, e11, H⟩ := am_bd H
      refine ex.bd (r_aI hR_t (la7_4 i1) e11) ?_
      by_cases c12 : ¬ x10 = ((3 : Int32))
      · rw [if_pos c12] at H
        refine ex.t c12 ?_
        obtain ⟨js13, E30, H⟩ := am_bd H
        refine ex.j1 (Q := fun p => js13 = p) ?_ (fun z31 hq => ?_)
        · clear H
          have H := E30
          clear E30
          by_cases c14 : ¬ x10 = ((2 : Int32))
          · rw [if_pos c14] at H
            refine ex.t c14 ?_
            refine ex.bd (r_gR hR_t (lc5 i0) rfl) ?_
            obtain ⟨x16, e17, H⟩ := am_bd H
            refine ex.bd (r_aI hR_t (la5_1 i0) e17) ?_
            obtain rfl := Option.some.inj H
            exact ex.nd rfl
          · rw [if_neg c14] at H
            refine ex.f c14 ?_
            refine ex.bd (r_gR hR_t (lc5 i0) rfl) ?_
            obtain ⟨x19, e20, H⟩ := am_bd H
            refine ex.bd (r_aI hR_t (la5_1 i0) e20) ?_
            obtain ⟨q21, e22, H⟩ := am_bd H
            refine ex.bd e22 ?_
            obtain rfl := Option.some.inj H
            exact ex.nd rfl
        · clear E30
          obtain rfl : js13 = z31 := hq
          refine ex.bd (r_gI hR_t (lc5 i0) rfl) ?_
          obtain ⟨js24, E28, H⟩ := am_bd H
          refine ex.j1 (Q := fun p => js24 = p) ?_ (fun z29 hq => ?_)
          · clear H
            have H := E28
            clear E28
            by_cases c25 : ¬ (t.1 a0 6) = js13
            · rw [if_pos c25] at H
              refine ex.t c25 ?_
              obtain rfl := Option.some.inj H
              exact ex.nd rfl
            · rw [if_neg c25] at H
              refine ex.f c25 ?_
              obtain rfl := Option.some.inj H
              exact ex.nd rfl
          · clear E28
            obtain rfl : js24 = z29 := hq
            obtain ⟨b26, e27, H⟩ := am_bd H
            refine ex.bd e27 ?_
            obtain rfl := Option.some.inj H
            exact ex.nd rfl
      · rw [if_neg c12] at H
        refine ex.f c12 ?_
        refine ex.bd (r_gI hR_t (lc5 i0) rfl) ?_
        obtain ⟨q33, e34, H⟩ := am_bd H
        refine ex.bd e34 ?_
        by_cases c35 : q33 = 0
        · rw [if_pos c35] at H
          refine ex.t c35 ?_
          obtain ⟨js36, E53, H⟩ := am_bd H
          refine ex.j1 (Q := fun p => js36 = p) ?_ (fun z54 hq => ?_)
          · clear H
            have H := E53
            clear E53
            by_cases c37 : ¬ x10 = ((2 : Int32))
            · rw [if_pos c37] at H
              refine ex.t c37 ?_
              refine ex.bd (r_gR hR_t (lc5 i0) rfl) ?_
              obtain ⟨x39, e40, H⟩ := am_bd H
              refine ex.bd (r_aI hR_t (la5_1 i0) e40) ?_
              obtain rfl := Option.some.inj H
              exact ex.nd rfl
            · rw [if_neg c37] at H
              refine ex.f c37 ?_
              refine ex.bd (r_gR hR_t (lc5 i0) rfl) ?_
              obtain ⟨x42, e43, H⟩ := am_bd H
              refine ex.bd (r_aI hR_t (la5_1 i0) e43) ?_
              obtain ⟨q44, e45, H⟩ := am_bd H
              refine ex.bd e45 ?_
              obtain rfl := Option.some.inj H
              exact ex.nd rfl
          · clear E53
            obtain rfl : js36 = z54 := hq
            refine ex.bd (r_gI hR_t (lc5 i0) rfl) ?_
            obtain ⟨js47, E51, H⟩ := am_bd H
            refine ex.j1 (Q := fun p => js47 = p) ?_ (fun z52 hq => ?_)
            · clear H
              have H := E51
              clear E51
              by_cases c48 : ¬ (t.1 a0 6) = js36
              · rw [if_pos c48] at H
                refine ex.t c48 ?_
                obtain rfl := Option.some.inj H
                exact ex.nd rfl
              · rw [if_neg c48] at H
                refine ex.f c48 ?_
                obtain rfl := Option.some.inj H
                exact ex.nd rfl
            · clear E51
              obtain rfl : js47 = z52 := hq
              obtain ⟨b49, e50, H⟩ := am_bd H
              refine ex.bd e50 ?_
              obtain rfl := Option.some.inj H
              exact ex.nd rfl
        · rw [if_neg c35] at H
          refine ex.f c35 ?_
          obtain rfl := Option.some.inj H
          exact ex.nd rfl
    · rw [if_neg c8] at H
      refine ex.f c8 ?_
      obtain rfl := Option.some.inj H
      exact ex.nd rfl
def tJ6_bitCount_0f7a4 (a0 : Int32) (t : tS) : Option (Int32) :=
  some ((((((((a0 - (((a0.toUInt32 >>> (((1 : Int32)).toUInt32 &&& Int32.toUInt32 31)).toInt32) &&& ((1431655765 : Int32)))) &&& ((858993459 : Int32))) + ((((a0 - (((a0.toUInt32 >>> (((1 : Int32)).toUInt32 &&& Int32.toUInt32 31)).toInt32) &&& ((1431655765 : Int32)))).toUInt32 >>> (((2 : Int32)).toUInt32 &&& Int32.toUInt32 31)).toInt32) &&& ((858993459 : Int32)))) + (((((a0 - (((a0.toUInt32 >>> (((1 : Int32)).toUInt32 &&& Int32.toUInt32 31)).toInt32) &&& ((1431655765 : Int32)))) &&& ((858993459 : Int32))) + ((((a0 - (((a0.toUInt32 >>> (((1 : Int32)).toUInt32 &&& Int32.toUInt32 31)).toInt32) &&& ((1431655765 : Int32)))).toUInt32 >>> (((2 : Int32)).toUInt32 &&& Int32.toUInt32 31)).toInt32) &&& ((858993459 : Int32)))).toUInt32 >>> (((4 : Int32)).toUInt32 &&& Int32.toUInt32 31)).toInt32)) &&& ((252645135 : Int32))) + (((((((a0 - (((a0.toUInt32 >>> (((1 : Int32)).toUInt32 &&& Int32.toUInt32 31)).toInt32) &&& ((1431655765 : Int32)))) &&& ((858993459 : Int32))) + ((((a0 - (((a0.toUInt32 >>> (((1 : Int32)).toUInt32 &&& Int32.toUInt32 31)).toInt32) &&& ((1431655765 : Int32)))).toUInt32 >>> (((2 : Int32)).toUInt32 &&& Int32.toUInt32 31)).toInt32) &&& ((858993459 : Int32)))) + (((((a0 - (((a0.toUInt32 >>> (((1 : Int32)).toUInt32 &&& Int32.toUInt32 31)).toInt32) &&& ((1431655765 : Int32)))) &&& ((858993459 : Int32))) + ((((a0 - (((a0.toUInt32 >>> (((1 : Int32)).toUInt32 &&& Int32.toUInt32 31)).toInt32) &&& ((1431655765 : Int32)))).toUInt32 >>> (((2 : Int32)).toUInt32 &&& Int32.toUInt32 31)).toInt32) &&& ((858993459 : Int32)))).toUInt32 >>> (((4 : Int32)).toUInt32 &&& Int32.toUInt32 31)).toInt32)) &&& ((252645135 : Int32))).toUInt32 >>> (((8 : Int32)).toUInt32 &&& Int32.toUInt32 31)).toInt32)) + ((((((((a0 - (((a0.toUInt32 >>> (((1 : Int32)).toUInt32 &&& Int32.toUInt32 31)).toInt32) &&& ((1431655765 : Int32)))) &&& ((858993459 : Int32))) + ((((a0 - (((a0.toUInt32 >>> (((1 : Int32)).toUInt32 &&& Int32.toUInt32 31)).toInt32) &&& ((1431655765 : Int32)))).toUInt32 >>> (((2 : Int32)).toUInt32 &&& Int32.toUInt32 31)).toInt32) &&& ((858993459 : Int32)))) + (((((a0 - (((a0.toUInt32 >>> (((1 : Int32)).toUInt32 &&& Int32.toUInt32 31)).toInt32) &&& ((1431655765 : Int32)))) &&& ((858993459 : Int32))) + ((((a0 - (((a0.toUInt32 >>> (((1 : Int32)).toUInt32 &&& Int32.toUInt32 31)).toInt32) &&& ((1431655765 : Int32)))).toUInt32 >>> (((2 : Int32)).toUInt32 &&& Int32.toUInt32 31)).toInt32) &&& ((858993459 : Int32)))).toUInt32 >>> (((4 : Int32)).toUInt32 &&& Int32.toUInt32 31)).toInt32)) &&& ((252645135 : Int32))) + (((((((a0 - (((a0.toUInt32 >>> (((1 : Int32)).toUInt32 &&& Int32.toUInt32 31)).toInt32) &&& ((1431655765 : Int32)))) &&& ((858993459 : Int32))) + ((((a0 - (((a0.toUInt32 >>> (((1 : Int32)).toUInt32 &&& Int32.toUInt32 31)).toInt32) &&& ((1431655765 : Int32)))).toUInt32 >>> (((2 : Int32)).toUInt32 &&& Int32.toUInt32 31)).toInt32) &&& ((858993459 : Int32)))) + (((((a0 - (((a0.toUInt32 >>> (((1 : Int32)).toUInt32 &&& Int32.toUInt32 31)).toInt32) &&& ((1431655765 : Int32)))) &&& ((858993459 : Int32))) + ((((a0 - (((a0.toUInt32 >>> (((1 : Int32)).toUInt32 &&& Int32.toUInt32 31)).toInt32) &&& ((1431655765 : Int32)))).toUInt32 >>> (((2 : Int32)).toUInt32 &&& Int32.toUInt32 31)).toInt32) &&& ((858993459 : Int32)))).toUInt32 >>> (((4 : Int32)).toUInt32 &&& Int32.toUInt32 31)).toInt32)) &&& ((252645135 : Int32))).toUInt32 >>> (((8 : Int32)).toUInt32 &&& Int32.toUInt32 31)).toInt32)).toUInt32 >>> (((16 : Int32)).toUInt32 &&& Int32.toUInt32 31)).toInt32)) &&& ((63 : Int32)))
set_option maxHeartbeats 4000000 in
set_option maxRecDepth 100000 in
theorem sJ6_bitCount_0f7a4 {a0 : Int32} {h : am_H} {t : tS} {r : Int32} (hR_t : Rp h t)  (H : tJ6_bitCount_0f7a4 a0 t = some r) : ex (fJ6_bitCount_0f7a4 a0 h) (fun x => r = x) := by
  unfold tJ6_bitCount_0f7a4 at H
  unfold fJ6_bitCount_0f7a4
  obtain rfl := Option.some.inj H
  exact ex.nd rfl
def tJ9_max_7cf53 (a0 : Int32) (a1 : Int32) (t : tS) : Option (Int32) :=
  Option.bind (
    if a0 < a1 then
      some a1
    else
      some a0) fun js1 =>
  some js1
set_option maxHeartbeats 4000000 in
set_option maxRecDepth 100000 in
theorem sJ9_max_7cf53 {a0 : Int32} {a1 : Int32} {h : am_H} {t : tS} {r : Int32} (hR_t : Rp h t)  (H : tJ9_max_7cf53 a0 a1 t = some r) : ex (fJ9_max_7cf53 a0 a1 h) (fun x => r = x) := by
  unfold tJ9_max_7cf53 at H
  unfold fJ9_max_7cf53
  obtain ⟨js1, E3, H⟩ := am_bd H
  refine ex.j1 (Q := fun p => js1 = p) ?_ (fun z4 hq => ?_)
  · clear H
    have H := E3
    clear E3
    by_cases c2 : a0 < a1
    · rw [if_pos c2] at H
      refine ex.t c2 ?_
      obtain rfl := Option.some.inj H
      exact ex.nd rfl
    · rw [if_neg c2] at H
      refine ex.f c2 ?_
      obtain rfl := Option.some.inj H
      exact ex.nd rfl
  · clear E3
    obtain rfl : js1 = z4 := hq
    obtain rfl := Option.some.inj H
    exact ex.nd rfl
def tX9_clamp (a0 : Int32) (a1 : Int32) (a2 : Int32) (t : tS) : Option (Int32) :=
  (tJ9_min_7cf53 a2 a0 t).bind fun x2 =>
  (tJ9_max_7cf53 a1 x2 t).bind fun x5 =>
  some x5
set_option maxHeartbeats 4000000 in
set_option maxRecDepth 100000 in
theorem sX9_clamp {a0 : Int32} {a1 : Int32} {a2 : Int32} {h : am_H} {t : tS} {r : Int32} (hR_t : Rp h t)  (H : tX9_clamp a0 a1 a2 t = some r) : ex (fX9_clamp a0 a1 a2 h) (fun x => r = x) := by
  unfold tX9_clamp at H
  unfold fX9_clamp
  obtain ⟨x2, e1, H⟩ := am_bd H
  refine ex.j1 (sJ9_min_7cf53 hR_t  e1) (fun z3 hz => ?_)
  obtain rfl : x2 = z3 := hz
  obtain ⟨x5, e4, H⟩ := am_bd H
  refine ex.j1 (sJ9_max_7cf53 hR_t  e4) (fun z6 hz => ?_)
  obtain rfl : x5 = z6 := hz
  obtain rfl := Option.some.inj H
  exact ex.nd rfl
def tX6_receive (a0 : Nat) (a1 : Nat) (a2 : Int32) (a3 : Int32) (t : tS) : Option (tS) :=
  if ¬ a3 = ((-1 : Int32)) then
    (tWA t 0 (a0 + 4) 6 a2 a3).bind fun tt4 =>
    (tWA tt4 0 (a0 + 5) 6 a2 ((0 : Int32))).bind fun tt9 =>
    (tA tt9 (a0 + 6) 6 a2).bind fun x13 =>
    (tWA tt9 0 (a0 + 6) 6 a2 (x13 + ((1 : Int32)))).bind fun tt16 =>
    (some (uI tt16 a0 9 ((tt16.1 a0 9) ||| (((1 : Int32)) <<< (a2 &&& 31))))).bind fun tt21 =>
    (tX6_guests a0 a1 a3 tt21).bind fun x25 =>
    (tJ6_bitCount_0f7a4 x25 tt21).bind fun x28 =>
    am_b2 (
      if (tt21.1 a1 15) = 0 then
        some ((-1 : Int32), tt21)
      else
        (tA tt21 (a0 + 3) 6 a2).bind fun x37 =>
        (tA tt21 (a0 + 6) 6 a2).bind fun x41 =>
        am_b2 (tX1_value (a1 + 11) x37 x28 (tt21.1 a0 6) x41 tt21) fun x44 tt46 =>
        some (x44, tt46)) fun js31 tt33 =>
    (tA tt33 (a0 + 3) 6 a2).bind fun x50 =>
    (tX9_clamp js31 ((-9 : Int32)) ((9 : Int32)) tt33).bind fun x53 =>
    (tX9_clamp (x50 + x53) ((0 : Int32)) ((99 : Int32)) tt33).bind fun x56 =>
    (tWA tt33 0 (a0 + 3) 6 a2 x56).bind fun tt59 =>
    some tt59
  else
    (some (uI t a0 10 ((t.1 a0 10) ||| (((1 : Int32)) <<< (a2 &&& 31))))).bind fun tt66 =>
    (some (uI tt66 a0 8 ((tt66.1 a0 8) + ((1 : Int32))))).bind fun tt71 =>
    some tt71
set_option maxHeartbeats 4000000 in
set_option maxRecDepth 100000 in
theorem sX6_receive {a0 : Nat} {a1 : Nat} {a2 : Int32} {a3 : Int32} {h : am_H} {t : tS} {t1 : tS} (hR_t : Rp h t) (i0 : ly_Is 5 a0) (i1 : ly_Is 7 a1) (H : tX6_receive a0 a1 a2 a3 t = some t1) : ex (fX6_receive a0 a1 a2 a3 h) (fun h1 => Rp h1 t1) := by
  unfold tX6_receive at H
  unfold fX6_receive
  refine ex.bd (r_isO hR_t (lc5 i0)) ?_
  by_cases c1 : ¬ a3 = ((-1 : Int32))
  · rw [if_pos c1] at H
    refine ex.t c1 ?_
    refine ex.bd (r_gR hR_t (lc5 i0) rfl) ?_
    obtain ⟨tt4, e5, H⟩ := am_bd H
    obtain ⟨hh3, e6, hR_tt4⟩ := r_sI hR_t (la5_3 i0) e5
    refine ex.bd e6 ?_
    refine ex.bd (r_gR hR_tt4 (lc5 i0) rfl) ?_
    obtain ⟨tt9, e10, H⟩ := am_bd H
    obtain ⟨hh8, e11, hR_tt9⟩ := r_sI hR_tt4 (la5_4 i0) e10
    refine ex.bd e11 ?_
    refine ex.bd (r_gR hR_tt9 (lc5 i0) rfl) ?_
    obtain ⟨x13, e14, H⟩ := am_bd H
    refine ex.bd (r_aI hR_tt9 (la5_5 i0) e14) ?_
    obtain ⟨tt16, e17, H⟩ := am_bd H
    obtain ⟨hh15, e18, hR_tt16⟩ := r_sI hR_tt9 (la5_5 i0) e17
    refine ex.bd e18 ?_
    refine ex.bd (r_gI hR_tt16 (lc5 i0) rfl) ?_
    obtain ⟨tt21, et22, H⟩ := am_bd H
    obtain ⟨hh20, e23, hR_tt21⟩ := r_pI (k := 9) (x := (tt16.1 a0 9) ||| (((1 : Int32)) <<< (a2 &&& 31))) hR_tt16 (lc5 i0) rfl rfl
    rw [Option.some.inj et22] at hR_tt21
    refine ex.bd e23 ?_
    obtain ⟨x25, e24, H⟩ := am_bd H
    refine ex.j1 (sX6_guests hR_tt21 i0 i1 e24) (fun z26 hz => ?_)
    obtain rfl : x25 = z26 := hz
    obtain ⟨x28, e27, H⟩ := am_bd H
    refine ex.j1 (sJ6_bitCount_0f7a4 hR_tt21  e27) (fun z29 hz => ?_)
    obtain rfl : x28 = z29 := hz
    refine ex.bd (r_gI hR_tt21 (lc7 i1) rfl) ?_
    obtain ⟨js31, tt33, E62, H⟩ := am_bd2 H
    refine ex.j2 (Q := fun p => js31 = p.1 ∧ Rp p.2 tt33) ?_ (fun z63 hh32 hq => ?_)
    · clear H
      have H := E62
      clear E62
      by_cases c34 : (tt21.1 a1 15) = 0
      · rw [if_pos c34] at H
        refine ex.t c34 ?_
        obtain ⟨rfl, rfl⟩ := am_inj2 H
        exact ex.nd ⟨rfl, hR_tt21⟩
      · rw [if_neg c34] at H
        refine ex.f c34 ?_
        refine ex.bd (r_gR hR_tt21 (lc7 i1) rfl) ?_
        refine ex.bd (r_gR hR_tt21 (lc5 i0) rfl) ?_
        obtain ⟨x37, e38, H⟩ := am_bd H
        refine ex.bd (r_aI hR_tt21 (la5_2 i0) e38) ?_
        refine ex.bd (r_gI hR_tt21 (lc5 i0) rfl) ?_
        refine ex.bd (r_gR hR_tt21 (lc5 i0) rfl) ?_
        obtain ⟨x41, e42, H⟩ := am_bd H
        refine ex.bd (r_aI hR_tt21 (la5_5 i0) e42) ?_
        obtain ⟨x44, tt46, e43, H⟩ := am_bd2 H
        refine ex.j2 (sX1_value hR_tt21 (li7_10 i1) e43) (fun z47 hh45 hz => ?_)
        obtain ⟨rfl, hR_tt46⟩ : x44 = z47 ∧ Rp hh45 tt46 := hz
        obtain ⟨rfl, rfl⟩ := am_inj2 H
        exact ex.nd ⟨rfl, hR_tt46⟩
    · clear E62
      obtain ⟨rfl, hR_tt33⟩ : js31 = z63 ∧ Rp hh32 tt33 := hq
      refine ex.bd (r_gR hR_tt33 (lc5 i0) rfl) ?_
      refine ex.bd (r_gR hR_tt33 (lc5 i0) rfl) ?_
      obtain ⟨x50, e51, H⟩ := am_bd H
      refine ex.bd (r_aI hR_tt33 (la5_2 i0) e51) ?_
      obtain ⟨x53, e52, H⟩ := am_bd H
      refine ex.j1 (sX9_clamp hR_tt33  e52) (fun z54 hz => ?_)
      obtain rfl : x53 = z54 := hz
      obtain ⟨x56, e55, H⟩ := am_bd H
      refine ex.j1 (sX9_clamp hR_tt33  e55) (fun z57 hz => ?_)
      obtain rfl : x56 = z57 := hz
      obtain ⟨tt59, e60, H⟩ := am_bd H
      obtain ⟨hh58, e61, hR_tt59⟩ := r_sI hR_tt33 (la5_2 i0) e60
      refine ex.bd e61 ?_
      obtain rfl := Option.some.inj H
      exact ex.nd hR_tt59
  · rw [if_neg c1] at H
    refine ex.f c1 ?_
    refine ex.bd (r_gI hR_t (lc5 i0) rfl) ?_
    obtain ⟨tt66, et67, H⟩ := am_bd H
    obtain ⟨hh65, e68, hR_tt66⟩ := r_pI (k := 10) (x := (t.1 a0 10) ||| (((1 : Int32)) <<< (a2 &&& 31))) hR_t (lc5 i0) rfl rfl
    rw [Option.some.inj et67] at hR_tt66
    refine ex.bd e68 ?_
    refine ex.bd (r_gI hR_tt66 (lc5 i0) rfl) ?_
    obtain ⟨tt71, et72, H⟩ := am_bd H
    obtain ⟨hh70, e73, hR_tt71⟩ := r_pI (k := 8) (x := (tt66.1 a0 8) + ((1 : Int32))) hR_tt66 (lc5 i0) rfl rfl
    rw [Option.some.inj et72] at hR_tt71
    refine ex.bd e73 ?_
    obtain rfl := Option.some.inj H
    exact ex.nd hR_tt71
def tX6_stayLonger (a0 : Nat) (a1 : Nat) (a2 : Int32) (t : tS) : Option (tS) :=
  (tA t (a0 + 4) 6 a2).bind fun x2 =>
  Option.bind (
    if x2 = ((-1 : Int32)) then
      some t
    else
      (tA t (a0 + 5) 6 a2).bind fun x8 =>
      (tWA t 0 (a0 + 5) 6 a2 (x8 + ((1 : Int32)))).bind fun tt11 =>
      (tA tt11 (a0 + 5) 6 a2).bind fun x15 =>
      if x15 < (tt11.1 a1 13) then
        some tt11
      else
        (tX6_leave a0 a2 tt11).bind fun tt21 =>
        some tt21) fun tt5 =>
  some tt5
set_option maxHeartbeats 4000000 in
set_option maxRecDepth 100000 in
theorem sX6_stayLonger {a0 : Nat} {a1 : Nat} {a2 : Int32} {h : am_H} {t : tS} {t1 : tS} (hR_t : Rp h t) (i0 : ly_Is 5 a0) (i1 : ly_Is 7 a1) (H : tX6_stayLonger a0 a1 a2 t = some t1) : ex (fX6_stayLonger a0 a1 a2 h) (fun h1 => Rp h1 t1) := by
  unfold tX6_stayLonger at H
  unfold fX6_stayLonger
  refine ex.bd (r_isO hR_t (lc5 i0)) ?_
  refine ex.bd (r_gR hR_t (lc5 i0) rfl) ?_
  obtain ⟨x2, e3, H⟩ := am_bd H
  refine ex.bd (r_aI hR_t (la5_3 i0) e3) ?_
  obtain ⟨tt5, E22, H⟩ := am_bd H
  refine ex.j1 (Q := fun p => Rp p tt5) ?_ (fun hh4 hq => ?_)
  · clear H
    have H := E22
    clear E22
    by_cases c6 : x2 = ((-1 : Int32))
    · rw [if_pos c6] at H
      refine ex.t c6 ?_
      obtain rfl := Option.some.inj H
      exact ex.nd hR_t
    · rw [if_neg c6] at H
      refine ex.f c6 ?_
      refine ex.bd (r_gR hR_t (lc5 i0) rfl) ?_
      obtain ⟨x8, e9, H⟩ := am_bd H
      refine ex.bd (r_aI hR_t (la5_4 i0) e9) ?_
      obtain ⟨tt11, e12, H⟩ := am_bd H
      obtain ⟨hh10, e13, hR_tt11⟩ := r_sI hR_t (la5_4 i0) e12
      refine ex.bd e13 ?_
      refine ex.bd (r_gR hR_tt11 (lc5 i0) rfl) ?_
      obtain ⟨x15, e16, H⟩ := am_bd H
      refine ex.bd (r_aI hR_tt11 (la5_4 i0) e16) ?_
      refine ex.bd (r_gI hR_tt11 (lc7 i1) rfl) ?_
      by_cases c18 : x15 < (tt11.1 a1 13)
      · rw [if_pos c18] at H
        refine ex.t c18 ?_
        obtain rfl := Option.some.inj H
        exact ex.nd hR_tt11
      · rw [if_neg c18] at H
        refine ex.f c18 ?_
        obtain ⟨tt21, e19, H⟩ := am_bd H
        refine ex.j1 (sX6_leave hR_tt11 i0 e19) (fun hh20 hR_tt21 => ?_)
        obtain rfl := Option.some.inj H
        exact ex.nd hR_tt21
  · clear E22
    have hR_tt5 : Rp hh4 tt5 := hq
    obtain rfl := Option.some.inj H
    exact ex.nd hR_tt5
def tX6_passDate_L36 : Nat → Nat → Nat → Int32 → tS → Option (tS)
  | 0, _, _, _, _ => none
  | n + 1, v0, v1, v2, t =>
    if (t.1 v1 12) ≤ v2 then
      some t
    else
      (tX6_stayLonger v0 v1 v2 t).bind fun tt23 =>
      tX6_passDate_L36 n v0 v1 (v2 + (1 : Int32)) tt23
def tX6_passDate_L68 : Nat → Nat → Nat → Int32 → tS → Option (tS)
  | 0, _, _, _, _ => none
  | n + 1, v0, v1, v2, t =>
    if (t.1 v1 12) ≤ v2 then
      some t
    else
      (tX6_isDue v0 v1 v2 t).bind fun x38 =>
      Option.bind (
        if x38 = 0 then
          some t
        else
          (tX6_hostOf v0 v1 v2 t).bind fun x44 =>
          (tX6_receive v0 v1 v2 x44 t).bind fun tt48 =>
          some tt48) fun tt41 =>
      tX6_passDate_L68 n v0 v1 (v2 + (1 : Int32)) tt41
def tX6_passDate (a0 : Nat) (a1 : Nat) (t : tS) : Option (tS) :=
  (some (uI t a0 6 ((t.1 a0 6) + ((1 : Int32))))).bind fun tt3 =>
  Option.bind (
    if (tt3.1 a0 6) < ((12 : Int32)) then
      some tt3
    else
      (some (uI tt3 a0 6 ((0 : Int32)))).bind fun tt11 =>
      (some (uI tt11 a0 7 ((tt11.1 a0 7) + ((1 : Int32))))).bind fun tt16 =>
      some tt16) fun tt8 =>
  Option.bind (tX6_passDate_L36 4000 a0 a1 ((0 : Int32)) tt8) fun tt25 =>
  (some (uI tt25 a0 9 ((0 : Int32)))).bind fun tt28 =>
  (some (uI tt28 a0 10 ((0 : Int32)))).bind fun tt32 =>
  Option.bind (tX6_passDate_L68 4000 a0 a1 ((0 : Int32)) tt32) fun tt51 =>
  some tt51
set_option maxHeartbeats 4000000 in
set_option maxRecDepth 100000 in
theorem sX6_passDate_L36 : ∀ (n : Nat) (v0 : Nat) (v1 : Nat) (v2 : Int32) (h : am_H) (t : tS) (t1 : tS), Rp h t → ly_Is 5 v0 → ly_Is 7 v1 → tX6_passDate_L36 n v0 v1 v2 t = some t1 → ex (fX6_passDate_L36 n v0 v1 v2 h) (fun p => Rp p t1) := by
  intro n
  induction n with
  | zero => intro _ _ _ _ _ _ _ _ _ H; cases H
  | succ n ih =>
    intro v0 v1 v2 h t t1 hR_t i0 i1 H
    rw [tX6_passDate_L36] at H
    rw [fX6_passDate_L36]
    refine ex.bd (r_gI hR_t (lc7 i1) rfl) ?_
    by_cases c20 : (t.1 v1 12) ≤ v2
    · rw [if_pos c20] at H
      refine ex.t c20 ?_
      obtain rfl := Option.some.inj H
      exact ex.nd hR_t
    · rw [if_neg c20] at H
      refine ex.f c20 ?_
      obtain ⟨tt23, e21, H⟩ := am_bd H
      refine ex.j1 (sX6_stayLonger hR_t i0 i1 e21) (fun hh22 hR_tt23 => ?_)
      exact ih _ _ _ _ _ _ hR_tt23 i0 i1 H
set_option maxHeartbeats 4000000 in
set_option maxRecDepth 100000 in
theorem sX6_passDate_L68 : ∀ (n : Nat) (v0 : Nat) (v1 : Nat) (v2 : Int32) (h : am_H) (t : tS) (t1 : tS), Rp h t → ly_Is 5 v0 → ly_Is 7 v1 → tX6_passDate_L68 n v0 v1 v2 t = some t1 → ex (fX6_passDate_L68 n v0 v1 v2 h) (fun p => Rp p t1) := by
  intro n
  induction n with
  | zero => intro _ _ _ _ _ _ _ _ _ H; cases H
  | succ n ih =>
    intro v0 v1 v2 h t t1 hR_t i0 i1 H
    rw [tX6_passDate_L68] at H
    rw [fX6_passDate_L68]
    refine ex.bd (r_gI hR_t (lc7 i1) rfl) ?_
    by_cases c36 : (t.1 v1 12) ≤ v2
    · rw [if_pos c36] at H
      refine ex.t c36 ?_
      obtain rfl := Option.some.inj H
      exact ex.nd hR_t
    · rw [if_neg c36] at H
      refine ex.f c36 ?_
      obtain ⟨x38, e37, H⟩ := am_bd H
      refine ex.j1 (sX6_isDue hR_t i0 i1 e37) (fun z39 hz => ?_)
      obtain rfl : x38 = z39 := hz
      obtain ⟨tt41, E49, H⟩ := am_bd H
      refine ex.j1 (Q := fun p => Rp p tt41) ?_ (fun hh40 hq => ?_)
      · clear H
        have H := E49
        clear E49
        by_cases c42 : x38 = 0
        · rw [if_pos c42] at H
          refine ex.t c42 ?_
          obtain rfl := Option.some.inj H
          exact ex.nd hR_t
        · rw [if_neg c42] at H
          refine ex.f c42 ?_
          obtain ⟨x44, e43, H⟩ := am_bd H
          refine ex.j1 (sX6_hostOf hR_t i0 i1 e43) (fun z45 hz => ?_)
          obtain rfl : x44 = z45 := hz
          obtain ⟨tt48, e46, H⟩ := am_bd H
          refine ex.j1 (sX6_receive hR_t i0 i1 e46) (fun hh47 hR_tt48 => ?_)
          obtain rfl := Option.some.inj H
          exact ex.nd hR_tt48
      · clear E49
        have hR_tt41 : Rp hh40 tt41 := hq
        exact ih _ _ _ _ _ _ hR_tt41 i0 i1 H
set_option maxHeartbeats 4000000 in
set_option maxRecDepth 100000 in
theorem sX6_passDate {a0 : Nat} {a1 : Nat} {h : am_H} {t : tS} {t1 : tS} (hR_t : Rp h t) (i0 : ly_Is 5 a0) (i1 : ly_Is 7 a1) (H : tX6_passDate a0 a1 t = some t1) : ex (fX6_passDate a0 a1 h) (fun h1 => Rp h1 t1) := by
  unfold tX6_passDate at H
  unfold fX6_passDate
  refine ex.bd (r_isO hR_t (lc5 i0)) ?_
  refine ex.bd (r_gI hR_t (lc5 i0) rfl) ?_
  obtain ⟨tt3, et4, H⟩ := am_bd H
  obtain ⟨hh2, e5, hR_tt3⟩ := r_pI (k := 6) (x := (t.1 a0 6) + ((1 : Int32))) hR_t (lc5 i0) rfl rfl
  rw [Option.some.inj et4] at hR_tt3
  refine ex.bd e5 ?_
  refine ex.bd (r_gI hR_tt3 (lc5 i0) rfl) ?_
  obtain ⟨tt8, E53, H⟩ := am_bd H
  refine ex.j1 (Q := fun p => Rp p tt8) ?_ (fun hh7 hq => ?_)
  · clear H
    have H := E53
    clear E53
    by_cases c9 : (tt3.1 a0 6) < ((12 : Int32))
    · rw [if_pos c9] at H
      refine ex.t c9 ?_
      obtain rfl := Option.some.inj H
      exact ex.nd hR_tt3
    · rw [if_neg c9] at H
      refine ex.f c9 ?_
      obtain ⟨tt11, et12, H⟩ := am_bd H
      obtain ⟨hh10, e13, hR_tt11⟩ := r_pI (k := 6) (x := (0 : Int32)) hR_tt3 (lc5 i0) rfl rfl
      rw [Option.some.inj et12] at hR_tt11
      refine ex.bd e13 ?_
      refine ex.bd (r_gI hR_tt11 (lc5 i0) rfl) ?_
      obtain ⟨tt16, et17, H⟩ := am_bd H
      obtain ⟨hh15, e18, hR_tt16⟩ := r_pI (k := 7) (x := (tt11.1 a0 7) + ((1 : Int32))) hR_tt11 (lc5 i0) rfl rfl
      rw [Option.some.inj et17] at hR_tt16
      refine ex.bd e18 ?_
      obtain rfl := Option.some.inj H
      exact ex.nd hR_tt16
  · clear E53
    have hR_tt8 : Rp hh7 tt8 := hq
    obtain ⟨tt25, E26, H⟩ := am_bd H
    refine ex.j1 (sX6_passDate_L36 _ _ _ _ _ _ _ hR_tt8 i0 i1 E26) (fun hh24 hq => ?_)
    clear E26
    have hR_tt25 : Rp hh24 tt25 := hq
    obtain ⟨tt28, et29, H⟩ := am_bd H
    obtain ⟨hh27, e30, hR_tt28⟩ := r_pI (k := 9) (x := (0 : Int32)) hR_tt25 (lc5 i0) rfl rfl
    rw [Option.some.inj et29] at hR_tt28
    refine ex.bd e30 ?_
    obtain ⟨tt32, et33, H⟩ := am_bd H
    obtain ⟨hh31, e34, hR_tt32⟩ := r_pI (k := 10) (x := (0 : Int32)) hR_tt28 (lc5 i0) rfl rfl
    rw [Option.some.inj et33] at hR_tt32
    refine ex.bd e34 ?_
    obtain ⟨tt51, E52, H⟩ := am_bd H
    refine ex.j1 (sX6_passDate_L68 _ _ _ _ _ _ _ hR_tt32 i0 i1 E52) (fun hh50 hq => ?_)
    clear E52
    have hR_tt51 : Rp hh50 tt51 := hq
    obtain rfl := Option.some.inj H
    exact ex.nd hR_tt51
def tX6_shift (a0 : Nat) (a1 : Int32) (a2 : Int32) (t : tS) : Option (tS) :=
  (tWA t 0 (a0 + 4) 6 a1 a2).bind fun tt3 =>
  some tt3
set_option maxHeartbeats 4000000 in
set_option maxRecDepth 100000 in
theorem sX6_shift {a0 : Nat} {a1 : Int32} {a2 : Int32} {h : am_H} {t : tS} {t1 : tS} (hR_t : Rp h t) (i0 : ly_Is 5 a0) (H : tX6_shift a0 a1 a2 t = some t1) : ex (fX6_shift a0 a1 a2 h) (fun h1 => Rp h1 t1) := by
  unfold tX6_shift at H
  unfold fX6_shift
  refine ex.bd (r_isO hR_t (lc5 i0)) ?_
  refine ex.bd (r_gR hR_t (lc5 i0) rfl) ?_
  obtain ⟨tt3, e4, H⟩ := am_bd H
  obtain ⟨hh2, e5, hR_tt3⟩ := r_sI hR_t (la5_3 i0) e4
  refine ex.bd e5 ?_
  obtain rfl := Option.some.inj H
  exact ex.nd hR_tt3
def tX3_carryOut (a0 : Nat) (a1 : Int32) (a2 : Nat) (a3 : Nat) (t : tS) : Option (Int32 × tS) :=
  (tA t (a0 + 2) 40 a1).bind fun x2 =>
  (tA t (a0 + 3) 40 a1).bind fun x5 =>
  (tA t (a0 + 1) 40 a1).bind fun x8 =>
  if x8.toInt < 1 ∨ 3 < x8.toInt then
    (tX6_passDate a3 a2 t).bind fun tt15 =>
    some ((1 : Int32), tt15)
  else (some (x8.toInt - 1).toNat).bind fun k11 =>
  if k11 = 0 then
    (tX6_canShift a3 a2 x2 x5 t).bind fun x17 =>
    if ¬ x17 = 0 then
      (tX6_shift a3 x2 x5 t).bind fun tt22 =>
      some ((1 : Int32), tt22)
    else
      some ((0 : Int32), t)
  else if k11 = 1 then
    (tA t (a3 + 4) 6 x2).bind fun x25 =>
    if ¬ x25 = ((-1 : Int32)) then
      (tX6_leave a3 x2 t).bind fun tt30 =>
      some ((1 : Int32), tt30)
    else
      some ((0 : Int32), t)
  else if k11 = 2 then
    (tA t (a3 + 1) 4 x5).bind fun x33 =>
    if x33 < ((9 : Int32)) then
      (tA t (a3 + 1) 4 x5).bind fun x37 =>
      (tWA t 0 (a3 + 1) 4 x5 (x37 + ((1 : Int32)))).bind fun tt40 =>
      some ((1 : Int32), tt40)
    else
      some ((0 : Int32), t)
  else none
set_option maxHeartbeats 4000000 in
set_option maxRecDepth 100000 in
theorem sX3_carryOut {a0 : Nat} {a1 : Int32} {a2 : Nat} {a3 : Nat} {h : am_H} {t : tS} {r : Int32} {t1 : tS} (hR_t : Rp h t) (i0 : ly_Is 3 a0) (i2 : ly_Is 7 a2) (i3 : ly_Is 5 a3) (H : tX3_carryOut a0 a1 a2 a3 t = some (r, t1)) : ex (fX3_carryOut a0 a1 a2 a3 h) (fun p => r = p.1 ∧ Rp p.2 t1) := by
  unfold tX3_carryOut at H
  unfold fX3_carryOut
  refine ex.bd (r_isO hR_t (lc3 i0)) ?_
  refine ex.bd (r_gR hR_t (lc3 i0) rfl) ?_
  obtain ⟨x2, e3, H⟩ := am_bd H
  refine ex.bd (r_aI hR_t (la3_1 i0) e3) ?_
  refine ex.bd (r_gR hR_t (lc3 i0) rfl) ?_
  obtain ⟨x5, e6, H⟩ := am_bd H
  refine ex.bd (r_aI hR_t (la3_2 i0) e6) ?_
  refine ex.bd (r_gR hR_t (lc3 i0) rfl) ?_
  obtain ⟨x8, e9, H⟩ := am_bd H
  refine ex.bd (r_aI hR_t (la3_0 i0) e9) ?_
  by_cases c10 : x8.toInt < 1 ∨ 3 < x8.toInt
  · rw [if_pos c10] at H
    refine ex.t c10 ?_
    obtain ⟨tt15, e13, H⟩ := am_bd H
    refine ex.j1 (sX6_passDate hR_t i3 i2 e13) (fun hh14 hR_tt15 => ?_)
    obtain ⟨rfl, rfl⟩ := am_inj2 H
    exact ex.nd ⟨rfl, hR_tt15⟩
  · rw [if_neg c10] at H
    refine ex.f c10 ?_
    obtain ⟨k11, e12, H⟩ := am_bd H
    refine ex.bd e12 ?_
    by_cases c23 : k11 = 0
    · rw [if_pos c23] at H
      refine ex.t c23 ?_
      obtain ⟨x17, e16, H⟩ := am_bd H
      refine ex.j1 (sX6_canShift hR_t i3 i2 e16) (fun z18 hz => ?_)
      obtain rfl : x17 = z18 := hz
      by_cases c19 : ¬ x17 = 0
      · rw [if_pos c19] at H
        refine ex.t c19 ?_
        obtain ⟨tt22, e20, H⟩ := am_bd H
        refine ex.j1 (sX6_shift hR_t i3 e20) (fun hh21 hR_tt22 => ?_)
        obtain ⟨rfl, rfl⟩ := am_inj2 H
        exact ex.nd ⟨rfl, hR_tt22⟩
      · rw [if_neg c19] at H
        refine ex.f c19 ?_
        obtain ⟨rfl, rfl⟩ := am_inj2 H
        exact ex.nd ⟨rfl, hR_t⟩
    · rw [if_neg c23] at H
      refine ex.f c23 ?_
      by_cases c31 : k11 = 1
      · rw [if_pos c31] at H
        refine ex.t c31 ?_
        refine ex.bd (r_gR hR_t (lc5 i3) rfl) ?_
        obtain ⟨x25, e26, H⟩ := am_bd H
        refine ex.bd (r_aI hR_t (la5_3 i3) e26) ?_
        by_cases c27 : ¬ x25 = ((-1 : Int32))
        · rw [if_pos c27] at H
          refine ex.t c27 ?_
          obtain ⟨tt30, e28, H⟩ := am_bd H
          refine ex.j1 (sX6_leave hR_t i3 e28) (fun hh29 hR_tt30 => ?_)
          obtain ⟨rfl, rfl⟩ := am_inj2 H
          exact ex.nd ⟨rfl, hR_tt30⟩
        · rw [if_neg c27] at H
          refine ex.f c27 ?_
          obtain ⟨rfl, rfl⟩ := am_inj2 H
          exact ex.nd ⟨rfl, hR_t⟩
      · rw [if_neg c31] at H
        refine ex.f c31 ?_
        by_cases c43 : k11 = 2
        · rw [if_pos c43] at H
          refine ex.t c43 ?_
          refine ex.bd (r_gR hR_t (lc5 i3) rfl) ?_
          obtain ⟨x33, e34, H⟩ := am_bd H
          refine ex.bd (r_aI hR_t (la5_0 i3) e34) ?_
          by_cases c35 : x33 < ((9 : Int32))
          · rw [if_pos c35] at H
            refine ex.t c35 ?_
            refine ex.bd (r_gR hR_t (lc5 i3) rfl) ?_
            obtain ⟨x37, e38, H⟩ := am_bd H
            refine ex.bd (r_aI hR_t (la5_0 i3) e38) ?_
            obtain ⟨tt40, e41, H⟩ := am_bd H
            obtain ⟨hh39, e42, hR_tt40⟩ := r_sI hR_t (la5_0 i3) e41
            refine ex.bd e42 ?_
            obtain ⟨rfl, rfl⟩ := am_inj2 H
            exact ex.nd ⟨rfl, hR_tt40⟩
          · rw [if_neg c35] at H
            refine ex.f c35 ?_
            obtain ⟨rfl, rfl⟩ := am_inj2 H
            exact ex.nd ⟨rfl, hR_t⟩
        · rw [if_neg c43] at H
          refine ex.f c43 ?_
          cases H
def tX7_isName  (t : tS) : Option (Int32) :=
  if (t.1 1 4) = ((1 : Int32)) then
    (tX7_isWord 1000000 t).bind fun x4 =>
    Option.bind (
      if ¬ x4 = 0 then
        some ((1 : Int32))
      else
        (tX7_isWord 1000001 t).bind fun x9 =>
        if ¬ x9 = 0 then
          some ((1 : Int32))
        else
          (tX7_isWord 1000002 t).bind fun x13 =>
          if ¬ x13 = 0 then
            some ((1 : Int32))
          else
            (tX7_isWord 1000003 t).bind fun x17 =>
            if ¬ x17 = 0 then
              some ((1 : Int32))
            else
              (tX7_isWord 1000004 t).bind fun x21 =>
              if ¬ x21 = 0 then
                some ((1 : Int32))
              else
                (tX7_isWord 1000005 t).bind fun x25 =>
                if ¬ x25 = 0 then
                  some ((1 : Int32))
                else
                  (tX7_isWord 1000006 t).bind fun x29 =>
                  if ¬ x29 = 0 then
                    some ((1 : Int32))
                  else
                    (tX7_isWord 1000007 t).bind fun x33 =>
                    if ¬ x33 = 0 then
                      some ((1 : Int32))
                    else
                      (tX7_isWord 1000008 t).bind fun x37 =>
                      if ¬ x37 = 0 then
                        some ((1 : Int32))
                      else
                        (tX7_isWord 1000009 t).bind fun x41 =>
                        if ¬ x41 = 0 then
                          some ((1 : Int32))
                        else
                          (tX7_isWord 1000010 t).bind fun x45 =>
                          if ¬ x45 = 0 then
                            some ((1 : Int32))
                          else
                            (tX7_isWord 1000011 t).bind fun x49 =>
                            if ¬ x49 = 0 then
                              some ((1 : Int32))
                            else
                              (tX7_isWord 1000012 t).bind fun x53 =>
                              if ¬ x53 = 0 then
                                some ((1 : Int32))
                              else
                                (tX7_isWord 1000013 t).bind fun x57 =>
                                if ¬ x57 = 0 then
                                  some ((1 : Int32))
                                else
                                  (tX7_isWord 1000014 t).bind fun x61 =>
                                  if ¬ x61 = 0 then
                                    some ((1 : Int32))
                                  else
                                    (tX7_isWord 1000015 t).bind fun x65 =>
                                    if ¬ x65 = 0 then
                                      some ((1 : Int32))
                                    else
                                      (tX7_isWord 1000016 t).bind fun x69 =>
                                      if ¬ x69 = 0 then
                                        some ((1 : Int32))
                                      else
                                        (tX7_isWord 1000017 t).bind fun x73 =>
                                        if ¬ x73 = 0 then
                                          some ((1 : Int32))
                                        else
                                          (tX7_isWord 1000018 t).bind fun x77 =>
                                          if ¬ x77 = 0 then
                                            some ((1 : Int32))
                                          else
                                            (tX7_isWord 1000019 t).bind fun x81 =>
                                            if ¬ x81 = 0 then
                                              some ((1 : Int32))
                                            else
                                              (tX7_isWord 1000020 t).bind fun x85 =>
                                              if x85 = 0 then
                                                some ((0 : Int32))
                                              else
                                                some ((1 : Int32))) fun js6 =>
    Option.bind (
      if ¬ js6 = 0 then
        some ((0 : Int32))
      else
        some ((1 : Int32))) fun js88 =>
    (am_z01 js88).bind fun b90 =>
    some b90
  else
    some ((0 : Int32))
set_option maxHeartbeats 4000000 in
set_option maxRecDepth 100000 in
theorem sX7_isName  {h : am_H} {t : tS} {r : Int32} (hR_t : Rp h t)  (H : tX7_isName  t = some r) : ex (fX7_isName 1 h) (fun x => r = x) := by
  unfold tX7_isName at H
  unfold fX7_isName
  refine ex.bd (r_isO hR_t lk6) ?_
  refine ex.bd (r_gI hR_t lk6 rfl) ?_
  by_cases c2 : (t.1 1 4) = ((1 : Int32))
  · rw [if_pos c2] at H
    refine ex.t c2 ?_
    obtain ⟨x4, e3, H⟩ := am_bd H
    refine ex.j1 (sX7_isWord hR_t  e3) (fun z5 hz => ?_)
    obtain rfl : x4 = z5 := hz
    obtain ⟨js6, E94, H⟩ := am_bd H
    refine ex.j1 (Q := fun p => js6 = p) ?_ (fun z95 hq => ?_)
    · clear H
      have H := E94
      clear E94
      by_cases c7 : ¬ x4 = 0
      · rw [if_pos c7] at H
        refine ex.t c7 ?_
        obtain rfl := Option.some.inj H
        exact ex.nd rfl
      · rw [if_neg c7] at H
        refine ex.f c7 ?_
        obtain ⟨x9, e8, H⟩ := am_bd H
        refine ex.j1 (sX7_isWord hR_t  e8) (fun z10 hz => ?_)
        obtain rfl : x9 = z10 := hz
        by_cases c11 : ¬ x9 = 0
        · rw [if_pos c11] at H
          refine ex.t c11 ?_
          obtain rfl := Option.some.inj H
          exact ex.nd rfl
        · rw [if_neg c11] at H
          refine ex.f c11 ?_
          obtain ⟨x13, e12, H⟩ := am_bd H
          refine ex.j1 (sX7_isWord hR_t  e12) (fun z14 hz => ?_)
          obtain rfl : x13 = z14 := hz
          by_cases c15 : ¬ x13 = 0
          · rw [if_pos c15] at H
            refine ex.t c15 ?_
            obtain rfl := Option.some.inj H
            exact ex.nd rfl
          · rw [if_neg c15] at H
            refine ex.f c15 ?_
            obtain ⟨x17, e16, H⟩ := am_bd H
            refine ex.j1 (sX7_isWord hR_t  e16) (fun z18 hz => ?_)
            obtain rfl : x17 = z18 := hz
            by_cases c19 : ¬ x17 = 0
            · rw [if_pos c19] at H
              refine ex.t c19 ?_
              obtain rfl := Option.some.inj H
              exact ex.nd rfl
            · rw [if_neg c19] at H
              refine ex.f c19 ?_
              obtain ⟨x21, e20, H⟩ := am_bd H
              refine ex.j1 (sX7_isWord hR_t  e20) (fun z22 hz => ?_)
              obtain rfl : x21 = z22 := hz
              by_cases c23 : ¬ x21 = 0
              · rw [if_pos c23] at H
                refine ex.t c23 ?_
                obtain rfl := Option.some.inj H
                exact ex.nd rfl
              · rw [if_neg c23] at H
                refine ex.f c23 ?_
                obtain ⟨x25, e24, H⟩ := am_bd H
                refine ex.j1 (sX7_isWord hR_t  e24) (fun z26 hz => ?_)
                obtain rfl : x25 = z26 := hz
                by_cases c27 : ¬ x25 = 0
                · rw [if_pos c27] at H
                  refine ex.t c27 ?_
                  obtain rfl := Option.some.inj H
                  exact ex.nd rfl
                · rw [if_neg c27] at H
                  refine ex.f c27 ?_
                  obtain ⟨x29, e28, H⟩ := am_bd H
                  refine ex.j1 (sX7_isWord hR_t  e28) (fun z30 hz => ?_)
                  obtain rfl : x29 = z30 := hz
                  by_cases c31 : ¬ x29 = 0
                  · rw [if_pos c31] at H
                    refine ex.t c31 ?_
                    obtain rfl := Option.some.inj H
                    exact ex.nd rfl
                  · rw [if_neg c31] at H
                    refine ex.f c31 ?_
                    obtain ⟨x33, e32, H⟩ := am_bd H
                    refine ex.j1 (sX7_isWord hR_t  e32) (fun z34 hz => ?_)
                    obtain rfl : x33 = z34 := hz
                    by_cases c35 : ¬ x33 = 0
                    · rw [if_pos c35] at H
                      refine ex.t c35 ?_
                      obtain rfl := Option.some.inj H
                      exact ex.nd rfl
                    · rw [if_neg c35] at H
                      refine ex.f c35 ?_
                      obtain ⟨x37, e36, H⟩ := am_bd H
                      refine ex.j1 (sX7_isWord hR_t  e36) (fun z38 hz => ?_)
                      obtain rfl : x37 = z38 := hz
                      by_cases c39 : ¬ x37 = 0
                      · rw [if_pos c39] at H
                        refine ex.t c39 ?_
                        obtain rfl := Option.some.inj H
                        exact ex.nd rfl
                      · rw [if_neg c39] at H
                        refine ex.f c39 ?_
                        obtain ⟨x41, e40, H⟩ := am_bd H
                        refine ex.j1 (sX7_isWord hR_t  e40) (fun z42 hz => ?_)
                        obtain rfl : x41 = z42 := hz
                        by_cases c43 : ¬ x41 = 0
                        · rw [if_pos c43] at H
                          refine ex.t c43 ?_
                          obtain rfl := Option.some.inj H
                          exact ex.nd rfl
                        · rw [if_neg c43] at H
                          refine ex.f c43 ?_
                          obtain ⟨x45, e44, H⟩ := am_bd H
                          refine ex.j1 (sX7_isWord hR_t  e44) (fun z46 hz => ?_)
                          obtain rfl : x45 = z46 := hz
                          by_cases c47 : ¬ x45 = 0
                          · rw [if_pos c47] at H
                            refine ex.t c47 ?_
                            obtain rfl := Option.some.inj H
                            exact ex.nd rfl
                          · rw [if_neg c47] at H
                            refine ex.f c47 ?_
                            obtain ⟨x49, e48, H⟩ := am_bd H
                            refine ex.j1 (sX7_isWord hR_t  e48) (fun z50 hz => ?_)
                            obtain rfl : x49 = z50 := hz
                            by_cases c51 : ¬ x49 = 0
                            · rw [if_pos c51] at H
                              refine ex.t c51 ?_
                              obtain rfl := Option.some.inj H
                              exact ex.nd rfl
                            · rw [if_neg c51] at H
                              refine ex.f c51 ?_
                              obtain ⟨x53, e52, H⟩ := am_bd H
                              refine ex.j1 (sX7_isWord hR_t  e52) (fun z54 hz => ?_)
                              obtain rfl : x53 = z54 := hz
                              by_cases c55 : ¬ x53 = 0
                              · rw [if_pos c55] at H
                                refine ex.t c55 ?_
                                obtain rfl := Option.some.inj H
                                exact ex.nd rfl
                              · rw [if_neg c55] at H
                                refine ex.f c55 ?_
                                obtain ⟨x57, e56, H⟩ := am_bd H
                                refine ex.j1 (sX7_isWord hR_t  e56) (fun z58 hz => ?_)
                                obtain rfl : x57 = z58 := hz
                                by_cases c59 : ¬ x57 = 0
                                · rw [if_pos c59] at H
                                  refine ex.t c59 ?_
                                  obtain rfl := Option.some.inj H
                                  exact ex.nd rfl
                                · rw [if_neg c59] at H
                                  refine ex.f c59 ?_
                                  obtain ⟨x61, e60, H⟩ := am_bd H
                                  refine ex.j1 (sX7_isWord hR_t  e60) (fun z62 hz => ?_)
                                  obtain rfl : x61 = z62 := hz
                                  by_cases c63 : ¬ x61 = 0
                                  · rw [if_pos c63] at H
                                    refine ex.t c63 ?_
                                    obtain rfl := Option.some.inj H
                                    exact ex.nd rfl
                                  · rw [if_neg c63] at H
                                    refine ex.f c63 ?_
                                    obtain ⟨x65, e64, H⟩ := am_bd H
                                    refine ex.j1 (sX7_isWord hR_t  e64) (fun z66 hz => ?_)
                                    obtain rfl : x65 = z66 := hz
                                    by_cases c67 : ¬ x65 = 0
                                    · rw [if_pos c67] at H
                                      refine ex.t c67 ?_
                                      obtain rfl := Option.some.inj H
                                      exact ex.nd rfl
                                    · rw [if_neg c67] at H
                                      refine ex.f c67 ?_
                                      obtain ⟨x69, e68, H⟩ := am_bd H
                                      refine ex.j1 (sX7_isWord hR_t  e68) (fun z70 hz => ?_)
                                      obtain rfl : x69 = z70 := hz
                                      by_cases c71 : ¬ x69 = 0
                                      · rw [if_pos c71] at H
                                        refine ex.t c71 ?_
                                        obtain rfl := Option.some.inj H
                                        exact ex.nd rfl
                                      · rw [if_neg c71] at H
                                        refine ex.f c71 ?_
                                        obtain ⟨x73, e72, H⟩ := am_bd H
                                        refine ex.j1 (sX7_isWord hR_t  e72) (fun z74 hz => ?_)
                                        obtain rfl : x73 = z74 := hz
                                        by_cases c75 : ¬ x73 = 0
                                        · rw [if_pos c75] at H
                                          refine ex.t c75 ?_
                                          obtain rfl := Option.some.inj H
                                          exact ex.nd rfl
                                        · rw [if_neg c75] at H
                                          refine ex.f c75 ?_
                                          obtain ⟨x77, e76, H⟩ := am_bd H
                                          refine ex.j1 (sX7_isWord hR_t  e76) (fun z78 hz => ?_)
                                          obtain rfl : x77 = z78 := hz
                                          by_cases c79 : ¬ x77 = 0
                                          · rw [if_pos c79] at H
                                            refine ex.t c79 ?_
                                            obtain rfl := Option.some.inj H
                                            exact ex.nd rfl
                                          · rw [if_neg c79] at H
                                            refine ex.f c79 ?_
                                            obtain ⟨x81, e80, H⟩ := am_bd H
                                            refine ex.j1 (sX7_isWord hR_t  e80) (fun z82 hz => ?_)
                                            obtain rfl : x81 = z82 := hz
                                            by_cases c83 : ¬ x81 = 0
                                            · rw [if_pos c83] at H
                                              refine ex.t c83 ?_
                                              obtain rfl := Option.some.inj H
                                              exact ex.nd rfl
                                            · rw [if_neg c83] at H
                                              refine ex.f c83 ?_
                                              obtain ⟨x85, e84, H⟩ := am_bd H
                                              refine ex.j1 (sX7_isWord hR_t  e84) (fun z86 hz => ?_)
                                              obtain rfl : x85 = z86 := hz
                                              by_cases c87 : x85 = 0
                                              · rw [if_pos c87] at H
                                                refine ex.t c87 ?_
                                                obtain rfl := Option.some.inj H
                                                exact ex.nd rfl
                                              · rw [if_neg c87] at H
                                                refine ex.f c87 ?_
                                                obtain rfl := Option.some.inj H
                                                exact ex.nd rfl
    · clear E94
      obtain rfl : js6 = z95 := hq
      obtain ⟨js88, E92, H⟩ := am_bd H
      refine ex.j1 (Q := fun p => js88 = p) ?_ (fun z93 hq => ?_)
      · clear H
        have H := E92
        clear E92
        by_cases c89 : ¬ js6 = 0
        · rw [if_pos c89] at H
          refine ex.t c89 ?_
          obtain rfl := Option.some.inj H
          exact ex.nd rfl
        · rw [if_neg c89] at H
          refine ex.f c89 ?_
          obtain rfl := Option.some.inj H
          exact ex.nd rfl
      · clear E92
        obtain rfl : js88 = z93 := hq
        obtain ⟨b90, e91, H⟩ := am_bd H
        refine ex.bd e91 ?_
        obtain rfl := Option.some.inj H
        exact ex.nd rfl
  · rw [if_neg c2] at H
    refine ex.f c2 ?_
    obtain rfl := Option.some.inj H
    exact ex.nd rfl
def tX4_passTold (a1 : Int32) (a2 : Int32) (t : tS) : Option (Int32 × tS) :=
  (tX7_isName  t).bind fun x2 =>
  if ¬ x2 = 0 then
    if ¬ a1 = ((-1 : Int32)) then
      (tX9_has a2 a1 t).bind fun x7 =>
      if x7 = 0 then
        (some (uI t 1 8 a1)).bind fun tt11 =>
        (tX7_step  tt11).bind fun tt16 =>
        some ((1 : Int32), tt16)
      else
        am_b2 (tX7_refuse ((3 : Int32)) t) fun x18 tt20 =>
        (am_z01 x18).bind fun b22 =>
        some (b22, tt20)
    else
      am_b2 (tX7_refuse ((2 : Int32)) t) fun x25 tt27 =>
      (am_z01 x25).bind fun b29 =>
      some (b29, tt27)
  else
    am_b2 (tX7_refuse ((1 : Int32)) t) fun x32 tt34 =>
    (am_z01 x32).bind fun b36 =>
    some (b36, tt34)
set_option maxHeartbeats 4000000 in
set_option maxRecDepth 100000 in
theorem sX4_passTold {a1 : Int32} {a2 : Int32} {h : am_H} {t : tS} {r : Int32} {t1 : tS} (hR_t : Rp h t)  (H : tX4_passTold a1 a2 t = some (r, t1)) : ex (fX4_passTold 1 a1 a2 h) (fun p => r = p.1 ∧ Rp p.2 t1) := by
  unfold tX4_passTold at H
  unfold fX4_passTold
  obtain ⟨x2, e1, H⟩ := am_bd H
  refine ex.j1 (sX7_isName hR_t  e1) (fun z3 hz => ?_)
  obtain rfl : x2 = z3 := hz
  by_cases c4 : ¬ x2 = 0
  · rw [if_pos c4] at H
    refine ex.t c4 ?_
    by_cases c5 : ¬ a1 = ((-1 : Int32))
    · rw [if_pos c5] at H
      refine ex.t c5 ?_
      obtain ⟨x7, e6, H⟩ := am_bd H
      refine ex.j1 (sX9_has hR_t  e6) (fun z8 hz => ?_)
      obtain rfl : x7 = z8 := hz
      by_cases c9 : x7 = 0
      · rw [if_pos c9] at H
        refine ex.t c9 ?_
        obtain ⟨tt11, et12, H⟩ := am_bd H
        obtain ⟨hh10, e13, hR_tt11⟩ := r_pI (k := 8) (x := a1) hR_t lk6 rfl rfl
        rw [Option.some.inj et12] at hR_tt11
        refine ex.bd e13 ?_
        obtain ⟨tt16, e14, H⟩ := am_bd H
        refine ex.j1 (sX7_step hR_tt11  e14) (fun hh15 hR_tt16 => ?_)
        obtain ⟨rfl, rfl⟩ := am_inj2 H
        exact ex.nd ⟨rfl, hR_tt16⟩
      · rw [if_neg c9] at H
        refine ex.f c9 ?_
        obtain ⟨x18, tt20, e17, H⟩ := am_bd2 H
        refine ex.j2 (sX7_refuse hR_t  e17) (fun z21 hh19 hz => ?_)
        obtain ⟨rfl, hR_tt20⟩ : x18 = z21 ∧ Rp hh19 tt20 := hz
        obtain ⟨b22, e23, H⟩ := am_bd H
        refine ex.bd e23 ?_
        obtain ⟨rfl, rfl⟩ := am_inj2 H
        exact ex.nd ⟨rfl, hR_tt20⟩
    · rw [if_neg c5] at H
      refine ex.f c5 ?_
      obtain ⟨x25, tt27, e24, H⟩ := am_bd2 H
      refine ex.j2 (sX7_refuse hR_t  e24) (fun z28 hh26 hz => ?_)
      obtain ⟨rfl, hR_tt27⟩ : x25 = z28 ∧ Rp hh26 tt27 := hz
      obtain ⟨b29, e30, H⟩ := am_bd H
      refine ex.bd e30 ?_
      obtain ⟨rfl, rfl⟩ := am_inj2 H
      exact ex.nd ⟨rfl, hR_tt27⟩
  · rw [if_neg c4] at H
    refine ex.f c4 ?_
    obtain ⟨x32, tt34, e31, H⟩ := am_bd2 H
    refine ex.j2 (sX7_refuse hR_t  e31) (fun z35 hh33 hz => ?_)
    obtain ⟨rfl, hR_tt34⟩ : x32 = z35 ∧ Rp hh33 tt34 := hz
    obtain ⟨b36, e37, H⟩ := am_bd H
    refine ex.bd e37 ?_
    obtain ⟨rfl, rfl⟩ := am_inj2 H
    exact ex.nd ⟨rfl, hR_tt34⟩
def tX8_dayNamed_L2 : Nat → Nat → Int64 → Int32 → tS → Option ((Unit) ⊕ (Int32))
  | 0, _, _, _, _ => none
  | n + 1, v0, v1, v3, t =>
    if (t.1 v0 12) ≤ v3 then
      some (.inl ())
    else
      (tB t (v0 + 4) 6 v3).bind fun x4 =>
      if ¬ (lg_cmp x4 v1) = 0 then
        tX8_dayNamed_L2 n v0 v1 (v3 + (1 : Int32)) t
      else
        some (.inr v3)
def tX8_dayNamed (a0 : Nat) (a1 : Int64) (t : tS) : Option (Int32) :=
  (tX8_dayNamed_L2 4000 a0 a1 ((0 : Int32)) t).bind fun o8 => match o8 with
    | .inl _ =>
      some ((-1 : Int32))
    | .inr y9 => some y9
set_option maxHeartbeats 4000000 in
set_option maxRecDepth 100000 in
theorem sX8_dayNamed_L2 : ∀ (n : Nat) (v0 : Nat) (v1 : Int64) (v3 : Int32) (h : am_H) (t : tS) (o : (Unit) ⊕ (Int32)), Rp h t → ly_Is 7 v0 → tX8_dayNamed_L2 n v0 v1 v3 t = some o → ex (fX8_dayNamed_L2 n v0 v1 v3 h) (fun p => match o, p with
    | .inl _, .inl _ => True
    | .inr y, .inr z => y = z
    | _, _ => False) := by
  intro n
  induction n with
  | zero => intro _ _ _ _ _ _ _ _ H; cases H
  | succ n ih =>
    intro v0 v1 v3 h t o hR_t i0 H
    rw [tX8_dayNamed_L2] at H
    rw [fX8_dayNamed_L2]
    refine ex.bd (r_gI hR_t (lc7 i0) rfl) ?_
    by_cases c2 : (t.1 v0 12) ≤ v3
    · rw [if_pos c2] at H
      refine ex.t c2 ?_
      obtain rfl := Option.some.inj H
      exact ex.nd trivial
    · rw [if_neg c2] at H
      refine ex.f c2 ?_
      refine ex.bd (r_gR hR_t (lc7 i0) rfl) ?_
      obtain ⟨x4, e5, H⟩ := am_bd H
      refine ex.bd (r_aL hR_t (la7_3 i0) e5) ?_
      by_cases c6 : ¬ (lg_cmp x4 v1) = 0
      · rw [if_pos c6] at H
        refine ex.t c6 ?_
        exact ih _ _ _ _ _ _ hR_t i0 H
      · rw [if_neg c6] at H
        refine ex.f c6 ?_
        obtain rfl := Option.some.inj H
        exact ex.nd rfl
set_option maxHeartbeats 4000000 in
set_option maxRecDepth 100000 in
theorem sX8_dayNamed {a0 : Nat} {a1 : Int64} {h : am_H} {t : tS} {r : Int32} (hR_t : Rp h t) (i0 : ly_Is 7 a0) (H : tX8_dayNamed a0 a1 t = some r) : ex (fX8_dayNamed a0 a1 h) (fun x => r = x) := by
  unfold tX8_dayNamed at H
  unfold fX8_dayNamed
  refine ex.bd (r_isO hR_t (lc7 i0)) ?_
  obtain ⟨o8, E7, H⟩ := am_bd H
  refine ex.j1 (sX8_dayNamed_L2 _ _ _ _ _ _ _ hR_t i0 E7) (fun p10 hq => ?_)
  clear E7
  rcases o8 with _ | y9
  · rcases p10 with _ | z11
    · dsimp only at H hq ⊢
      obtain rfl := Option.some.inj H
      exact ex.nd rfl
    · exact hq.elim
  · rcases p10 with _ | z11
    · exact hq.elim
    · dsimp only at H ⊢
      obtain rfl := Option.some.inj H
      exact ex.nd hq
def tX4_passDay (a1 : Nat) (a2 : Int32) (t : tS) : Option (Int32 × tS) :=
  (tX8_dayNamed a1 (t.2.2.2.1 1 6) t).bind fun x3 =>
  am_b2 (tX4_passTold x3 a2 t) fun x6 tt8 =>
  (am_z01 x6).bind fun b10 =>
  some (b10, tt8)
set_option maxHeartbeats 4000000 in
set_option maxRecDepth 100000 in
theorem sX4_passDay {a1 : Nat} {a2 : Int32} {h : am_H} {t : tS} {r : Int32} {t1 : tS} (hR_t : Rp h t) (i1 : ly_Is 7 a1) (H : tX4_passDay a1 a2 t = some (r, t1)) : ex (fX4_passDay 1 a1 a2 h) (fun p => r = p.1 ∧ Rp p.2 t1) := by
  unfold tX4_passDay at H
  unfold fX4_passDay
  refine ex.bd (r_gL hR_t lk6 rfl) ?_
  obtain ⟨x3, e2, H⟩ := am_bd H
  refine ex.j1 (sX8_dayNamed hR_t i1 e2) (fun z4 hz => ?_)
  obtain rfl : x3 = z4 := hz
  obtain ⟨x6, tt8, e5, H⟩ := am_bd2 H
  refine ex.j2 (sX4_passTold hR_t  e5) (fun z9 hh7 hz => ?_)
  obtain ⟨rfl, hR_tt8⟩ : x6 = z9 ∧ Rp hh7 tt8 := hz
  obtain ⟨b10, e11, H⟩ := am_bd H
  refine ex.bd e11 ?_
  obtain ⟨rfl, rfl⟩ := am_inj2 H
  exact ex.nd ⟨rfl, hR_tt8⟩
def tX4_readClash (a1 : Nat) (t : tS) : Option (Int32 × tS) :=
  (tX7_step  t).bind fun tt3 =>
  am_b2 (tX4_passDay a1 ((0 : Int32)) tt3) fun x5 tt7 =>
  if ¬ x5 = 0 then
    (tA tt7 (a1 + 9) 6 (tt7.1 1 8)).bind fun x12 =>
    am_b2 (tX4_passDay a1 ((((1 : Int32)) <<< ((tt7.1 1 8) &&& 31)) ||| x12) tt7) fun x15 tt17 =>
    if ¬ x15 = 0 then
      (tA tt17 (a1 + 9) 6 (tt7.1 1 8)).bind fun x22 =>
      (tWA tt17 0 (a1 + 9) 6 (tt7.1 1 8) (x22 ||| (((1 : Int32)) <<< ((tt17.1 1 8) &&& 31)))).bind fun tt25 =>
      (tA tt25 (a1 + 9) 6 (tt17.1 1 8)).bind fun x29 =>
      (tWA tt25 0 (a1 + 9) 6 (tt17.1 1 8) (x29 ||| (((1 : Int32)) <<< ((tt7.1 1 8) &&& 31)))).bind fun tt32 =>
      am_b2 (tX7_passSign ((59 : Int32)) tt32) fun x36 tt38 =>
      (am_z01 x36).bind fun b40 =>
      some (b40, tt38)
    else
      some ((0 : Int32), tt17)
  else
    some ((0 : Int32), tt7)
set_option maxHeartbeats 4000000 in
set_option maxRecDepth 100000 in
theorem sX4_readClash {a1 : Nat} {h : am_H} {t : tS} {r : Int32} {t1 : tS} (hR_t : Rp h t) (i1 : ly_Is 7 a1) (H : tX4_readClash a1 t = some (r, t1)) : ex (fX4_readClash 1 a1 h) (fun p => r = p.1 ∧ Rp p.2 t1) := by
  unfold tX4_readClash at H
  unfold fX4_readClash
  obtain ⟨tt3, e1, H⟩ := am_bd H
  refine ex.j1 (sX7_step hR_t  e1) (fun hh2 hR_tt3 => ?_)
  obtain ⟨x5, tt7, e4, H⟩ := am_bd2 H
  refine ex.j2 (sX4_passDay hR_tt3 i1 e4) (fun z8 hh6 hz => ?_)
  obtain ⟨rfl, hR_tt7⟩ : x5 = z8 ∧ Rp hh6 tt7 := hz
  by_cases c9 : ¬ x5 = 0
  · rw [if_pos c9] at H
    refine ex.t c9 ?_
    refine ex.bd (r_gI hR_tt7 lk6 rfl) ?_
    refine ex.bd (r_gR hR_tt7 (lc7 i1) rfl) ?_
    obtain ⟨x12, e13, H⟩ := am_bd H
    refine ex.bd (r_aI hR_tt7 (la7_8 i1) e13) ?_
    obtain ⟨x15, tt17, e14, H⟩ := am_bd2 H
    refine ex.j2 (sX4_passDay hR_tt7 i1 e14) (fun z18 hh16 hz => ?_)
    obtain ⟨rfl, hR_tt17⟩ : x15 = z18 ∧ Rp hh16 tt17 := hz
    by_cases c19 : ¬ x15 = 0
    · rw [if_pos c19] at H
      refine ex.t c19 ?_
      refine ex.bd (r_gI hR_tt17 lk6 rfl) ?_
      refine ex.bd (r_gR hR_tt17 (lc7 i1) rfl) ?_
      obtain ⟨x22, e23, H⟩ := am_bd H
      refine ex.bd (r_aI hR_tt17 (la7_8 i1) e23) ?_
      obtain ⟨tt25, e26, H⟩ := am_bd H
      obtain ⟨hh24, e27, hR_tt25⟩ := r_sI hR_tt17 (la7_8 i1) e26
      refine ex.bd e27 ?_
      refine ex.bd (r_gR hR_tt25 (lc7 i1) rfl) ?_
      obtain ⟨x29, e30, H⟩ := am_bd H
      refine ex.bd (r_aI hR_tt25 (la7_8 i1) e30) ?_
      obtain ⟨tt32, e33, H⟩ := am_bd H
      obtain ⟨hh31, e34, hR_tt32⟩ := r_sI hR_tt25 (la7_8 i1) e33
      refine ex.bd e34 ?_
      obtain ⟨x36, tt38, e35, H⟩ := am_bd2 H
      refine ex.j2 (sX7_passSign hR_tt32  e35) (fun z39 hh37 hz => ?_)
      obtain ⟨rfl, hR_tt38⟩ : x36 = z39 ∧ Rp hh37 tt38 := hz
      obtain ⟨b40, e41, H⟩ := am_bd H
      refine ex.bd e41 ?_
      obtain ⟨rfl, rfl⟩ := am_inj2 H
      exact ex.nd ⟨rfl, hR_tt38⟩
    · rw [if_neg c19] at H
      refine ex.f c19 ?_
      obtain ⟨rfl, rfl⟩ := am_inj2 H
      exact ex.nd ⟨rfl, hR_tt17⟩
  · rw [if_neg c9] at H
    refine ex.f c9 ?_
    obtain ⟨rfl, rfl⟩ := am_inj2 H
    exact ex.nd ⟨rfl, hR_tt7⟩
def tX8_houseNamed_L2 : Nat → Nat → Int64 → Int32 → tS → Option ((Unit) ⊕ (Int32))
  | 0, _, _, _, _ => none
  | n + 1, v0, v1, v3, t =>
    if (t.1 v0 11) ≤ v3 then
      some (.inl ())
    else
      (tB t (v0 + 1) 4 v3).bind fun x4 =>
      if ¬ (lg_cmp x4 v1) = 0 then
        tX8_houseNamed_L2 n v0 v1 (v3 + (1 : Int32)) t
      else
        some (.inr v3)
def tX8_houseNamed (a0 : Nat) (a1 : Int64) (t : tS) : Option (Int32) :=
  (tX8_houseNamed_L2 4000 a0 a1 ((0 : Int32)) t).bind fun o8 => match o8 with
    | .inl _ =>
      some ((-1 : Int32))
    | .inr y9 => some y9
set_option maxHeartbeats 4000000 in
set_option maxRecDepth 100000 in
theorem sX8_houseNamed_L2 : ∀ (n : Nat) (v0 : Nat) (v1 : Int64) (v3 : Int32) (h : am_H) (t : tS) (o : (Unit) ⊕ (Int32)), Rp h t → ly_Is 7 v0 → tX8_houseNamed_L2 n v0 v1 v3 t = some o → ex (fX8_houseNamed_L2 n v0 v1 v3 h) (fun p => match o, p with
    | .inl _, .inl _ => True
    | .inr y, .inr z => y = z
    | _, _ => False) := by
  intro n
  induction n with
  | zero => intro _ _ _ _ _ _ _ _ H; cases H
  | succ n ih =>
    intro v0 v1 v3 h t o hR_t i0 H
    rw [tX8_houseNamed_L2] at H
    rw [fX8_houseNamed_L2]
    refine ex.bd (r_gI hR_t (lc7 i0) rfl) ?_
    by_cases c2 : (t.1 v0 11) ≤ v3
    · rw [if_pos c2] at H
      refine ex.t c2 ?_
      obtain rfl := Option.some.inj H
      exact ex.nd trivial
    · rw [if_neg c2] at H
      refine ex.f c2 ?_
      refine ex.bd (r_gR hR_t (lc7 i0) rfl) ?_
      obtain ⟨x4, e5, H⟩ := am_bd H
      refine ex.bd (r_aL hR_t (la7_0 i0) e5) ?_
      by_cases c6 : ¬ (lg_cmp x4 v1) = 0
      · rw [if_pos c6] at H
        refine ex.t c6 ?_
        exact ih _ _ _ _ _ _ hR_t i0 H
      · rw [if_neg c6] at H
        refine ex.f c6 ?_
        obtain rfl := Option.some.inj H
        exact ex.nd rfl
set_option maxHeartbeats 4000000 in
set_option maxRecDepth 100000 in
theorem sX8_houseNamed {a0 : Nat} {a1 : Int64} {h : am_H} {t : tS} {r : Int32} (hR_t : Rp h t) (i0 : ly_Is 7 a0) (H : tX8_houseNamed a0 a1 t = some r) : ex (fX8_houseNamed a0 a1 h) (fun x => r = x) := by
  unfold tX8_houseNamed at H
  unfold fX8_houseNamed
  refine ex.bd (r_isO hR_t (lc7 i0)) ?_
  obtain ⟨o8, E7, H⟩ := am_bd H
  refine ex.j1 (sX8_houseNamed_L2 _ _ _ _ _ _ _ hR_t i0 E7) (fun p10 hq => ?_)
  clear E7
  rcases o8 with _ | y9
  · rcases p10 with _ | z11
    · dsimp only at H hq ⊢
      obtain rfl := Option.some.inj H
      exact ex.nd rfl
    · exact hq.elim
  · rcases p10 with _ | z11
    · exact hq.elim
    · dsimp only at H ⊢
      obtain rfl := Option.some.inj H
      exact ex.nd hq
