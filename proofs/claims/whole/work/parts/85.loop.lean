/-! ===== the law's loop ===== -/
section
variable {sc : Nat × (Nat → Int32)}
def LSt (N : Nat) (h : am_H) : Prop := ∃ t, Rp h t ∧ GR N t t
/-- two calls of a round -/
theorem ls2 {N : Nat} {h : am_H} {f9 f10 : am_H → Option (Int32 × am_H)} {g9 g10 : tS → Option (Int32 × tS)} (hs : LSt N h) (s9 : ∀ (h : am_H) (t : tS) (r : Int32) (t1 : tS), Rp h t → g9 t = some (r, t1) → ex (f9 h) (fun p => r = p.1 ∧ Rp p.2 t1)) (s10 : ∀ (h : am_H) (t : tS) (r : Int32) (t1 : tS), Rp h t → g10 t = some (r, t1) → ex (f10 h) (fun p => r = p.1 ∧ Rp p.2 t1)) (l9 : ∀ (h : am_H) (r : Int32) (h1 : am_H), f9 h = some (r, h1) → am_eqh h h1) (l10 : ∀ (h : am_H) (r : Int32) (h1 : am_H), f10 h = some (r, h1) → am_eqh h h1) (hq : ∀ t, GR N t t → QS (N + 1) g9 g10 t) : ∃ r h1 h2, f9 h = some (r, h1) ∧ f10 h1 = some (r, h2) ∧ LSt (N + 1) h2 ∧ am_eqh h h1 ∧ am_eqh h h2 := by
  obtain ⟨t, hR, hG⟩ := hs
  obtain ⟨r, t1, t2, e1, e2, e3⟩ := hq t hG
  obtain ⟨⟨r1, h1⟩, a1, a2, a3⟩ := s9 h t r t1 hR e1
  obtain ⟨⟨r2, h2⟩, b1, b2, b3⟩ := s10 h1 t1 r t2 a3 e2
  have a2 : r = r1 := a2
  have b2 : r = r2 := b2
  subst a2
  subst b2
  have q1 := l9 _ _ _ a1
  exact ⟨r, h1, h2, a1, b1, ⟨t2, b3, e3⟩, q1, q1.tr (l10 _ _ _ b1)⟩
theorem ls1 {N : Nat} {h : am_H} {f9 : am_H → Option Int32} {f10 : am_H → Option (Int32 × am_H)} {g9 : tS → Option Int32} {g10 : tS → Option (Int32 × tS)} (hs : LSt N h) (s9 : ∀ (h : am_H) (t : tS) (r : Int32), Rp h t → g9 t = some r → ex (f9 h) (fun x => r = x)) (s10 : ∀ (h : am_H) (t : tS) (r : Int32) (t1 : tS), Rp h t → g10 t = some (r, t1) → ex (f10 h) (fun p => r = p.1 ∧ Rp p.2 t1)) (l10 : ∀ (h : am_H) (r : Int32) (h1 : am_H), f10 h = some (r, h1) → am_eqh h h1) (hq : ∀ t, GR N t t → QT (N + 1) g9 g10 t) : ∃ r h2, f9 h = some r ∧ f10 h = some (r, h2) ∧ LSt (N + 1) h2 ∧ am_eqh h h2 := by
  obtain ⟨t, hR, hG⟩ := hs
  obtain ⟨r, t2, e1, e2, e3⟩ := hq t hG
  obtain ⟨r1, a1, a2⟩ := s9 h t r hR e1
  obtain ⟨⟨r2, h2⟩, b1, b2, b3⟩ := s10 h t r t2 hR e2
  have b2 : r = r2 := b2
  subst a2
  subst b2
  exact ⟨r, h2, a1, b1, ⟨t2, b3, e3⟩, l10 _ _ _ b1⟩
theorem Rp.push {h : am_H} {t : tS} (hR : Rp h t) : Rp (h ++ [.inr (10, [])]) t := by
  obtain ⟨⟨l1, l2, l3, l4⟩, rfl⟩ := hR
  have ge : ∀ (j : Nat) (e : va_E), h[j]? = some e → (h ++ [.inr (10, [])] : am_H)[j]? = some e := by
    intro j e hj
    have := (List.getElem?_eq_some_iff.mp hj).1
    rw [List.getElem?_append_left this]
    exact hj
  have no : ∀ (j : Nat), h[j]? = none → (h ++ [.inr (10, [])] : am_H)[j]? = none ∨ (h ++ [.inr (10, [])] : am_H)[j]? = some (.inr (10, [])) := by
    intro j hj
    have hl := List.getElem?_eq_none_iff.mp hj
    rw [List.getElem?_append_right hl]
    cases j - h.length with
    | zero => exact .inr rfl
    | succ k => exact .inl rfl
  refine ⟨⟨fun j s hs => ?_, fun i hi => ?_, fun i hi => ?_, fun k h1 h2 => ?_⟩, ?_⟩
  · obtain ⟨e, h1, h2⟩ := Option.map_eq_some_iff.mp (l1 j s hs)
    rw [ge j e h1]
    exact congrArg some h2
  · have := l2 i hi
    unfold am_aR at this ⊢
    cases hg : h[18]? with
    | none => rw [hg] at this; cases this
    | some e => rw [ge _ e hg]; rw [hg] at this; exact this
  · have := l3 i hi
    unfold am_aR at this ⊢
    cases hg : h[131]? with
    | none => rw [hg] at this; cases this
    | some e => rw [ge _ e hg]; rw [hg] at this; exact this
  · obtain ⟨r, g1, g2⟩ := l4 k h1 h2
    refine ⟨r, ?_, g2⟩
    obtain ⟨e, hg⟩ : ∃ e, h[0]? = some e := by
      obtain ⟨e, h1, -⟩ := Option.map_eq_some_iff.mp (l1 0 _ rfl)
      exact ⟨e, h1⟩
    have ge0 := ge 0 e hg
    unfold am_gR am_gF at g1 ⊢
    rw [ge0]
    rw [hg] at g1
    exact g1
  · have key : ∀ (j : Nat), (∃ e, h[j]? = some e ∧ (h ++ [.inr (10, [])] : am_H)[j]? = some e) ∨ (h[j]? = none ∧ ((h ++ [.inr (10, [])] : am_H)[j]? = none ∨ (h ++ [.inr (10, [])] : am_H)[j]? = some (.inr (10, [])))) := by
      intro j
      cases hj : h[j]? with
      | none => exact .inr ⟨rfl, no j hj⟩
      | some e => exact .inl ⟨e, rfl, ge j e hj⟩
    unfold Vw
    refine Prod.ext ?_ (Prod.ext ?_ (Prod.ext ?_ (Prod.ext ?_ ?_)))
    all_goals
      funext b k
      rcases key b with ⟨e, k1, k2⟩ | ⟨k1, k2 | k2⟩ <;> simp only [vI, vA, vB, vJ, vR, k1, k2] <;> rfl
/-- rests, and the reference's -/
theorem lsR {N : Nat} {h : am_H} (p0 p1 p2 p3 : Int32) (hs : LSt N h) (hN : N + 1 ≤ 1000) (hl : h.length < am_SB) : ∃ k h1 b h2, fL_rests 0 p0 p1 p2 p3 238 h = some (k, h1) ∧ fX10_rests 218 p0 p1 p2 p3 h1 = some (b, h2) ∧ fX10_thrown 218 h2 = some k ∧ (k = 0 → am_aL h2 238 0 = some b.toInt64) ∧ LSt (N + 1) h2 ∧ h1.length ≤ h.length + 1 ∧ h2.length ≤ h.length + 1 ∧ am_sl h2 ≤ am_sl h + 6 := by
  obtain ⟨t, hR, hG⟩ := hs
  obtain ⟨v, w, p, q, nh, nd, st, V, hP⟩ := hG
  obtain ⟨fs, o1, -⟩ := hR.1.ob (a := 0) rfl
  obtain ⟨e2, o2, o3⟩ := hR.1.at (j := 238) rfl
  obtain ⟨f, rfl⟩ : ∃ f, e2 = .inl (1, 1, .inr (.inl f)) := by
    rcases e2 with ⟨tg, n, b⟩ | ⟨ci, fs⟩
    · rcases b with b | b | b | b | b <;> cases o3
      exact ⟨_, rfl⟩
    · cases o3
  have gr : ∀ (x : Int32) (T : tS), (∀ b k, b < 218 → T.1 b k = t.1 b k) → T.2.1 = t.2.1 → (∀ b i, b ≠ 238 → T.2.2.1 b i = t.2.2.1 b i) → T.2.2.2.2 = t.2.2.2.2 → (∀ b k, 218 ≤ b → T.1 b k = (uI t 218 0 x).1 b k) → GR (N + 1) T T := by
    intro x T g1 g2 g3 g4 g5
    have h1 := (hP.q YQ.rf (ZQ.th (x := x) (.inl rfl))).mo (N1 := N + 1) (by omega) hN
    exact ⟨v, w, p, q, nh, nd, st, V, h1.two g1 (fun b i _ => by rw [g2]) (fun b i hb => g3 b i (by omega)) (by rw [g4]) g5 (fun b i _ => by rw [g2]; rfl) (fun b i _ hb => g3 b i hb)⟩
  have fe : fL_rests 0 p0 p1 p2 p3 238 h = (match am_rests p0 p1 p2 p3 with
    | some r => some (0, h.set 238 (.inl (1, 1, .inr (.inl (vp_updL f 0 r.toInt64)))))
    | none => if h.length < am_SB then some (1, h ++ [.inr (10, [])]) else none) := by
    unfold fL_rests
    rw [o1, o2]
    rfl
  cases hr : am_rests p0 p1 p2 p3 with
  | some r =>
    rw [hr] at fe
    have w0 : tWB t 238 1 0 r.toInt64 = some (uB t 238 0 r.toInt64) := tWB_e (k := 0) (by omega) (by omega)
    obtain ⟨h1, s1, s2⟩ := r_sL hR (a := 238) (n := 1) rfl w0
    have s3 : h1 = h.set 238 (.inl (1, 1, .inr (.inl (vp_updL f 0 r.toInt64)))) := by
      unfold am_sL at s1
      rw [o2] at s1
      have c : (1 = 1 ∧ ¬ ((0 : Int32) < 0 ∨ 1 ≤ (0 : Int32).toNatClampNeg)) := by decide
      have s1 : (if (1 = 1 ∧ ¬ ((0 : Int32) < 0 ∨ 1 ≤ (0 : Int32).toNatClampNeg)) then some (h.set 238 (.inl (1, 1, .inr (.inl (vp_updL f (0 : Int32).toNatClampNeg r.toInt64))))) else none) = some h1 := s1
      rw [if_pos c] at s1
      exact (Option.some.inj s1).symm
    have T1 : tX10_rests p0 p1 p2 p3 (uB t 238 0 r.toInt64) = some (r, uI (uB t 238 0 r.toInt64) 218 0 0) := by
      rcases rests_e p0 p1 p2 p3 (uB t 238 0 r.toInt64) with ⟨r', g1, g2⟩ | ⟨g1, _⟩
      · rw [hr] at g1
        cases g1
        exact g2
      · rw [hr] at g1
        cases g1
    obtain ⟨⟨b, h2⟩, u1, u2, u3⟩ := sX10_rests s2 T1
    have u2 : r = b := u2
    subst u2
    have u3 : Rp h2 (uI (uB t 238 0 r.toInt64) 218 0 0) := u3
    obtain ⟨x, y1, y2⟩ := sX10_thrown u3 rfl
    have y3 : (uI (uB t 238 0 r.toInt64) 218 0 0).1 218 0 = 0 := uI_s
    rw [y3] at y2
    subst y2
    have z1 : tB (uI (uB t 238 0 r.toInt64) 218 0 0) 238 1 0 = some r.toInt64 := by
      have := tB_e (t := uI (uB t 238 0 r.toInt64) 218 0 0) (a := 238) (n := 1) (k := 0) (by omega) (by omega)
      have e : (uI (uB t 238 0 r.toInt64) 218 0 0).2.2.1 238 0 = r.toInt64 := uB_s
      rw [e] at this
      exact this
    have z2 := r_aL u3 (a := 238) (n := 1) rfl z1
    have q1 : am_eqh h h1 := by
      rw [s3]
      exact ⟨by simp, am_sl_set o2 rfl⟩
    have q2 := q1.tr (am_na _ _ _ _ _ _ (by decide +kernel) (lX10_rests (sc := (0, fun _ => 0)) u1))
    refine ⟨0, h1, r, h2, fe.trans (by rw [s3]), u1, y1, fun _ => z2, ⟨_, u3, ?_⟩, by rw [q1.1]; omega, by rw [q2.1]; omega, by rw [q2.2]; omega⟩
    refine gr 0 _ (fun b k hb => uI_o (by omega)) rfl (fun b i hb => ?_) rfl (fun b k hb => ?_)
    · show (uB t 238 0 r.toInt64).2.2.1 b i = _
      exact uB_o (by omega)
    · rfl
  | none =>
    rw [hr] at fe
    have fe : fL_rests 0 p0 p1 p2 p3 238 h = (if h.length < am_SB then some (1, h ++ [.inr (10, [])]) else none) := fe
    rw [if_pos hl] at fe
    obtain ⟨x, T1⟩ : ∃ x, tX10_rests p0 p1 p2 p3 t = some (x, uI t 218 0 1) := by
      rcases rests_e p0 p1 p2 p3 t with ⟨r', g1, g2⟩ | ⟨_, g2⟩
      · rw [hr] at g1
        cases g1
      · exact g2
    obtain ⟨⟨b, h2⟩, u1, u2, u3⟩ := sX10_rests hR.push T1
    have u3 : Rp h2 (uI t 218 0 1) := u3
    obtain ⟨y, y1, y2⟩ := sX10_thrown u3 rfl
    have y3 : (uI t 218 0 1).1 218 0 = 1 := uI_s
    rw [y3] at y2
    subst y2
    have q2 := am_na _ _ _ _ _ _ (by decide +kernel) (lX10_rests (sc := (0, fun _ => 0)) u1)
    have e1 : (h ++ [.inr (10, [])] : am_H).length = h.length + 1 := by simp
    have e2 : am_sl (h ++ [.inr (10, [])]) = am_sl h + 6 := by
      rw [am_sl_push]
      rfl
    refine ⟨1, _, b, h2, fe, u1, y1, fun z => absurd z (by decide), ⟨_, u3, ?_⟩, by rw [e1]; omega, by rw [q2.1, e1]; omega, by rw [q2.2, e2]; omega⟩
    exact gr 1 _ (fun b k hb => uI_o (by omega)) rfl (fun _ _ _ => rfl) rfl (fun _ _ _ => rfl)
theorem nI_sub7 {a : Nat} (ha : a < 100000) : (nI a - (7 : Int32)).toInt = (a : Int) - 7 := by
  by_cases h : 7 ≤ a
  · rw [show (7 : Int32) = nI 7 from rfl, nN_su h, nN_toInt (by omega)]
    omega
  · have key : ∀ a < 7, (nI a - (7 : Int32)).toInt = (a : Int) - 7 := by decide
    exact key a (by omega)
theorem aS_e {h : am_H} {k : Nat} (hl : h.length ≤ am_SB) (hk : k < sc.1) (hs : sc.1 ≤ 3584) : am_aS sc h (nI k) = some (sc.2 k) := by
  have e : (nI k).toNatClampNeg = k := nN_tn (by omega)
  unfold am_aS
  rw [e, if_pos]
  refine ⟨hl, fun z => ?_⟩
  rcases z with z | z
  · rw [show (0 : Int32) = nI 0 from rfl, nN_lt (by omega) (by omega)] at z
    omega
  · omega
set_option maxHeartbeats 4000000 in
theorem lawL (hs3 : sc.1 ≤ 3584) : ∀ (r n N i : Nat) (h : am_H), LSt N h → N + r ≤ 1000 → i ≤ 3584 → sc.1 < i + 7 * r → r < n → h.length + r < 900000 → ∃ h', fL_law_L23 sc n 0 218 238 (nI i) h = some (.inl h') ∧ h'.length ≤ h.length + r ∧ am_sl h' ≤ am_sl h + 6 * r := by
  have lS : ∀ (h : am_H), h.length ≤ am_SB → am_lS sc h = some (nI sc.1) := fun h hl => by unfold am_lS; rw [if_pos hl]; rfl
  have ex0 : ∀ (n i : Nat) (h : am_H), h.length ≤ am_SB → i ≤ 3584 → sc.1 < i + 7 → fL_law_L23 sc (n + 1) 0 218 238 (nI i) h = some (.inl h) := by
    intro n i h hl hi hlt
    rw [fL_law_L23, lS h hl, ob_s]
    refine if_pos ?_
    rw [Int32.lt_iff_toInt_lt]
    have e1 : (nI i).toInt = (i : Int) := nN_toInt (by omega)
    have e2 : (nI sc.1 - (7 : Int32)).toInt = (sc.1 : Int) - 7 := nI_sub7 (by omega)
    rw [e1, e2]
    omega
  have SB : am_SB = 1000000 := rfl
  intro r
  induction r with
  | zero =>
    intro n N i h hs hN hi hlt hn hl
    obtain ⟨n, rfl⟩ : ∃ g, n = g + 1 := ⟨n - 1, by omega⟩
    exact ⟨h, ex0 n i h (by omega) hi (by omega), by omega, by omega⟩
  | succ r ih =>
    intro n N i h hs hN hi hlt hn hl
    obtain ⟨n, rfl⟩ : ∃ g, n = g + 1 := ⟨n - 1, by omega⟩
    by_cases hend : sc.1 < i + 7
    · exact ⟨h, ex0 n i h (by omega) hi hend, by omega, by omega⟩
    · have hlS : h.length ≤ am_SB := by omega
      have cond : ¬ (nI sc.1 - (7 : Int32)) < nI i := by
        rw [Int32.lt_iff_toInt_lt]
        have e1 : (nI i).toInt = (i : Int) := nN_toInt (by omega)
        have e2 : (nI sc.1 - (7 : Int32)).toInt = (sc.1 : Int) - 7 := nI_sub7 (by omega)
        rw [e1, e2]
        omega
      have fin : ∀ h2 : am_H, LSt (N + 1) h2 → h2.length ≤ h.length + 1 → am_sl h2 ≤ am_sl h + 6 → ∃ h', fL_law_L23 sc n 0 218 238 (nI i + (7 : Int32)) h2 = some (.inl h') ∧ h'.length ≤ h.length + (r + 1) ∧ am_sl h' ≤ am_sl h + 6 * (r + 1) := by
        intro h2 g1 g2 g3
        obtain ⟨h', k1, k2, k3⟩ := ih n (N + 1) (i + 7) h2 g1 (by omega) (by omega) (by omega) (by omega) (by omega)
        exact ⟨h', by rw [show nI i + (7 : Int32) = nI (i + 7) from nN_al i 7]; exact k1, by omega, by omega⟩
      have same : ∃ h', fL_law_L23 sc n 0 218 238 (nI i + (7 : Int32)) h = some (.inl h') ∧ h'.length ≤ h.length + (r + 1) ∧ am_sl h' ≤ am_sl h + 6 * (r + 1) := by
        obtain ⟨t, q1, v, w, p, q, nh, nd, st, V, q2⟩ := hs
        exact fin h ⟨t, q1, v, w, p, q, nh, nd, st, V, q2.mo (by omega) (by omega)⟩ (by omega) (by omega)
      have a0 : am_aS sc h (nI i) = some (sc.2 i) := aS_e hlS (by omega) hs3
      have a : ∀ (hh : am_H), hh.length ≤ am_SB → am_aS sc hh (nI i + (1 : Int32)) = some (sc.2 (i + 1)) ∧ am_aS sc hh (nI i + (2 : Int32)) = some (sc.2 (i + 2)) ∧ am_aS sc hh (nI i + (3 : Int32)) = some (sc.2 (i + 3)) ∧ am_aS sc hh (nI i + (4 : Int32)) = some (sc.2 (i + 4)) ∧ am_aS sc hh (nI i + (5 : Int32)) = some (sc.2 (i + 5)) ∧ am_aS sc hh (nI i + (6 : Int32)) = some (sc.2 (i + 6)) := by
        intro hh hx
        refine ⟨?_, ?_, ?_, ?_, ?_, ?_⟩
        · rw [show nI i + (1 : Int32) = nI (i + 1) from nN_al i 1]; exact aS_e hx (by omega) hs3
        · rw [show nI i + (2 : Int32) = nI (i + 2) from nN_al i 2]; exact aS_e hx (by omega) hs3
        · rw [show nI i + (3 : Int32) = nI (i + 3) from nN_al i 3]; exact aS_e hx (by omega) hs3
        · rw [show nI i + (4 : Int32) = nI (i + 4) from nN_al i 4]; exact aS_e hx (by omega) hs3
        · rw [show nI i + (5 : Int32) = nI (i + 5) from nN_al i 5]; exact aS_e hx (by omega) hs3
        · rw [show nI i + (6 : Int32) = nI (i + 6) from nN_al i 6]; exact aS_e hx (by omega) hs3
      obtain ⟨a1, a2, a3, a4, a5, a6⟩ := a h hlS
      rw [fL_law_L23, lS h hlS, ob_s, if_neg cond, a0, ob_s]
      by_cases hd : ((sc.2 i) &&& ((63 : Int32))).toInt < 0 ∨ 34 < ((sc.2 i) &&& ((63 : Int32))).toInt
      · rw [if_pos hd]
        exact same
      · rw [if_neg hd, ob_s]
        have hkk : (((sc.2 i) &&& ((63 : Int32))).toInt - 0).toNat < 35 := by omega
        generalize (((sc.2 i) &&& ((63 : Int32))).toInt - 0).toNat = kk at hkk ⊢
        by_cases c0 : kk = 0
        · rw [if_pos c0]
          obtain ⟨y, h1, h2, f1, f2, g1, g2, g3⟩ := ls2 (f9 := fX9_feed 0 (((sc.2 (i + 1)).toInt64 <<< (((32 : Int32)).toInt64 &&& 63)) ||| ((sc.2 (i + 2)).toInt64 &&& ((4294967295 : Int64)))) (((sc.2 (i + 3)).toInt64 <<< (((32 : Int32)).toInt64 &&& 63)) ||| ((sc.2 (i + 4)).toInt64 &&& ((4294967295 : Int64)))) (((sc.2 (i + 5)).toInt64 <<< (((32 : Int32)).toInt64 &&& 63)) ||| ((sc.2 (i + 6)).toInt64 &&& ((4294967295 : Int64))))) (f10 := fX10_feed 218 (((sc.2 (i + 1)).toInt64 <<< (((32 : Int32)).toInt64 &&& 63)) ||| ((sc.2 (i + 2)).toInt64 &&& ((4294967295 : Int64)))) (((sc.2 (i + 3)).toInt64 <<< (((32 : Int32)).toInt64 &&& 63)) ||| ((sc.2 (i + 4)).toInt64 &&& ((4294967295 : Int64)))) (((sc.2 (i + 5)).toInt64 <<< (((32 : Int32)).toInt64 &&& 63)) ||| ((sc.2 (i + 6)).toInt64 &&& ((4294967295 : Int64))))) hs (fun _ _ _ _ p q => sX9_feed p q) (fun _ _ _ _ p q => sX10_feed p q) (fun _ _ _ e => am_na _ _ _ _ _ _ (by decide +kernel) (lX9_feed (sc := sc) e)) (fun _ _ _ e => am_na _ _ _ _ _ _ (by decide +kernel) (lX10_feed (sc := sc) e)) (fun t g => c_feed g (by omega) _ _ _)
          obtain ⟨b1, b2, b3, b4, b5, b6⟩ := a h1 (by rw [g2.1]; exact hlS)
          simp only [a1, a2, a3, a4, a5, a6, ob_s, ob_2, f1, b1, b2, b3, b4, b5, b6, f2, if_true]
          exact fin h2 g1 (by rw [g3.1]; omega) (by rw [g3.2]; omega)
        rw [if_neg c0]
        by_cases c1 : kk = 1
        · rw [if_pos c1]
          obtain ⟨y, h1, h2, f1, f2, g1, g2, g3⟩ := ls2 (f9 := fX9_vale 0 ) (f10 := fX10_vale 218 ) hs (fun _ _ _ _ p q => sX9_vale p q) (fun _ _ _ _ p q => sX10_vale p q) (fun _ _ _ e => am_na _ _ _ _ _ _ (by decide +kernel) (lX9_vale (sc := sc) e)) (fun _ _ _ e => am_na _ _ _ _ _ _ (by decide +kernel) (lX10_vale (sc := sc) e)) (fun t g => c_vale g (by omega))
          obtain ⟨b1, b2, b3, b4, b5, b6⟩ := a h1 (by rw [g2.1]; exact hlS)
          simp only [a1, a2, a3, a4, a5, a6, ob_s, ob_2, f1, b1, b2, b3, b4, b5, b6, f2, if_true]
          exact fin h2 g1 (by rw [g3.1]; omega) (by rw [g3.2]; omega)
        rw [if_neg c1]
        by_cases c2 : kk = 2
        · rw [if_pos c2]
          obtain ⟨y, h1, h2, f1, f2, g1, g2, g3⟩ := ls2 (f9 := fX9_year 0 ) (f10 := fX10_year 218 ) hs (fun _ _ _ _ p q => sX9_year p q) (fun _ _ _ _ p q => sX10_year p q) (fun _ _ _ e => am_na _ _ _ _ _ _ (by decide +kernel) (lX9_year (sc := sc) e)) (fun _ _ _ e => am_na _ _ _ _ _ _ (by decide +kernel) (lX10_year (sc := sc) e)) (fun t g => c_year g (by omega))
          obtain ⟨b1, b2, b3, b4, b5, b6⟩ := a h1 (by rw [g2.1]; exact hlS)
          simp only [a1, a2, a3, a4, a5, a6, ob_s, ob_2, f1, b1, b2, b3, b4, b5, b6, f2, if_true]
          exact fin h2 g1 (by rw [g3.1]; omega) (by rw [g3.2]; omega)
        rw [if_neg c2]
        by_cases c3 : kk = 3
        · rw [if_pos c3]
          obtain ⟨y, h2, f1, f2, g1, g3⟩ := ls1 (f9 := fX9_house 0 (sc.2 (i + 1)) (sc.2 (i + 2))) (f10 := fX10_house 218 (sc.2 (i + 1)) (sc.2 (i + 2))) hs (fun _ _ _ p q => sX9_house p q) (fun _ _ _ _ p q => sX10_house p q) (fun _ _ _ e => am_na _ _ _ _ _ _ (by decide +kernel) (lX10_house (sc := sc) e)) (fun t g => c_house g (by omega) _ _)
          simp only [a1, a2, a3, a4, a5, a6, ob_s, ob_2, f1, f2, if_true]
          exact fin h2 g1 (by rw [g3.1]; omega) (by rw [g3.2]; omega)
        rw [if_neg c3]
        by_cases c4 : kk = 4
        · rw [if_pos c4]
          obtain ⟨y, h2, f1, f2, g1, g3⟩ := ls1 (f9 := fX9_day 0 (sc.2 (i + 1)) (sc.2 (i + 2))) (f10 := fX10_day 218 (sc.2 (i + 1)) (sc.2 (i + 2))) hs (fun _ _ _ p q => sX9_day p q) (fun _ _ _ _ p q => sX10_day p q) (fun _ _ _ e => am_na _ _ _ _ _ _ (by decide +kernel) (lX10_day (sc := sc) e)) (fun t g => c_day g (by omega) _ _)
          simp only [a1, a2, a3, a4, a5, a6, ob_s, ob_2, f1, f2, if_true]
          exact fin h2 g1 (by rw [g3.1]; omega) (by rw [g3.2]; omega)
        rw [if_neg c4]
        by_cases c5 : kk = 5
        · rw [if_pos c5]
          obtain ⟨y, h1, h2, f1, f2, g1, g2, g3⟩ := ls2 (f9 := fX9_date 0 ) (f10 := fX10_date 218 ) hs (fun _ _ _ _ p q => sX9_date p q) (fun _ _ _ _ p q => sX10_date p q) (fun _ _ _ e => am_na _ _ _ _ _ _ (by decide +kernel) (lX9_date (sc := sc) e)) (fun _ _ _ e => am_na _ _ _ _ _ _ (by decide +kernel) (lX10_date (sc := sc) e)) (fun t g => c_date g (by omega))
          obtain ⟨b1, b2, b3, b4, b5, b6⟩ := a h1 (by rw [g2.1]; exact hlS)
          simp only [a1, a2, a3, a4, a5, a6, ob_s, ob_2, f1, b1, b2, b3, b4, b5, b6, f2, if_true]
          exact fin h2 g1 (by rw [g3.1]; omega) (by rw [g3.2]; omega)
        rw [if_neg c5]
        by_cases c6 : kk = 6
        · rw [if_pos c6]
          obtain ⟨y, h1, h2, f1, f2, g1, g2, g3⟩ := ls2 (f9 := fX9_move 0 (sc.2 (i + 1)) (sc.2 (i + 2))) (f10 := fX10_move 218 (sc.2 (i + 1)) (sc.2 (i + 2))) hs (fun _ _ _ _ p q => sX9_move p q) (fun _ _ _ _ p q => sX10_move p q) (fun _ _ _ e => am_na _ _ _ _ _ _ (by decide +kernel) (lX9_move (sc := sc) e)) (fun _ _ _ e => am_na _ _ _ _ _ _ (by decide +kernel) (lX10_move (sc := sc) e)) (fun t g => c_move g (by omega) _ _)
          obtain ⟨b1, b2, b3, b4, b5, b6⟩ := a h1 (by rw [g2.1]; exact hlS)
          simp only [a1, a2, a3, a4, a5, a6, ob_s, ob_2, f1, b1, b2, b3, b4, b5, b6, f2, if_true]
          exact fin h2 g1 (by rw [g3.1]; omega) (by rw [g3.2]; omega)
        rw [if_neg c6]
        by_cases c7 : kk = 7
        · rw [if_pos c7]
          obtain ⟨y, h1, h2, f1, f2, g1, g2, g3⟩ := ls2 (f9 := fX9_send 0 (sc.2 (i + 1))) (f10 := fX10_send 218 (sc.2 (i + 1))) hs (fun _ _ _ _ p q => sX9_send p q) (fun _ _ _ _ p q => sX10_send p q) (fun _ _ _ e => am_na _ _ _ _ _ _ (by decide +kernel) (lX9_send (sc := sc) e)) (fun _ _ _ e => am_na _ _ _ _ _ _ (by decide +kernel) (lX10_send (sc := sc) e)) (fun t g => c_send g (by omega) _)
          obtain ⟨b1, b2, b3, b4, b5, b6⟩ := a h1 (by rw [g2.1]; exact hlS)
          simp only [a1, a2, a3, a4, a5, a6, ob_s, ob_2, f1, b1, b2, b3, b4, b5, b6, f2, if_true]
          exact fin h2 g1 (by rw [g3.1]; omega) (by rw [g3.2]; omega)
        rw [if_neg c7]
        by_cases c8 : kk = 8
        · rw [if_pos c8]
          obtain ⟨y, h1, h2, f1, f2, g1, g2, g3⟩ := ls2 (f9 := fX9_build 0 (sc.2 (i + 1))) (f10 := fX10_build 218 (sc.2 (i + 1))) hs (fun _ _ _ _ p q => sX9_build p q) (fun _ _ _ _ p q => sX10_build p q) (fun _ _ _ e => am_na _ _ _ _ _ _ (by decide +kernel) (lX9_build (sc := sc) e)) (fun _ _ _ e => am_na _ _ _ _ _ _ (by decide +kernel) (lX10_build (sc := sc) e)) (fun t g => c_build g (by omega) _)
          obtain ⟨b1, b2, b3, b4, b5, b6⟩ := a h1 (by rw [g2.1]; exact hlS)
          simp only [a1, a2, a3, a4, a5, a6, ob_s, ob_2, f1, b1, b2, b3, b4, b5, b6, f2, if_true]
          exact fin h2 g1 (by rw [g3.1]; omega) (by rw [g3.2]; omega)
        rw [if_neg c8]
        by_cases c9 : kk = 9
        · rw [if_pos c9]
          obtain ⟨y, h1, h2, f1, f2, g1, g2, g3⟩ := ls2 (f9 := fX9_undo 0 ) (f10 := fX10_undo 218 ) hs (fun _ _ _ _ p q => sX9_undo p q) (fun _ _ _ _ p q => sX10_undo p q) (fun _ _ _ e => am_na _ _ _ _ _ _ (by decide +kernel) (lX9_undo (sc := sc) e)) (fun _ _ _ e => am_na _ _ _ _ _ _ (by decide +kernel) (lX10_undo (sc := sc) e)) (fun t g => c_undo g (by omega))
          obtain ⟨b1, b2, b3, b4, b5, b6⟩ := a h1 (by rw [g2.1]; exact hlS)
          simp only [a1, a2, a3, a4, a5, a6, ob_s, ob_2, f1, b1, b2, b3, b4, b5, b6, f2, if_true]
          exact fin h2 g1 (by rw [g3.1]; omega) (by rw [g3.2]; omega)
        rw [if_neg c9]
        by_cases c10 : kk = 10
        · rw [if_pos c10]
          obtain ⟨y, h1, h2, f1, f2, g1, g2, g3⟩ := ls2 (f9 := fX9_judged 0 (sc.2 (i + 1))) (f10 := fX10_judged 218 (sc.2 (i + 1))) hs (fun _ _ _ _ p q => sX9_judged p q) (fun _ _ _ _ p q => sX10_judged p q) (fun _ _ _ e => am_na _ _ _ _ _ _ (by decide +kernel) (lX9_judged (sc := sc) e)) (fun _ _ _ e => am_na _ _ _ _ _ _ (by decide +kernel) (lX10_judged (sc := sc) e)) (fun t g => c_judged g (by omega) _)
          obtain ⟨b1, b2, b3, b4, b5, b6⟩ := a h1 (by rw [g2.1]; exact hlS)
          simp only [a1, a2, a3, a4, a5, a6, ob_s, ob_2, f1, b1, b2, b3, b4, b5, b6, f2, if_true]
          exact fin h2 g1 (by rw [g3.1]; omega) (by rw [g3.2]; omega)
        rw [if_neg c10]
        by_cases c11 : kk = 11
        · rw [if_pos c11]
          obtain ⟨y, h1, h2, f1, f2, g1, g2, g3⟩ := ls2 (f9 := fX9_where 0 (sc.2 (i + 1)) (sc.2 (i + 2))) (f10 := fX10_where 218 (sc.2 (i + 1)) (sc.2 (i + 2))) hs (fun _ _ _ _ p q => sX9_where p q) (fun _ _ _ _ p q => sX10_where p q) (fun _ _ _ e => am_na _ _ _ _ _ _ (by decide +kernel) (lX9_where (sc := sc) e)) (fun _ _ _ e => am_na _ _ _ _ _ _ (by decide +kernel) (lX10_where (sc := sc) e)) (fun t g => c_where g (by omega) _ _)
          obtain ⟨b1, b2, b3, b4, b5, b6⟩ := a h1 (by rw [g2.1]; exact hlS)
          simp only [a1, a2, a3, a4, a5, a6, ob_s, ob_2, f1, b1, b2, b3, b4, b5, b6, f2, if_true]
          exact fin h2 g1 (by rw [g3.1]; omega) (by rw [g3.2]; omega)
        rw [if_neg c11]
        by_cases c12 : kk = 12
        · rw [if_pos c12]
          obtain ⟨y, h1, h2, f1, f2, g1, g2, g3⟩ := ls2 (f9 := fX9_next 0 (sc.2 (i + 1))) (f10 := fX10_next 218 (sc.2 (i + 1))) hs (fun _ _ _ _ p q => sX9_next p q) (fun _ _ _ _ p q => sX10_next p q) (fun _ _ _ e => am_na _ _ _ _ _ _ (by decide +kernel) (lX9_next (sc := sc) e)) (fun _ _ _ e => am_na _ _ _ _ _ _ (by decide +kernel) (lX10_next (sc := sc) e)) (fun t g => c_next g (by omega) _)
          obtain ⟨b1, b2, b3, b4, b5, b6⟩ := a h1 (by rw [g2.1]; exact hlS)
          simp only [a1, a2, a3, a4, a5, a6, ob_s, ob_2, f1, b1, b2, b3, b4, b5, b6, f2, if_true]
          exact fin h2 g1 (by rw [g3.1]; omega) (by rw [g3.2]; omega)
        rw [if_neg c12]
        by_cases c13 : kk = 13
        · rw [if_pos c13]
          obtain ⟨y, h1, h2, f1, f2, g1, g2, g3⟩ := ls2 (f9 := fX9_gone 0 (sc.2 (i + 1))) (f10 := fX10_gone 218 (sc.2 (i + 1))) hs (fun _ _ _ _ p q => sX9_gone p q) (fun _ _ _ _ p q => sX10_gone p q) (fun _ _ _ e => am_na _ _ _ _ _ _ (by decide +kernel) (lX9_gone (sc := sc) e)) (fun _ _ _ e => am_na _ _ _ _ _ _ (by decide +kernel) (lX10_gone (sc := sc) e)) (fun t g => c_gone g (by omega) _)
          obtain ⟨b1, b2, b3, b4, b5, b6⟩ := a h1 (by rw [g2.1]; exact hlS)
          simp only [a1, a2, a3, a4, a5, a6, ob_s, ob_2, f1, b1, b2, b3, b4, b5, b6, f2, if_true]
          exact fin h2 g1 (by rw [g3.1]; omega) (by rw [g3.2]; omega)
        rw [if_neg c13]
        by_cases c14 : kk = 14
        · rw [if_pos c14]
          obtain ⟨y, h1, h2, f1, f2, g1, g2, g3⟩ := ls2 (f9 := fX9_crowd 0 ) (f10 := fX10_crowd 218 ) hs (fun _ _ _ _ p q => sX9_crowd p q) (fun _ _ _ _ p q => sX10_crowd p q) (fun _ _ _ e => am_na _ _ _ _ _ _ (by decide +kernel) (lX9_crowd (sc := sc) e)) (fun _ _ _ e => am_na _ _ _ _ _ _ (by decide +kernel) (lX10_crowd (sc := sc) e)) (fun t g => c_crowd g (by omega))
          obtain ⟨b1, b2, b3, b4, b5, b6⟩ := a h1 (by rw [g2.1]; exact hlS)
          simp only [a1, a2, a3, a4, a5, a6, ob_s, ob_2, f1, b1, b2, b3, b4, b5, b6, f2, if_true]
          exact fin h2 g1 (by rw [g3.1]; omega) (by rw [g3.2]; omega)
        rw [if_neg c14]
        by_cases c15 : kk = 15
        · rw [if_pos c15]
          obtain ⟨y, h1, h2, f1, f2, g1, g2, g3⟩ := ls2 (f9 := fX9_refused 0 (sc.2 (i + 1))) (f10 := fX10_refused 218 (sc.2 (i + 1))) hs (fun _ _ _ _ p q => sX9_refused p q) (fun _ _ _ _ p q => sX10_refused p q) (fun _ _ _ e => am_na _ _ _ _ _ _ (by decide +kernel) (lX9_refused (sc := sc) e)) (fun _ _ _ e => am_na _ _ _ _ _ _ (by decide +kernel) (lX10_refused (sc := sc) e)) (fun t g => c_refused g (by omega) _)
          obtain ⟨b1, b2, b3, b4, b5, b6⟩ := a h1 (by rw [g2.1]; exact hlS)
          simp only [a1, a2, a3, a4, a5, a6, ob_s, ob_2, f1, b1, b2, b3, b4, b5, b6, f2, if_true]
          exact fin h2 g1 (by rw [g3.1]; omega) (by rw [g3.2]; omega)
        rw [if_neg c15]
        by_cases c16 : kk = 16
        · rw [if_pos c16]
          obtain ⟨y, h1, h2, f1, f2, g1, g2, g3⟩ := ls2 (f9 := fX9_meets 0 (sc.2 (i + 1)) (sc.2 (i + 2))) (f10 := fX10_meets 218 (sc.2 (i + 1)) (sc.2 (i + 2))) hs (fun _ _ _ _ p q => sX9_meets p q) (fun _ _ _ _ p q => sX10_meets p q) (fun _ _ _ e => am_na _ _ _ _ _ _ (by decide +kernel) (lX9_meets (sc := sc) e)) (fun _ _ _ e => am_na _ _ _ _ _ _ (by decide +kernel) (lX10_meets (sc := sc) e)) (fun t g => c_meets g (by omega) _ _)
          obtain ⟨b1, b2, b3, b4, b5, b6⟩ := a h1 (by rw [g2.1]; exact hlS)
          simp only [a1, a2, a3, a4, a5, a6, ob_s, ob_2, f1, b1, b2, b3, b4, b5, b6, f2, if_true]
          exact fin h2 g1 (by rw [g3.1]; omega) (by rw [g3.2]; omega)
        rw [if_neg c16]
        by_cases c17 : kk = 17
        · rw [if_pos c17]
          obtain ⟨y, h1, h2, f1, f2, g1, g2, g3⟩ := ls2 (f9 := fX9_beds 0 (sc.2 (i + 1)) (sc.2 (i + 2))) (f10 := fX10_beds 218 (sc.2 (i + 1)) (sc.2 (i + 2))) hs (fun _ _ _ _ p q => sX9_beds p q) (fun _ _ _ _ p q => sX10_beds p q) (fun _ _ _ e => am_na _ _ _ _ _ _ (by decide +kernel) (lX9_beds (sc := sc) e)) (fun _ _ _ e => am_na _ _ _ _ _ _ (by decide +kernel) (lX10_beds (sc := sc) e)) (fun t g => c_beds g (by omega) _ _)
          obtain ⟨b1, b2, b3, b4, b5, b6⟩ := a h1 (by rw [g2.1]; exact hlS)
          simp only [a1, a2, a3, a4, a5, a6, ob_s, ob_2, f1, b1, b2, b3, b4, b5, b6, f2, if_true]
          exact fin h2 g1 (by rw [g3.1]; omega) (by rw [g3.2]; omega)
        rw [if_neg c17]
        by_cases c18 : kk = 18
        · rw [if_pos c18]
          obtain ⟨y, h1, h2, f1, f2, g1, g2, g3⟩ := ls2 (f9 := fX9_laying 0 ) (f10 := fX10_laying 218 ) hs (fun _ _ _ _ p q => sX9_laying p q) (fun _ _ _ _ p q => sX10_laying p q) (fun _ _ _ e => am_na _ _ _ _ _ _ (by decide +kernel) (lX9_laying (sc := sc) e)) (fun _ _ _ e => am_na _ _ _ _ _ _ (by decide +kernel) (lX10_laying (sc := sc) e)) (fun t g => c_laying g (by omega))
          obtain ⟨b1, b2, b3, b4, b5, b6⟩ := a h1 (by rw [g2.1]; exact hlS)
          simp only [a1, a2, a3, a4, a5, a6, ob_s, ob_2, f1, b1, b2, b3, b4, b5, b6, f2, if_true]
          exact fin h2 g1 (by rw [g3.1]; omega) (by rw [g3.2]; omega)
        rw [if_neg c18]
        by_cases c19 : kk = 19
        · rw [if_pos c19]
          obtain ⟨y, h1, h2, f1, f2, g1, g2, g3⟩ := ls2 (f9 := fX9_apart 0 ) (f10 := fX10_apart 218 ) hs (fun _ _ _ _ p q => sX9_apart p q) (fun _ _ _ _ p q => sX10_apart p q) (fun _ _ _ e => am_na _ _ _ _ _ _ (by decide +kernel) (lX9_apart (sc := sc) e)) (fun _ _ _ e => am_na _ _ _ _ _ _ (by decide +kernel) (lX10_apart (sc := sc) e)) (fun t g => c_apart g (by omega))
          obtain ⟨b1, b2, b3, b4, b5, b6⟩ := a h1 (by rw [g2.1]; exact hlS)
          simp only [a1, a2, a3, a4, a5, a6, ob_s, ob_2, f1, b1, b2, b3, b4, b5, b6, f2, if_true]
          exact fin h2 g1 (by rw [g3.1]; omega) (by rw [g3.2]; omega)
        rw [if_neg c19]
        by_cases c20 : kk = 20
        · rw [if_pos c20]
          obtain ⟨y, h1, h2, f1, f2, g1, g2, g3⟩ := ls2 (f9 := fX9_defer 0 (sc.2 (i + 1))) (f10 := fX10_defer 218 (sc.2 (i + 1))) hs (fun _ _ _ _ p q => sX9_defer p q) (fun _ _ _ _ p q => sX10_defer p q) (fun _ _ _ e => am_na _ _ _ _ _ _ (by decide +kernel) (lX9_defer (sc := sc) e)) (fun _ _ _ e => am_na _ _ _ _ _ _ (by decide +kernel) (lX10_defer (sc := sc) e)) (fun t g => c_defer g (by omega) _)
          obtain ⟨b1, b2, b3, b4, b5, b6⟩ := a h1 (by rw [g2.1]; exact hlS)
          simp only [a1, a2, a3, a4, a5, a6, ob_s, ob_2, f1, b1, b2, b3, b4, b5, b6, f2, if_true]
          exact fin h2 g1 (by rw [g3.1]; omega) (by rw [g3.2]; omega)
        rw [if_neg c20]
        by_cases c21 : kk = 21
        · rw [if_pos c21]
          obtain ⟨y, h1, h2, f1, f2, g1, g2, g3⟩ := ls2 (f9 := fX9_see 0 (sc.2 (i + 1)) (sc.2 (i + 2))) (f10 := fX10_see 218 (sc.2 (i + 1)) (sc.2 (i + 2))) hs (fun _ _ _ _ p q => sX9_see p q) (fun _ _ _ _ p q => sX10_see p q) (fun _ _ _ e => am_na _ _ _ _ _ _ (by decide +kernel) (lX9_see (sc := sc) e)) (fun _ _ _ e => am_na _ _ _ _ _ _ (by decide +kernel) (lX10_see (sc := sc) e)) (fun t g => c_see g (by omega) _ _)
          obtain ⟨b1, b2, b3, b4, b5, b6⟩ := a h1 (by rw [g2.1]; exact hlS)
          simp only [a1, a2, a3, a4, a5, a6, ob_s, ob_2, f1, b1, b2, b3, b4, b5, b6, f2, if_true]
          exact fin h2 g1 (by rw [g3.1]; omega) (by rw [g3.2]; omega)
        rw [if_neg c21]
        by_cases c22 : kk = 22
        · rw [if_pos c22]
          obtain ⟨y, h1, h2, f1, f2, g1, g2, g3⟩ := ls2 (f9 := fX9_who 0 ) (f10 := fX10_who 218 ) hs (fun _ _ _ _ p q => sX9_who p q) (fun _ _ _ _ p q => sX10_who p q) (fun _ _ _ e => am_na _ _ _ _ _ _ (by decide +kernel) (lX9_who (sc := sc) e)) (fun _ _ _ e => am_na _ _ _ _ _ _ (by decide +kernel) (lX10_who (sc := sc) e)) (fun t g => c_who g (by omega))
          obtain ⟨b1, b2, b3, b4, b5, b6⟩ := a h1 (by rw [g2.1]; exact hlS)
          simp only [a1, a2, a3, a4, a5, a6, ob_s, ob_2, f1, b1, b2, b3, b4, b5, b6, f2, if_true]
          exact fin h2 g1 (by rw [g3.1]; omega) (by rw [g3.2]; omega)
        rw [if_neg c22]
        by_cases c23 : kk = 23
        · rw [if_pos c23]
          obtain ⟨y, h1, h2, f1, f2, g1, g2, g3⟩ := ls2 (f9 := fX9_look 0 ) (f10 := fX10_look 218 ) hs (fun _ _ _ _ p q => sX9_look p q) (fun _ _ _ _ p q => sX10_look p q) (fun _ _ _ e => am_na _ _ _ _ _ _ (by decide +kernel) (lX9_look (sc := sc) e)) (fun _ _ _ e => am_na _ _ _ _ _ _ (by decide +kernel) (lX10_look (sc := sc) e)) (fun t g => c_look g (by omega))
          obtain ⟨b1, b2, b3, b4, b5, b6⟩ := a h1 (by rw [g2.1]; exact hlS)
          simp only [a1, a2, a3, a4, a5, a6, ob_s, ob_2, f1, b1, b2, b3, b4, b5, b6, f2, if_true]
          exact fin h2 g1 (by rw [g3.1]; omega) (by rw [g3.2]; omega)
        rw [if_neg c23]
        by_cases c24 : kk = 24
        · rw [if_pos c24]
          obtain ⟨y, h2, f1, f2, g1, g3⟩ := ls1 (f9 := fX9_through 0 (sc.2 (i + 1)) (sc.2 (i + 2))) (f10 := fX10_through 218 (sc.2 (i + 1)) (sc.2 (i + 2))) hs (fun _ _ _ p q => sX9_through p q) (fun _ _ _ _ p q => sX10_through p q) (fun _ _ _ e => am_na _ _ _ _ _ _ (by decide +kernel) (lX10_through (sc := sc) e)) (fun t g => c_through g (by omega) _ _)
          simp only [a1, a2, a3, a4, a5, a6, ob_s, ob_2, f1, f2, if_true]
          exact fin h2 g1 (by rw [g3.1]; omega) (by rw [g3.2]; omega)
        rw [if_neg c24]
        by_cases c25 : kk = 25
        · rw [if_pos c25]
          obtain ⟨y, h2, f1, f2, g1, g3⟩ := ls1 (f9 := fX9_quiet 0 ) (f10 := fX10_quiet 218 ) hs (fun _ _ _ p q => sX9_quiet p q) (fun _ _ _ _ p q => sX10_quiet p q) (fun _ _ _ e => am_na _ _ _ _ _ _ (by decide +kernel) (lX10_quiet (sc := sc) e)) (fun t g => c_quiet g (by omega))
          simp only [a1, a2, a3, a4, a5, a6, ob_s, ob_2, f1, f2, if_true]
          exact fin h2 g1 (by rw [g3.1]; omega) (by rw [g3.2]; omega)
        rw [if_neg c25]
        by_cases c26 : kk = 26
        · rw [if_pos c26]
          obtain ⟨y, h2, f1, f2, g1, g3⟩ := ls1 (f9 := fX9_peace 0 ) (f10 := fX10_peace 218 ) hs (fun _ _ _ p q => sX9_peace p q) (fun _ _ _ _ p q => sX10_peace p q) (fun _ _ _ e => am_na _ _ _ _ _ _ (by decide +kernel) (lX10_peace (sc := sc) e)) (fun t g => c_peace g (by omega))
          simp only [a1, a2, a3, a4, a5, a6, ob_s, ob_2, f1, f2, if_true]
          exact fin h2 g1 (by rw [g3.1]; omega) (by rw [g3.2]; omega)
        rw [if_neg c26]
        by_cases c27 : kk = 27
        · rw [if_pos c27]
          obtain ⟨y, h2, f1, f2, g1, g3⟩ := ls1 (f9 := fX9_loudest 0 ) (f10 := fX10_loudest 218 ) hs (fun _ _ _ p q => sX9_loudest p q) (fun _ _ _ _ p q => sX10_loudest p q) (fun _ _ _ e => am_na _ _ _ _ _ _ (by decide +kernel) (lX10_loudest (sc := sc) e)) (fun t g => c_loudest g (by omega))
          simp only [a1, a2, a3, a4, a5, a6, ob_s, ob_2, f1, f2, if_true]
          exact fin h2 g1 (by rw [g3.1]; omega) (by rw [g3.2]; omega)
        rw [if_neg c27]
        by_cases c28 : kk = 28
        · rw [if_pos c28]
          obtain ⟨y, h2, f1, f2, g1, g3⟩ := ls1 (f9 := fX9_eldest 0 (sc.2 (i + 1))) (f10 := fX10_eldest 218 (sc.2 (i + 1))) hs (fun _ _ _ p q => sX9_eldest p q) (fun _ _ _ _ p q => sX10_eldest p q) (fun _ _ _ e => am_na _ _ _ _ _ _ (by decide +kernel) (lX10_eldest (sc := sc) e)) (fun t g => c_eldest g (by omega) _)
          simp only [a1, a2, a3, a4, a5, a6, ob_s, ob_2, f1, f2, if_true]
          exact fin h2 g1 (by rw [g3.1]; omega) (by rw [g3.2]; omega)
        rw [if_neg c28]
        by_cases c29 : kk = 29
        · rw [if_pos c29]
          obtain ⟨y, h1, h2, f1, f2, g1, g2, g3⟩ := ls2 (f9 := fX9_spare 0 ) (f10 := fX10_spare 218 ) hs (fun _ _ _ _ p q => sX9_spare p q) (fun _ _ _ _ p q => sX10_spare p q) (fun _ _ _ e => am_na _ _ _ _ _ _ (by decide +kernel) (lX9_spare (sc := sc) e)) (fun _ _ _ e => am_na _ _ _ _ _ _ (by decide +kernel) (lX10_spare (sc := sc) e)) (fun t g => c_spare g (by omega))
          obtain ⟨b1, b2, b3, b4, b5, b6⟩ := a h1 (by rw [g2.1]; exact hlS)
          simp only [a1, a2, a3, a4, a5, a6, ob_s, ob_2, f1, b1, b2, b3, b4, b5, b6, f2, if_true]
          exact fin h2 g1 (by rw [g3.1]; omega) (by rw [g3.2]; omega)
        rw [if_neg c29]
        by_cases c30 : kk = 30
        · rw [if_pos c30]
          obtain ⟨y, h1, h2, f1, f2, g1, g2, g3⟩ := ls2 (f9 := fX9_chance 0 (sc.2 (i + 1)) (sc.2 (i + 2)) (sc.2 (i + 3))) (f10 := fX10_chance 218 (sc.2 (i + 1)) (sc.2 (i + 2)) (sc.2 (i + 3))) hs (fun _ _ _ _ p q => sX9_chance p q) (fun _ _ _ _ p q => sX10_chance p q) (fun _ _ _ e => am_na _ _ _ _ _ _ (by decide +kernel) (lX9_chance (sc := sc) e)) (fun _ _ _ e => am_na _ _ _ _ _ _ (by decide +kernel) (lX10_chance (sc := sc) e)) (fun t g => c_chance g (by omega) _ _ _)
          obtain ⟨b1, b2, b3, b4, b5, b6⟩ := a h1 (by rw [g2.1]; exact hlS)
          simp only [a1, a2, a3, a4, a5, a6, ob_s, ob_2, f1, b1, b2, b3, b4, b5, b6, f2, if_true]
          exact fin h2 g1 (by rw [g3.1]; omega) (by rw [g3.2]; omega)
        rw [if_neg c30]
        by_cases c31 : kk = 31
        · rw [if_pos c31]
          obtain ⟨k, h1, b, h2, f1, f2, f3, f4, g1, g2, g3, g4⟩ := lsR (sc.2 (i + 1)) (sc.2 (i + 2)) (sc.2 (i + 3)) (sc.2 (i + 4)) hs (by omega) (by omega)
          obtain ⟨b1, b2, b3, b4, b5, b6⟩ := a h1 (by omega)
          simp only [a1, a2, a3, a4, ob_s, ob_2, f1, b1, b2, b3, b4, f2, f3, if_true]
          by_cases k0 : k = 0
          · have lc : lg_cmp b.toInt64 b.toInt64 = 0 := (lg_cmp_eq _ _).2 rfl
            rw [if_neg (not_not_intro k0), f4 k0, ob_s, if_pos lc]
            exact fin h2 g1 g3 g4
          · rw [if_pos k0]
            exact fin h2 g1 g3 g4
        rw [if_neg c31]
        by_cases c32 : kk = 32
        · rw [if_pos c32]
          obtain ⟨y, h1, h2, f1, f2, g1, g2, g3⟩ := ls2 (f9 := fX9_ages 0 (sc.2 (i + 1)) (sc.2 (i + 2)) (sc.2 (i + 3))) (f10 := fX10_ages 218 (sc.2 (i + 1)) (sc.2 (i + 2)) (sc.2 (i + 3))) hs (fun _ _ _ _ p q => sX9_ages p q) (fun _ _ _ _ p q => sX10_ages p q) (fun _ _ _ e => am_na _ _ _ _ _ _ (by decide +kernel) (lX9_ages (sc := sc) e)) (fun _ _ _ e => am_na _ _ _ _ _ _ (by decide +kernel) (lX10_ages (sc := sc) e)) (fun t g => c_ages g (by omega) _ _ _)
          obtain ⟨b1, b2, b3, b4, b5, b6⟩ := a h1 (by rw [g2.1]; exact hlS)
          simp only [a1, a2, a3, a4, a5, a6, ob_s, ob_2, f1, b1, b2, b3, b4, b5, b6, f2, if_true]
          exact fin h2 g1 (by rw [g3.1]; omega) (by rw [g3.2]; omega)
        rw [if_neg c32]
        by_cases c33 : kk = 33
        · rw [if_pos c33]
          obtain ⟨x, hx⟩ : ∃ x : Int32, (if (sc.2 (i + 2)) = 0 then some ((0 : Int32)) else some ((1 : Int32))) = some x := by split <;> exact ⟨_, rfl⟩
          obtain ⟨y, h1, h2, f1, f2, g1, g2, g3⟩ := ls2 (f9 := fX9_mark 0 (sc.2 (i + 1)) x) (f10 := fX10_mark 218 (sc.2 (i + 1)) x) hs (fun _ _ _ _ p q => sX9_mark p q) (fun _ _ _ _ p q => sX10_mark p q) (fun _ _ _ e => am_na _ _ _ _ _ _ (by decide +kernel) (lX9_mark (sc := sc) e)) (fun _ _ _ e => am_na _ _ _ _ _ _ (by decide +kernel) (lX10_mark (sc := sc) e)) (fun t g => c_mark g (by omega) _ _)
          obtain ⟨b1, b2, b3, b4, b5, b6⟩ := a h1 (by rw [g2.1]; exact hlS)
          simp only [a1, a2, a3, a4, a5, a6, ob_s, ob_2, f1, b1, b2, b3, b4, b5, b6, f2, if_true, hx]
          exact fin h2 g1 (by rw [g3.1]; omega) (by rw [g3.2]; omega)
        rw [if_neg c33]
        by_cases c34 : kk = 34
        · rw [if_pos c34]
          obtain ⟨y, h2, f1, f2, g1, g3⟩ := ls1 (f9 := fX9_count 0 (sc.2 (i + 1))) (f10 := fX10_count 218 (sc.2 (i + 1))) hs (fun _ _ _ p q => sX9_count p q) (fun _ _ _ _ p q => sX10_count p q) (fun _ _ _ e => am_na _ _ _ _ _ _ (by decide +kernel) (lX10_count (sc := sc) e)) (fun t g => c_count g (by omega) _)
          simp only [a1, a2, a3, a4, a5, a6, ob_s, ob_2, f1, f2, if_true]
          exact fin h2 g1 (by rw [g3.1]; omega) (by rw [g3.2]; omega)
        rw [if_neg c34]
        exfalso
        omega
end
