/-! ===== PURE: the law of fading is read: a part, and the whole ===== -/
section
variable {v nh nd st a b n m : Nat} {V : Nat → Nat → Nat} {S : Nat → Nat → Int32} {t0 t0' t t' : tS}
variable {c so pl bh : Nat → Nat} {L M k w : Nat}
theorem PC.fact (h : PC c L M so pl bh k t t') (hT : TK c L M so pl bh) : (∀ j, j < 4 → isw c so pl bh k (21 + j) = true → tX1_factOf t = some (- nI (1 + j))) ∧ ((∀ j, j < 4 → isw c so pl bh k (21 + j) = false) → tX1_factOf t = some 0) := by
  have w1 : tX7_isWord 1000021 t = some (bI (isw c so pl bh k 21)) := h.cw hT (i := 21) (by decide)
  have w2 : tX7_isWord 1000022 t = some (bI (isw c so pl bh k 22)) := h.cw hT (i := 22) (by decide)
  have w3 : tX7_isWord 1000023 t = some (bI (isw c so pl bh k 23)) := h.cw hT (i := 23) (by decide)
  have w4 : tX7_isWord 1000024 t = some (bI (isw c so pl bh k 24)) := h.cw hT (i := 24) (by decide)
  have e : tX1_factOf t = some (if isw c so pl bh k 21 = true then -1 else if isw c so pl bh k 22 = true then -2 else if isw c so pl bh k 23 = true then -3 else if isw c so pl bh k 24 = true then -4 else 0) := by
    unfold tX1_factOf
    rw [w1, ob_s, w2, ob_s, w3, ob_s, w4, ob_s]
    cases isw c so pl bh k 21 <;> cases isw c so pl bh k 22 <;> cases isw c so pl bh k 23 <;> cases isw c so pl bh k 24 <;> rfl
  refine ⟨fun j hj h1 => ?_, fun h1 => ?_⟩
  · have o : ∀ i, i < 4 → i ≠ j → isw c so pl bh k (21 + i) = false := fun i hi hij => isw_o (by omega) (by omega) h1 (by omega)
    obtain rfl | rfl | rfl | rfl : j = 0 ∨ j = 1 ∨ j = 2 ∨ j = 3 := by omega
    · rw [e, if_pos h1]; rfl
    · have o0 : isw c so pl bh k 21 = false := o 0 (by omega) (by omega)
      rw [e, o0, if_neg (by decide), if_pos h1]; rfl
    · have o0 : isw c so pl bh k 21 = false := o 0 (by omega) (by omega)
      have o1 : isw c so pl bh k 22 = false := o 1 (by omega) (by omega)
      rw [e, o0, o1, if_neg (by decide), if_neg (by decide), if_pos h1]; rfl
    · have o0 : isw c so pl bh k 21 = false := o 0 (by omega) (by omega)
      have o1 : isw c so pl bh k 22 = false := o 1 (by omega) (by omega)
      have o2 : isw c so pl bh k 23 = false := o 2 (by omega) (by omega)
      rw [e, o0, o1, o2, if_neg (by decide), if_neg (by decide), if_neg (by decide), if_pos h1]; rfl
  · have o0 : isw c so pl bh k 21 = false := h1 0 (by omega)
    have o1 : isw c so pl bh k 22 = false := h1 1 (by omega)
    have o2 : isw c so pl bh k 23 = false := h1 2 (by omega)
    have o3 : isw c so pl bh k 24 = false := h1 3 (by omega)
    rw [e, o0, o1, o2, o3]; rfl
theorem isw_so {i : Nat} (h : isw c so pl bh k i = true) : so k = 1 := by
  unfold isw at h
  simp only [Bool.and_eq_true, decide_eq_true_eq] at h
  exact h.1
theorem iss_so {x : Nat} (h : iss c so pl k x = true) : so k = 3 := by
  unfold iss at h
  simp only [Bool.and_eq_true, decide_eq_true_eq] at h
  exact h.1
theorem isw_no {i : Nat} (h : so k ≠ 1) : isw c so pl bh k i = false := by
  cases e : isw c so pl bh k i
  · rfl
  · exact absurd (isw_so e) h
theorem iss_no {x : Nat} (h : so k ≠ 3) : iss c so pl k x = false := by
  cases e : iss c so pl k x
  · rfl
  · exact absurd (iss_so e) h
theorem uI_cm {a i b j : Nat} {x y : Int32} (h : ¬ (a = b ∧ i = j)) : uI (uI t a i x) b j y = uI (uI t b j y) a i x := by
  refine Prod.ext ?_ rfl
  funext d l
  show (uI (uI t a i x) b j y).1 d l = (uI (uI t b j y) a i x).1 d l
  rw [uI_1, uI_1, uI_1, uI_1]
  by_cases h1 : d = a ∧ l = i
  · rw [if_neg (c := d = b ∧ l = j) (by omega), if_pos h1, if_pos h1]
  · rw [if_neg (c := d = a ∧ l = i) h1, if_neg (c := d = a ∧ l = i) h1]
theorem ob_id {α : Type} {X : Option α} : (X.bind fun x => some x) = X := by cases X <;> rfl
theorem fn0 : ∀ j, j < 4 → ¬ (- nI (1 + j)) = (0 : Int32) := by decide
theorem lpart {de n n' : Nat} (hT : TK c L M so pl bh) (hw : w = 182 ∨ w = 196) (hde : de ≤ 5) (hP : de < 5 → NXT c L M so pl bh w (4 * (de + 1) + 4) (4 * (4 - de)) (fun t => gtX1_readLevel n 1 (w + 11) 0 (nI (de + 1)) t) (fun t => gtX10_products n' 2 (nI (de + 1)) t)) (hW : de < 5 → NXT c L M so pl bh w (4 * (de + 1)) (4 * (4 - de) + 4) (fun t => gtX1_readLevel n 0 (w + 11) (nI 0) (nI (de + 1)) t) (fun t => gtX10_products n' 4 (nI (de + 1)) t)) : NXT c L M so pl bh w (4 * de + 4) (4 * (5 - de)) (fun t => gtX1_readLevel (n + 1) 1 (w + 11) 0 (nI de) t) (fun t => gtX10_products (n' + 1) 2 (nI de) t) := by
  have hM := hT.2.2.1
  have hL := hT.1
  intro k len p t t' h hp
  have so4 := hT.sob h.1.1
  have hk := h.1.1
  have hl := h.2.2.2.1
  obtain ⟨a1, a3, a4, a5, a6, a7⟩ := h.1.2.1
  obtain ⟨r1, r2, r3, r4, r5⟩ := h.1.2.2.1 k hk
  have m7 := h.1.2.2.2.2.1
  have m8 := h.1.2.2.2.2.2
  have tA0 : tA t' 220 1002 (nI k) = some (nI (so k)) := by rw [tA_e (by omega) (by omega), r1]
  have z0 : (nI 0 : Int32) ≤ 0 := by decide
  have w18 : tX7_isWord 1000018 t = some (bI (isw c so pl bh k 18)) := h.1.cw hT (i := 18) (by decide)
  have w40 : tX7_isSignOf 40 t = some (bI (iss c so pl k 40)) := h.1.cs hT (x := 40) (by decide)
  have m18 : tX10_isWord 18 t' = some (bI (isw c so pl bh k 18)) := h.1.mw hT (i := 18) (by decide)
  have m40 : tX10_isSign 40 t' = some (bI (iss c so pl k 40)) := h.1.ms hT (x := 40) (by decide)
  have h18 : tX10_hasWord 18 t' = some (bI (isw c so pl bh k 18), uI t' 218 7 (nI (if isw c so pl bh k 18 = true then k + 1 else k))) := h.1.hasW hT (i := 18) (by decide)
  have h40 : tX10_hasSign 40 t' = some (bI (iss c so pl k 40), uI t' 218 7 (nI (if iss c so pl k 40 = true then k + 1 else k))) := h.1.hasS hT (x := 40) (by decide)
  obtain ⟨y, y1, y2⟩ := h.1.wh hT (f := 21) (m := 4) (by decide)
  have y1' : tX10_wordHere 21 4 t' = some y := y1
  obtain ⟨f1, f2⟩ := h.1.fact hT
  obtain ⟨F5, c5, m5, g1, g2, g3⟩ := h.1.no hT (kd := 5) (by omega) (by omega)
  have g1' : tX7_refuse 5 t = some (0, c5) := g1
  have g2' : tX10_wrong 5 t' = some m5 := g2
  have bf : bI false = 0 := by decide
  have bt : ¬ bI true = 0 := by decide
  have d5 : (nI de < (5 : Int32)) ↔ de < 5 := nN_ltl (by omega) (by decide)
  have e5 : (nI de = (5 : Int32)) ↔ de = 5 := nN_eql (by omega) (by decide)
  have n5 : ¬ m5.1 218 8 ≤ 0 := g3.ft.nl
  have o01 : ¬ (1 : Int32) = 0 := by decide
  show OUT c L M so pl bh w k len (p + 1) (4 * (5 - de)) (gtX1_readLevel (n + 1) 1 (w + 11) 0 (nI de) t) (gtX10_products (n' + 1) 2 (nI de) t') t t'
  rw [gtX1_readLevel, if_neg (by decide), if_pos rfl, gtX10_products, if_neg (by decide), if_neg (by decide), if_pos rfl, w18, ob_s, w40, ob_s, m8, if_pos z0, m7, tA0, ob_s, y1']
  -- an item at this token
  have item : ∀ (x o g : Int32), k < M → p < 32 → LI x o g p (p + 1) → OUT c L M so pl bh w k len (p + 1) (4 * (5 - de)) ((tX7_step t).bind fun t1 => (tX1_add (w + 11) x t1).bind fun t2 => some ((1 : Int32), t2)) ((tX10_emit o g t').bind fun t1' => some (uI t1' 218 7 (t1'.1 218 7 + 1))) t t' := by
    intro x o g hkM hp32 hi
    obtain ⟨T, e1, e2, e3⟩ := h.1.step hT hkM
    have h2 := h.go hw e2 (by omega) e3.co (RO1.wI (.inl rfl))
    obtain ⟨t1, t1', b1, b2, b3, b4, b5⟩ := h2.add hT hw (by omega) hi
    have em := emit_e (o := o) (g := g) h.2.2.1 (by omega)
    have em2 := emit_e (t' := uI t' 218 7 (nI (k + 1))) (o := o) (g := g) (len := len) (by rw [uI_o (by omega)]; exact h.2.2.1) (by omega)
    have eq : uI (uI (uA (uA t' 225 (1100 + len) o) 226 (1100 + len) g) 218 13 (nI (len + 1))) 218 7 ((uI (uA (uA t' 225 (1100 + len) o) 226 (1100 + len) g) 218 13 (nI (len + 1))).1 218 7 + 1) = t1' := by
      rw [em2] at b2
      have b2 := Option.some.inj b2
      rw [← b2, uI_o (by omega)]
      show uI (uI (uA (uA t' 225 (1100 + len) o) 226 (1100 + len) g) 218 13 (nI (len + 1))) 218 7 (t'.1 218 7 + 1) = uI (uI (uA (uA t' 225 (1100 + len) o) 226 (1100 + len) g) 218 7 (nI (k + 1))) 218 13 (nI (len + 1))
      rw [m7, nN_al, uI_cm (by omega)]
    rw [e1, ob_s, b1, ob_s, em, ob_s, eq]
    exact .inl ⟨k + 1, len + 1, t1, t1', rfl, rfl, b3, by omega, by omega, e3.co.lc.tr b4, (RO1.wI (.inl rfl)).lm.tr b5⟩
  rcases y2 with ⟨rfl, y2⟩ | ⟨j, j1, rfl, j3⟩
  · rw [f2 y2]
    have n1 : ¬ (0 : Int32) ≤ -1 := by decide
    by_cases s2 : so k = 2
    · have i18 : isw c so pl bh k 18 = false := isw_no (by omega)
      have i40 : iss c so pl k 40 = false := iss_no (by omega)
      have e2 : nI (so k) = (2 : Int32) := by rw [s2]; rfl
      obtain ⟨q1, q2⟩ := hT.nb hk s2
      have tB0 : tB t' 222 1002 (nI k) = some (nL (tn c pl bh k)) := by rw [tB_e (by omega) (by omega), r4 s2]; rfl
      have v5 : t.1 1 5 = nI (tn c pl bh k) := a7 s2
      have cn : tX7_isNumber t = some (bI true) := by rw [h.1.cn hT, decide_eq_true s2]
      rw [i18] at h18
      rw [i40] at h40
      simp only [ob_s, i18, i40, bf, not_true_eq_false, if_false, cn, bt, not_false_eq_true, if_true, e2, n1, o01]
      by_cases hd : de < 5
      · have nd : ¬ nI de = (5 : Int32) := by rw [e5]; omega
        simp only [d5.2 hd, if_true, nd, not_false_eq_true, ob_s, m8, z0, h18, ob_2, h40, Bool.false_eq_true, if_false, h.1.id7, m7, tB0, nL_32, o01, v5]
        rw [ob_id]
        exact item (nI (tn c pl bh k)) 1 (nI (tn c pl bh k)) q1 (by omega) (.inl ⟨_, by unfold tn; omega, rfl, rfl, rfl, by omega, rfl⟩)
      · have nd : nI de = (5 : Int32) := by rw [e5]; omega
        simp only [d5, hd, if_false, nd, not_true_eq_false, ob_s, g1', g2', ob_2, z01_0, n5]
        exact g3.out h hT
    · have e2 : ¬ nI (so k) = (2 : Int32) := by rw [nN_eql (by omega) (by decide)]; exact s2
      cases i18 : isw c so pl bh k 18
      · cases i40 : iss c so pl k 40
        · rw [i18] at m18
          rw [i40] at m40
          obtain ⟨F1, c1, m1, k1, k2, k3⟩ := h.1.no hT (kd := 1) (by omega) (by omega)
          have k1' : tX7_refuse 1 t = some (0, c1) := k1
          have k2' : tX10_wrong 1 t' = some m1 := k2
          have nf : ¬ m1.1 218 8 ≤ 0 := k3.ft.nl
          simp only [ob_s, bf, not_true_eq_false, if_false, h.1.cn hT, s2, decide_false, not_false_eq_true, if_true, e2, n1, m18, m40, k1', k2', ob_2, z01_0, nf]
          exact k3.out h hT
        · have hkM := iss_m hT hk i40
          rw [i18] at m18 h18
          rw [i40] at m40 h40
          simp only [ob_s, bf, bt, not_true_eq_false, if_false, not_false_eq_true, if_true, e2, n1, m40]
          by_cases hd : de < 5
          · have nd : ¬ nI de = (5 : Int32) := by rw [e5]; omega
            obtain ⟨T, e1, e2, e3⟩ := h.1.step hT hkM
            have h2 := h.go hw e2 (by omega) e3.co (RO1.wI (.inl rfl))
            simp only [d5.2 hd, if_true, nd, not_false_eq_true, ob_s, m8, z0, h18, ob_2, bf, bt, Bool.false_eq_true, if_false, h.1.id7, h40, e1, nN_al]
            have z00 : (0 : Int32) = nI 0 := rfl
            rcases hW hd (k + 1) len p T _ h2 (by omega) with ⟨k1, len1, t1, t1', b1, b2, b3, b4, b5, b6, b7⟩ | ⟨F, cd, t1, t1', b1, b2, b3, b4, b5, b6, b7, b8, b9, b10⟩
            · have b1' : gtX1_readLevel n 0 (w + 11) 0 (nI (de + 1)) T = some (1, t1) := b1
              have b2' : gtX10_products n' 4 (nI (de + 1)) (uI t' 218 7 (nI (k + 1))) = some t1' := b2
              have o0 : ¬ (1 : Int32) = 0 := by decide
              rw [b1', b2', ob_2, if_neg o0, ob_s]
              rcases b3.1.pSign hT (x := 41) (by decide) with ⟨t2, t2', p1, p2, p3, p4, p5, p6⟩ | ⟨F, t2, t2', p1, p2, p3⟩
              · have p1' : tX7_passSign 41 t1 = some (1, t2) := p1
                have p2' : tX10_takeSign 41 t1' = some t2' := p2
                rw [p1', p2', ob_2, if_neg o0, ob_2, z01_1, ob_s, ob_s]
                exact .inl ⟨k1 + 1, len1, t2, t2', rfl, rfl, b3.go hw p3 (by omega) p4 p5, by omega, by omega, (e3.co.lc.tr b6).tr p4.lc, ((RO1.wI (.inl rfl)).lm.tr b7).tr p5.lm⟩
              · have p1' : tX7_passSign 41 t1 = some (0, t2) := p1
                have p2' : tX10_takeSign 41 t1' = some t2' := p2
                rw [p1', p2', ob_2, if_pos rfl, ob_2, z01_0, ob_s, ob_s]
                exact (p3.out (B := 4 * (5 - de)) b3 hT).co (F := 0) (t2 := t) (t2' := t) (e3.co.lc.tr b6) ((RO1.wI (.inl rfl)).lm.tr b7) (by omega) (by omega) (Nat.le_refl _)
            · have b1' : gtX1_readLevel n 0 (w + 11) 0 (nI (de + 1)) T = some (0, t1) := b1
              have b2' : gtX10_products n' 4 (nI (de + 1)) (uI t' 218 7 (nI (k + 1))) = some t1' := b2
              have ft : FT t1' := ⟨F, b3, b4, b6⟩
              rw [b1', b2', ob_2, if_pos rfl, ob_2, z01_0, ob_s, ob_s, ft.takeSign]
              exact .inr ⟨F, cd, t1, t1', rfl, rfl, b3, b4, b5, b6, b7, by omega, e3.co.lc.tr b9, (RO1.wI (.inl rfl)).lm.tr b10⟩
          · have nd : nI de = (5 : Int32) := by rw [e5]; omega
            simp only [d5, hd, if_false, nd, not_true_eq_false, ob_s, g1', g2', ob_2, z01_0, n5]
            exact g3.out h hT
      · have hkM := isw_m hT hk i18
        have i40 : iss c so pl k 40 = false := iss_no (by rw [isw_so i18]; decide)
        rw [i18] at m18 h18
        rw [i40] at m40 h40
        simp only [ob_s, i40, bf, bt, not_true_eq_false, if_false, not_false_eq_true, if_true, e2, n1, m40, m18]
        by_cases hd : de < 5
        · have nd : ¬ nI de = (5 : Int32) := by rw [e5]; omega
          obtain ⟨T, e1, e2, e3⟩ := h.1.step hT hkM
          have h2 := h.go hw e2 (by omega) e3.co (RO1.wI (.inl rfl))
          simp only [d5.2 hd, if_true, nd, not_false_eq_true, ob_s, m8, z0, h18, ob_2, bf, bt, Bool.false_eq_true, if_false, e1, nN_al]
          rcases hP hd (k + 1) len p T _ h2 (by omega) with ⟨k1, len1, t1, t1', b1, b2, b3, b4, b5, b6, b7⟩ | ⟨F, cd, t1, t1', b1, b2, b3, b4, b5, b6, b7, b8, b9, b10⟩
          · have b1' : gtX1_readLevel n 1 (w + 11) 0 (nI (de + 1)) T = some (1, t1) := b1
            have b2' : gtX10_products n' 2 (nI (de + 1)) (uI t' 218 7 (nI (k + 1))) = some t1' := b2
            have o0 : ¬ (1 : Int32) = 0 := by decide
            obtain ⟨t2, t2', q1, q2, q3, q4, q5⟩ := b3.add hT hw (x := -5) (o := 3) (g := 0) (q := p + 1) (by have := b3.2.2.2.1; omega) (.inr (.inr (.inl ⟨rfl, rfl, by omega, rfl⟩)))
            rw [b1', b2', ob_2, if_pos o0, ob_s, q1, q2, ob_s, ob_s]
            exact .inl ⟨k1, len1 + 1, t2, t2', rfl, rfl, q3, by omega, by omega, (e3.co.lc.tr b6).tr q4, ((RO1.wI (.inl rfl)).lm.tr b7).tr q5⟩
          · have b1' : gtX1_readLevel n 1 (w + 11) 0 (nI (de + 1)) T = some (0, t1) := b1
            have b2' : gtX10_products n' 2 (nI (de + 1)) (uI t' 218 7 (nI (k + 1))) = some t1' := b2
            rw [b1', b2', ob_2, if_neg (by decide), ob_s, emit_e b7 (by omega), ob_s]
            exact .inr ⟨F, cd + 1, t1, _, rfl, rfl, b3, b4, b5, by rw [uI_o (by omega)]; exact b6, uI_s, by omega, e3.co.lc.tr b9, ((RO1.wI (.inl rfl)).lm.tr b10).tr LM.em⟩
        · have nd : nI de = (5 : Int32) := by rw [e5]; omega
          simp only [d5, hd, if_false, nd, not_true_eq_false, ob_s, g1', g2', ob_2, z01_0, n5]
          exact g3.out h hT
  · have s1 : so k = 1 := isw_so j3
    have i18 : isw c so pl bh k 18 = false := isw_o (by omega) (by omega) j3 (by omega)
    have i40 : iss c so pl k 40 = false := iss_no (by omega)
    have e2 : ¬ nI (so k) = (2 : Int32) := by rw [s1]; decide
    have hkM := isw_m hT hk j3
    have x0 := fn0 j j1
    have y0 : (0 : Int32) ≤ nI j := (nN_le (a := 0) (b := j) (by decide) (by omega)).2 (Nat.zero_le _)
    rw [i18] at h18
    rw [i40] at h40
    rw [f1 j j1 j3]
    simp only [ob_s, i18, i40, bf, not_true_eq_false, if_false, not_false_eq_true, if_true, e2, y0, x0]
    by_cases hd : de < 5
    · have nd : ¬ nI de = (5 : Int32) := by rw [e5]; omega
      simp only [d5.2 hd, if_true, nd, not_false_eq_true, ob_s, m8, z0, h18, ob_2, h40, bf, Bool.false_eq_true, if_false, h.1.id7]
      rw [ob_id]
      exact item (- nI (1 + j)) 2 (nI j) hkM (by omega) (.inr (.inl ⟨j, j1, rfl, rfl, rfl, by omega, rfl⟩))
    · have nd : nI de = (5 : Int32) := by rw [e5]; omega
      simp only [d5, hd, if_false, nd, not_true_eq_false, ob_s, g1', g2', ob_2, z01_0, n5]
      exact g3.out h hT
/-- all levels of one depth -/
theorem levels {de n n' B : Nat} (hT : TK c L M so pl bh) (hw : w = 182 ∨ w = 196) (hB : B ≤ 40) (hP : NXT c L M so pl bh w (4 * de + 4) B (fun t => gtX1_readLevel n 1 (w + 11) 0 (nI de) t) (fun t => gtX10_products n' 2 (nI de) t)) : NXT c L M so pl bh w (4 * de) (B + 4) (fun t => gtX1_readLevel (n + 5) 0 (w + 11) (nI 0) (nI de) t) (fun t => gtX10_products (n' + 4) 4 (nI de) t) := by
  have L4 : NXT c L M so pl bh w (4 * de + 3 + 1) B (fun t => gtX1_readLevel (n + 1) 0 (w + 11) (nI (3 + 1)) (nI de) t) (fun t => gtX10_products n' 2 (nI de) t) := by
    intro k len p t t' h hp
    show OUT c L M so pl bh w k len (p + 1) B (gtX1_readLevel (n + 1) 0 (w + 11) (nI (3 + 1)) (nI de) t) (gtX10_products n' 2 (nI de) t') t t'
    rw [gtX1_readLevel, if_pos rfl, if_neg (by decide)]
    rcases hP k len p t t' h hp with ⟨k1, len1, t1, t1', b1, b2, b3⟩ | ⟨F, cd, t1, t1', b1, b2, b3⟩
    · have b1' : gtX1_readLevel n 1 (w + 11) 0 (nI de) t = some (1, t1) := b1
      rw [b1', ob_2, z01_1, ob_s]
      exact .inl ⟨k1, len1, t1, t1', rfl, b2, b3⟩
    · have b1' : gtX1_readLevel n 1 (w + 11) 0 (nI de) t = some (0, t1) := b1
      rw [b1', ob_2, z01_0, ob_s]
      exact .inr ⟨F, cd, t1, t1', rfl, b2, b3⟩
  have L3 := lvN (lv := 3) hT hw (by omega) (by omega) (by omega) (loop3 (n := n') (de := nI de) hT) L4
  have E3 : (fun t => gtX10_products (n' + 1) 0 (nI de) t) = (fun t' => (gtX10_products n' 2 (nI de) t').bind fun t3 => (tX10_products_L5 (gtX10_products n') 4000 (nI de) t3).bind fun t4 => some t4) := by
    funext t
    rw [gtX10_products, if_pos rfl]
  rw [← E3] at L3
  have L2 := lvN (lv := 2) (P := 4 * de + 2) hT hw (by omega) (by omega) (by omega) (loop2 (n := n' + 1) (de := nI de) hT) L3
  have E2 : (fun t => gtX10_products (n' + 2) 1 (nI de) t) = (fun t' => (gtX10_products (n' + 1) 0 (nI de) t').bind fun t3 => (tX10_sums_L5 (gtX10_products (n' + 1)) 4000 (nI de) t3).bind fun t4 => some t4) := by
    funext t
    rw [gtX10_products, if_neg (by decide), if_pos rfl]
  rw [← E2] at L2
  have L1 := lv1 (P := 4 * de + 1) hT hw (by omega) L2
  have L0 := lvN (lv := 0) (P := 4 * de) hT hw (by omega) (by omega) (by omega) (loop0 (n := n' + 3) (de := nI de) hT) L1
  have E0 : (fun t => gtX10_products (n' + 4) 4 (nI de) t) = (fun t' => (gtX10_products (n' + 3) 3 (nI de) t').bind fun t3 => (tX10_whole_L5 (gtX10_products (n' + 3)) 4000 (nI de) t3).bind fun t4 => some t4) := by
    funext t
    rw [gtX10_products, if_neg (by decide), if_neg (by decide), if_neg (by decide), if_neg (by decide), if_pos rfl]
  rw [← E0] at L0
  exact L0
theorem parts (hT : TK c L M so pl bh) (hw : w = 182 ∨ w = 196) : ∀ (r de n n' : Nat), de + r = 5 → 6 * r < n → 5 * r < n' → NXT c L M so pl bh w (4 * de + 4) (4 * r) (fun t => gtX1_readLevel n 1 (w + 11) 0 (nI de) t) (fun t => gtX10_products n' 2 (nI de) t) := by
  intro r
  induction r with
  | zero =>
    intro de n n' hd hn hn'
    obtain ⟨n, rfl⟩ : ∃ g, n = g + 1 := ⟨n - 1, by omega⟩
    obtain ⟨n', rfl⟩ : ∃ g, n' = g + 1 := ⟨n' - 1, by omega⟩
    have := lpart (n := n) (n' := n') hT hw (de := de) (by omega) (fun z => by omega) (fun z => by omega)
    rw [show 4 * 0 = 4 * (5 - de) by omega]
    exact this
  | succ r ih =>
    intro de n n' hd hn hn'
    obtain ⟨n, rfl⟩ : ∃ g, n = g + 1 := ⟨n - 1, by omega⟩
    obtain ⟨n', rfl⟩ : ∃ g, n' = g + 1 := ⟨n' - 1, by omega⟩
    have i1 := ih (de + 1) n n' (by omega) (by omega) (by omega)
    have i2 := levels hT hw (by omega) (ih (de + 1) (n - 5) (n' - 4) (by omega) (by omega) (by omega))
    rw [show n - 5 + 5 = n by omega, show n' - 4 + 4 = n' by omega] at i2
    rw [show 4 * (r + 1) = 4 * (5 - de) by omega]
    rw [show 4 * r = 4 * (4 - de) by omega] at i1 i2
    exact lpart hT hw (by omega) (fun _ => i1) (fun _ => i2)
/-- a law, from its first token -/
theorem law_e {n n' : Nat} (hT : TK c L M so pl bh) (hw : w = 182 ∨ w = 196) (hn : 40 ≤ n) (hn' : 40 ≤ n') : NXT c L M so pl bh w 0 24 (fun t => gtX1_readLevel n 0 (w + 11) 0 0 t) (fun t => gtX10_products n' 4 0 t) := by
  have h := levels hT hw (by omega) (parts (c := c) (L := L) (M := M) (so := so) (pl := pl) (bh := bh) (w := w) hT hw 5 0 (n - 5) (n' - 4) (by omega) (by omega) (by omega))
  rw [show n - 5 + 5 = n by omega, show n' - 4 + 4 = n' by omega] at h
  exact h
end
