/-! ## soundness: calls, methods -/
/-- a method: its name, its bytes, its locals, what it gives back (0: nothing, 1: int, 2: boolean), its kind (0: of an object, 1: static, 2: a constructor), its parameters, its code -/
abbrev am_Q : Type := MethodName × ByteArray × Nat × Nat × Nat × Nat × (Nat → Option am_I)
def am_rt (rk : Nat) : Option FieldType := match rk with
  | 0 => none
  | 1 => some .int
  | _ => some .boolean
def am_cw (q : am_Q) : Cond := .code q.1 q.2.1 q.2.2.1 (am_rt q.2.2.2.1)
def am_ws0 (q : am_Q) : List Cond := am_cw q :: am_tb
/-- the words of a method that its callers need -/
def am_mw (q : am_Q) : List Cond := am_cw q :: .initialized q.1.cls :: (match q.2.2.2.2.1 with
  | 0 => [.instanceMethod q.1, .selects q.1.cls q.1 q.1]
  | 1 => [.static q.1]
  | _ => [.instanceMethod q.1])
def am_okW (q : am_Q) : Prop := (∀ w ∈ am_mw q, w ∈ am_tb) ∧ plainFor q.1 = true ∧ (q.1.cls ≠ "java/lang/invoke/MethodHandle" ∧ q.1.cls ≠ "java/lang/invoke/VarHandle") ∧ (parseMethodDescriptor q.1.desc).map (fun d => d.parameters.length) = some q.2.2.2.2.2.1 ∧ q.2.2.1 ≤ 45 ∧ (q.2.2.2.2.1 = 2 → q.1.name = "<init>" ∧ q.2.2.2.1 = 0)
/-- calls that the abstract machine doesn't walk: String.length, String.charAt, the law's own rests -/
def am_ckN (own : String) (i : am_I) : Bool := match i with
  | (.invokevirtual idx, _, 901, n, hint, _) => n == 1 && am_wd hint (.methodLink own idx yJ0_length_8abf5)
  | (.invokevirtual idx, _, 902, n, hint, _) => n == 2 && am_wd hint (.methodLink own idx yJ0_charAt_5068e)
  | (.invokestatic idx, _, 903, n, hint, _) => n == 6 && am_wd hint (.methodLink own idx yL_rests)
  | _ => false
def am_ckI (T : Nat → Option am_Q) (own : String) (i : am_I) : Bool := match am_inv i with
  | none => true
  | some (m, n) => match T m with
    | none => am_ckN own i
    | some q => match i with
      | (.invokevirtual idx, _, _, _, hint, _) => decide (q.2.2.2.2.1 = 0) && decide (n = q.2.2.2.2.2.1 + 1) && (am_wd hint (.methodLink own idx q.1) || am_wn hint (.methodLinkNest own idx q.1 "DateVale"))
      | (.invokestatic idx, _, _, _, hint, _) => decide (q.2.2.2.2.1 = 1) && decide (n = q.2.2.2.2.2.1) && (am_wd hint (.methodLink own idx q.1) || am_wn hint (.methodLinkNest own idx q.1 "DateVale"))
      | (.invokespecial idx, _, _, _, hint, _) => decide (q.2.2.2.2.1 = 2) && decide (n = q.2.2.2.2.2.1 + 1) && (am_wd hint (.methodLink own idx q.1) || am_wn hint (.methodLinkNest own idx q.1 "DateVale"))
      | _ => false
/-- that an instruction is the one of the bytes, and that its numbers are right -/
def am_okI (T : Nat → Option am_Q) (q : am_Q) (pc : Nat) (i : am_I) : Prop := decode q.2.1 pc = .ok (i.1, i.2.1) ∧ (am_isSw i.1 = false → i.2.1 = am_ln i.1) ∧ am_ck q.1.cls (q.2.2.2.2.1 == 2) i = true ∧ am_ckb pc i = true ∧ am_ckI T q.1.cls i = true
def am_okT (T : Nat → Option am_Q) : Prop := ∀ m q, T m = some q → am_okW q ∧ ∀ pc i, q.2.2.2.2.2.2 pc = some i → am_okI T q pc i
/-- the receiver is an object of the method's class -/
def am_this (q : am_Q) (As : List Value) (h : am_H) : Prop := q.2.2.2.2.1 = 0 → ∃ (a ci : Nat) (r : List Value) (fs : List Value) (z : vw_C), As = .ref a :: r ∧ h[a]? = some (.inr (ci, fs)) ∧ am_cl[ci]? = some z ∧ z.1 = q.1.cls
/-- a call, so deep at most (N: what isn't walked by the abstract machine) -/
def am_Cl (T : Nat → Option am_Q) (N : Nat × (Nat → Int32) → am_C) (sc : Nat × (Nat → Int32)) : Nat → am_C
  | 0 => fun _ _ _ _ _ => False
  | d + 1 => fun m As h v h' => (∃ q f, T m = some q ∧ am_this q As h ∧ (q.2.2.2.2.1 = 2 → ∃ a r, As = .ref a :: r) ∧ (am_ent As).length ≤ q.2.2.1 ∧ As.length = q.2.2.2.2.2.1 + (if q.2.2.2.2.1 = 1 then 0 else 1) ∧ am_Rch sc (am_Cl T N sc d) q.2.2.2.2.2.2 ((0, am_pad (am_ent As) q.2.2.1, []), h) (f, h') ∧ am_ret q.2.2.2.1 q.2.2.2.2.2.2 f = some v) ∨ (T m = none ∧ 8 ≤ d ∧ N sc m As h v h')
theorem am_Cl.mono1 {T : Nat → Option am_Q} {N : Nat × (Nat → Int32) → am_C} {sc : Nat × (Nat → Int32)} : ∀ (d : Nat) {m : Nat} {As : List Value} {h h' : am_H} {v : Option Value}, am_Cl T N sc d m As h v h' → am_Cl T N sc (d + 1) m As h v h' := by
  intro d
  induction d with
  | zero => intro m As h h' v e; exact e.elim
  | succ d ih =>
    intro m As h h' v e
    rcases e with ⟨q, f, h1, h2, h3, h4, h4b, ⟨n, h5⟩, h6⟩ | ⟨h1, h2, h3⟩
    · refine Or.inl ⟨q, f, h1, h2, h3, h4, h4b, ⟨n, ?_⟩, h6⟩
      clear h6 h4 h3 h2
      generalize ((0, am_pad (am_ent As) q.2.2.1, ([] : List Value)), h) = s0 at h5
      revert h5
      induction n generalizing s0 with
      | zero => intro h5; exact h5
      | succ n ihn =>
        rintro ⟨u, g1, g2⟩
        refine ⟨u, ?_, ihn u g2⟩
        rcases g1 with g1 | g1 | ⟨i, mm, k, As', rest, v', h'', g3, g4, g5, g6, g7, g8, g9⟩
        · exact Or.inl g1
        · exact Or.inr (Or.inl g1)
        · exact Or.inr (Or.inr ⟨i, mm, k, As', rest, v', h'', g3, g4, g5, g6, g7, ih g8, g9⟩)
    · exact Or.inr ⟨h1, by omega, h3⟩
theorem am_Cl.mono {T : Nat → Option am_Q} {N : Nat × (Nat → Int32) → am_C} {sc : Nat × (Nat → Int32)} {d d' : Nat} (hd : d ≤ d') {m : Nat} {As : List Value} {h h' : am_H} {v : Option Value} (e : am_Cl T N sc d m As h v h') : am_Cl T N sc d' m As h v h' := by
  obtain ⟨k, rfl⟩ := Nat.exists_eq_add_of_le hd
  induction k with
  | zero => exact e
  | succ k ih => exact am_Cl.mono1 _ (ih (by omega))
/-! ### the heap doesn't shrink -/
def am_le (h h' : am_H) : Prop := h.length ≤ h'.length ∧ am_sl h ≤ am_sl h'
theorem am_le.rf {h : am_H} : am_le h h := ⟨Nat.le_refl _, Nat.le_refl _⟩
theorem am_le.trans {a b c : am_H} (h : am_le a b) (g : am_le b c) : am_le a c := ⟨Nat.le_trans h.1 g.1, Nat.le_trans h.2 g.2⟩
theorem am_sl_set {h : am_H} {a : Nat} {e e' : va_E} (he : h[a]? = some e) (hs : am_slE e' = am_slE e) : am_sl (h.set a e') = am_sl h := by
  unfold am_sl
  rw [List.map_set]
  congr 1
  apply List.ext_getElem?
  intro j
  rw [List.getElem?_set]
  by_cases hj : a = j
  · subst hj
    have hl := (List.getElem?_eq_some_iff.mp he).1
    simp only [List.length_map, hl, if_true, List.getElem?_map, he, Option.map_some, hs]
  · simp [hj]
theorem am_le_set {h : am_H} {a : Nat} {e e' : va_E} (he : h[a]? = some e) (hs : am_slE e' = am_slE e) : am_le h (h.set a e') := ⟨by simp, by rw [am_sl_set he hs]; exact Nat.le_refl _⟩
theorem am_le_push (h : am_H) (e : va_E) : am_le h (h ++ [e]) := ⟨by simp, by rw [am_sl_push]; omega⟩
theorem am_h_le {sc : Nat × (Nat → Int32)} {i : am_I} {st st' : List Value} {h h' : am_H} (ee : am_h sc i st h = some (st', h')) : am_le h h' ∧ (h.length ≤ am_SB → h'.length ≤ am_SB) := by
  have fin0 : h' = h → am_le h h' ∧ (h.length ≤ am_SB → h'.length ≤ am_SB) := fun z => by subst z; exact ⟨am_le.rf, id⟩
  have finS : ∀ (a : Nat) (e0 e1 : va_E), h[a]? = some e0 → h' = h.set a e1 → am_slE e1 = am_slE e0 → am_le h h' ∧ (h.length ≤ am_SB → h'.length ≤ am_SB) := fun a e0 e1 g1 g3 g2 => by
    subst g3
    exact ⟨am_le_set g1 g2, fun z => by simpa using z⟩
  unfold am_h at ee
  split at ee
  · split at ee <;> cases ee
    exact fin0 rfl
  · split at ee <;> cases ee
    exact fin0 rfl
  · split at ee <;> cases ee
    exact fin0 rfl
  · split at ee <;> cases ee
    exact fin0 rfl
  · obtain ⟨v, -, hv⟩ := Option.map_eq_some_iff.mp ee
    cases hv
    exact fin0 rfl
  · obtain ⟨v, hg, hv⟩ := Option.map_eq_some_iff.mp ee
    cases hv
    obtain ⟨fs, h1, h2, h3, h4⟩ := am_pF_ok hg
    exact finS _ _ _ h1 h4 rfl
  · split at ee
    · cases ee
      exact fin0 rfl
    · split at ee <;> cases ee
      exact fin0 rfl
  · obtain ⟨v, -, hv⟩ := Option.map_eq_some_iff.mp ee
    cases hv
    exact fin0 rfl
  · obtain ⟨v, -, hv⟩ := Option.map_eq_some_iff.mp ee
    cases hv
    exact fin0 rfl
  · obtain ⟨v, -, hv⟩ := Option.map_eq_some_iff.mp ee
    cases hv
    exact fin0 rfl
  · obtain ⟨v, hg, hv⟩ := Option.map_eq_some_iff.mp ee
    cases hv
    obtain ⟨n, f, h1, -, h4⟩ := am_sI_ok hg
    exact finS _ _ _ h1 h4 rfl
  · obtain ⟨v, hg, hv⟩ := Option.map_eq_some_iff.mp ee
    cases hv
    obtain ⟨n, f, h1, -, h4⟩ := am_sI_ok hg
    exact finS _ _ _ h1 h4 rfl
  · obtain ⟨v, hg, hv⟩ := Option.map_eq_some_iff.mp ee
    cases hv
    obtain ⟨n, f, h1, -, h4⟩ := am_sL_ok hg
    exact finS _ _ _ h1 h4 rfl
  · obtain ⟨v, hg, hv⟩ := Option.map_eq_some_iff.mp ee
    cases hv
    obtain ⟨t, ci, n, f, vs, h1, -, -, -, h4⟩ := am_sR_ok hg
    exact finS _ _ _ h1 h4 rfl
  · split at ee
    · cases ee
      exact fin0 rfl
    · split at ee <;> cases ee
      exact fin0 rfl
  · split at ee
    · rename_i hlt
      obtain ⟨v, -, hv⟩ := Option.map_eq_some_iff.mp ee
      cases hv
      exact ⟨am_le_push _ _, fun _ => by simp; omega⟩
    · cases ee
  · split at ee
    · rename_i hlt
      cases ee
      exact ⟨am_le_push _ _, fun _ => by simp; omega⟩
    · cases ee
  · split at ee
    · rename_i hlt
      cases ee
      exact ⟨am_le_push _ _, fun _ => by simp; omega⟩
    · cases ee
  · split at ee
    · cases ee
      exact fin0 rfl
    · cases ee
  · split at ee
    · obtain ⟨v, hg, hv⟩ := Option.map_eq_some_iff.mp ee
      cases hv
      obtain ⟨n0, n1, f, g, -, h1, -, -, -, -, -, h4⟩ := am_cp_ok hg
      exact finS _ _ _ h1 h4 rfl
    · cases ee
  · cases ee
theorem am_s1_le {sc : Nat × (Nat → Int32)} {cd : Nat → Option am_I} {f f' : am_F} {h h' : am_H} (ee : am_s1 sc cd f h = some (f', h')) : am_le h h' ∧ (h.length ≤ am_SB → h'.length ≤ am_SB) := by
  unfold am_s1 at ee
  split at ee
  · cases ee
  · split at ee
    · cases ee; exact ⟨am_le.rf, id⟩
    · split at ee
      · split at ee
        · cases ee; exact ⟨am_le.rf, id⟩
        · cases ee
      · split at ee
        · rename_i q hq
          obtain ⟨st', h1⟩ := q
          cases ee
          exact am_h_le hq
        · cases ee
def am_Cle (C : am_C) : Prop := ∀ m As h v h', C m As h v h' → am_le h h' ∧ (h.length ≤ am_SB → h'.length ≤ am_SB)
theorem am_stp_le {sc : Nat × (Nat → Int32)} {C : am_C} {cd : Nat → Option am_I} (hC : am_Cle C) {s t : am_F × am_H} (e : am_stp sc C cd s t) : am_le s.2 t.2 ∧ (s.2.length ≤ am_SB → t.2.length ≤ am_SB) := by
  rcases e with e | ⟨ls', -, rfl⟩ | ⟨i, mm, k, As', rest, v', h'', -, -, -, -, -, g8, rfl⟩
  · exact am_s1_le (f' := t.1) (h' := t.2) e
  · exact ⟨am_le.rf, id⟩
  · exact hC _ _ _ _ _ g8
theorem am_rch_le {sc : Nat × (Nat → Int32)} {C : am_C} {cd : Nat → Option am_I} (hC : am_Cle C) : ∀ {n : Nat} {s t : am_F × am_H}, am_rch sc C cd n s t → am_le s.2 t.2 ∧ (s.2.length ≤ am_SB → t.2.length ≤ am_SB)
  | 0, s, t, e => by cases e; exact ⟨am_le.rf, id⟩
  | n + 1, s, t, ⟨u, h1, h2⟩ => by
    have a := am_stp_le hC h1
    have b := am_rch_le hC h2
    exact ⟨a.1.trans b.1, fun z => b.2 (a.2 z)⟩
theorem am_Cl_le {T : Nat → Option am_Q} {N : Nat × (Nat → Int32) → am_C} {sc : Nat × (Nat → Int32)} (hN : am_Cle (N sc)) : ∀ d, am_Cle (am_Cl T N sc d) := by
  intro d
  induction d with
  | zero => intro m As h v h' e; exact e.elim
  | succ d ih =>
    intro m As h v h' e
    rcases e with ⟨q, f, h1, h2, h3, h4, h4b, ⟨n, h5⟩, h6⟩ | ⟨h1, h2, h3⟩
    · exact am_rch_le ih h5
    · exact hN _ _ _ _ _ h3
