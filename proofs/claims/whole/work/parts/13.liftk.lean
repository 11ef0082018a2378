/-! what isn't walked by the abstract machine; rows for the lifted methods -/
def am_sLen (t : Nat) : Option Int32 := if am_SB ≤ t ∧ t < am_SB + 25 then some (Int32.ofNat (am_byt.getD (t - am_SB) []).length) else none
def am_sCh (t : Nat) (j : Int32) : Option Int32 := if am_SB ≤ t ∧ t < am_SB + 25 ∧ ¬ (j < 0 ∨ (am_byt.getD (t - am_SB) []).length ≤ j.toNatClampNeg) then some ((am_byt.getD (t - am_SB) []).getD j.toNatClampNeg 0) else none
/-- rests, as the class tells it: a choice, how many (what NONE), or nothing such -/
def am_gain (own against lose sits gives : Int32) : Int32 := if own = 1 then (if against = 1 then -lose else sits) else (if against = 1 then gives else 0)
def am_rest1 (lose sits gives : Int32) (first other : Int32) : Bool := decide (am_gain (1 - first) other lose sits gives ≤ am_gain first other lose sits gives) && decide (am_gain (1 - other) first lose sits gives ≤ am_gain other first lose sits gives)
def am_restL (lose sits gives what : Int32) : List (Int32 × Int32 × Int32) → Int32 → Option Int32
  | [], found => if what = -1 then some found else none
  | q :: l, found => if am_rest1 lose sits gives q.2.1 q.2.2 = true then (if found = what then some q.1 else am_restL lose sits gives what l (found + 1)) else am_restL lose sits gives what l found
def am_rests (lose sits gives what : Int32) : Option Int32 := if 0 ≤ lose ∧ lose ≤ 9 ∧ 0 ≤ sits ∧ sits ≤ 9 ∧ 0 ≤ gives ∧ gives ≤ 9 then am_restL lose sits gives what [(0, 0, 0), (1, 0, 1), (2, 1, 0), (3, 1, 1)] 0 else none
def am_N (_ : Nat × (Nat → Int32)) : am_C := fun m As h v h' =>
  (m = 901 ∧ ∃ t x, As = [.ref t] ∧ am_sLen t = some x ∧ v = some (.int x) ∧ h' = h) ∨
  (m = 902 ∧ ∃ t j x, As = [.ref t, .int j] ∧ am_sCh t j = some x ∧ v = some (.int x) ∧ h' = h) ∨
  (m = 903 ∧ ∃ x p0 p1 p2 p3 o n f fs, As = [.ref x, .int p0, .int p1, .int p2, .int p3, .ref o] ∧ h[x]? = some (.inr (8, fs)) ∧ h[o]? = some (.inl (1, n, .inr (.inl f))) ∧ 0 < n ∧
    match am_rests p0 p1 p2 p3 with
    | some r => v = some (.int 0) ∧ h' = h.set o (.inl (1, n, .inr (.inl (vp_updL f 0 r.toInt64))))
    | none => v = some (.int 1) ∧ h.length < am_SB ∧ h' = h ++ [.inr (10, [])])
theorem am_cLen {sc : Nat × (Nat → Int32)} {d t : Nat} {x : Int32} {h : am_H} (e : am_sLen t = some x) : am_Cl am_T am_N sc (d + 9) 901 [.ref t] h (some (.int x)) h := Or.inr ⟨rfl, by omega, Or.inl ⟨rfl, t, x, rfl, e, rfl, rfl⟩⟩
theorem am_cCh {sc : Nat × (Nat → Int32)} {d t : Nat} {j x : Int32} {h : am_H} (e : am_sCh t j = some x) : am_Cl am_T am_N sc (d + 9) 902 [.ref t, .int j] h (some (.int x)) h := Or.inr ⟨rfl, by omega, Or.inr (Or.inl ⟨rfl, t, j, x, rfl, e, rfl, rfl⟩)⟩
theorem am_mk {sc : Nat × (Nat → Int32)} {d m : Nat} {q : am_Q} {As : List Value} {h h' : am_H} {v : Option Value} (hT : am_T m = some q) (hth : am_this q As h) (hin : q.2.2.2.2.1 = 2 → ∃ a r, As = .ref a :: r) (hl : (am_ent As).length ≤ q.2.2.1) (hn : As.length = q.2.2.2.2.2.1 + (if q.2.2.2.2.1 = 1 then 0 else 1))
    (key : am_G sc (am_Cl am_T am_N sc d) q.2.2.2.2.2.2 (fun t => t.2 = h' ∧ am_ret q.2.2.2.1 q.2.2.2.2.2.2 t.1 = some v) ((0, am_pad (am_ent As) q.2.2.1, []), h)) : am_Cl am_T am_N sc (d + 1) m As h v h' := by
  obtain ⟨⟨f, h9⟩, hR, h1, h2⟩ := key
  cases h1
  exact Or.inl ⟨q, f, hT, hth, hin, hl, hn, hR, h2⟩
theorem am_ret2 {cd : Nat → Option am_I} {pc : Nat} {ls : am_L} {z : Nat × Nat × Nat × Nat × Value} {x b : Int32} (hc : cd pc = some (.ireturn, z)) (e : am_z01 x = some b) : am_ret 2 cd (pc, ls, [.int x]) = some (some (.int b)) := by
  obtain ⟨z1, z2, z3, z4, z5⟩ := z
  unfold am_z01 at e
  split at e
  · rename_i hx
    cases e
    simp [am_ret, hc, hx]
  · cases e
def am_b2 {α β γ : Type} (o : Option (α × β)) (f : α → β → Option γ) : Option γ := o.bind fun p => f p.1 p.2
def am_b3 {α β γ δ : Type} (o : Option (α × β × γ)) (f : α → β → γ → Option δ) : Option δ := o.bind fun p => f p.1 p.2.1 p.2.2
def am_b4 {α β γ δ ε : Type} (o : Option (α × β × γ × δ)) (f : α → β → γ → δ → Option ε) : Option ε := o.bind fun p => f p.1 p.2.1 p.2.2.1 p.2.2.2
def am_b5 {α β γ δ ε ζ : Type} (o : Option (α × β × γ × δ × ε)) (f : α → β → γ → δ → ε → Option ζ) : Option ζ := o.bind fun p => f p.1 p.2.1 p.2.2.1 p.2.2.2.1 p.2.2.2.2
theorem am_bd2 {α β γ : Type} {o : Option (α × β)} {f : α → β → Option γ} {r : γ} (h : am_b2 o f = some r) : ∃ x y, o = some (x, y) ∧ f x y = some r := by
  obtain ⟨⟨x, y⟩, h1, h2⟩ := am_bd h
  exact ⟨x, y, h1, h2⟩
theorem am_bd3 {α β γ δ : Type} {o : Option (α × β × γ)} {f : α → β → γ → Option δ} {r : δ} (h : am_b3 o f = some r) : ∃ x y z, o = some (x, y, z) ∧ f x y z = some r := by
  obtain ⟨⟨x, y, z⟩, h1, h2⟩ := am_bd h
  exact ⟨x, y, z, h1, h2⟩
theorem am_bd4 {α β γ δ ε : Type} {o : Option (α × β × γ × δ)} {f : α → β → γ → δ → Option ε} {r : ε} (h : am_b4 o f = some r) : ∃ x y z w, o = some (x, y, z, w) ∧ f x y z w = some r := by
  obtain ⟨⟨x, y, z, w⟩, h1, h2⟩ := am_bd h
  exact ⟨x, y, z, w, h1, h2⟩
theorem am_bd5 {α β γ δ ε ζ : Type} {o : Option (α × β × γ × δ × ε)} {f : α → β → γ → δ → ε → Option ζ} {r : ζ} (h : am_b5 o f = some r) : ∃ x y z w u, o = some (x, y, z, w, u) ∧ f x y z w u = some r := by
  obtain ⟨⟨x, y, z, w, u⟩, h1, h2⟩ := am_bd h
  exact ⟨x, y, z, w, u, h1, h2⟩
theorem am_inj2 {α β : Type} {a c : α} {b d : β} (h : some (a, b) = some (c, d)) : a = c ∧ b = d := by cases h; exact ⟨rfl, rfl⟩
theorem am_inj3 {α β γ : Type} {a a' : α} {b b' : β} {c c' : γ} (h : some (a, b, c) = some (a', b', c')) : a = a' ∧ b = b' ∧ c = c' := by cases h; exact ⟨rfl, rfl, rfl⟩
theorem am_inj4 {α β γ δ : Type} {a a' : α} {b b' : β} {c c' : γ} {d d' : δ} (h : some (a, b, c, d) = some (a', b', c', d')) : a = a' ∧ b = b' ∧ c = c' ∧ d = d' := by cases h; exact ⟨rfl, rfl, rfl, rfl⟩
theorem am_inj5 {α β γ δ ε : Type} {a a' : α} {b b' : β} {c c' : γ} {d d' : δ} {e e' : ε} (h : some (a, b, c, d, e) = some (a', b', c', d', e')) : a = a' ∧ b = b' ∧ c = c' ∧ d = d' ∧ e = e' := by cases h; exact ⟨rfl, rfl, rfl, rfl, rfl⟩
