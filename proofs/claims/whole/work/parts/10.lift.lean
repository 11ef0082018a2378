/-! ## lifting: pure functions over the abstract heap -/
/-- the machine comes from s to a state with P -/
def am_G (sc : Nat × (Nat → Int32)) (C : am_C) (cd : Nat → Option am_I) (P : am_F × am_H → Prop) (s : am_F × am_H) : Prop := ∃ t, am_Rch sc C cd s t ∧ P t
def am_gI (h : am_H) (a ci k : Nat) : Option Int32 := match am_gF h a ci k with
  | some (.int x) => some x
  | _ => none
def am_gL (h : am_H) (a ci k : Nat) : Option Int64 := match am_gF h a ci k with
  | some (.long x) => some x
  | _ => none
def am_gR (h : am_H) (a ci k : Nat) : Option Nat := match am_gF h a ci k with
  | some (.ref x) => some x
  | _ => none
def am_isO (h : am_H) (a ci : Nat) : Option Unit := match h[a]? with
  | some (.inr (c, _)) => if c = ci then some () else none
  | _ => none
def am_dv (x y : Int32) : Option Int32 := if y = 0 then none else some (x / y)
def am_rm' (x y : Int32) : Option Int32 := if y = 0 then none else some (x - x / y * y)
def am_dvL (x y : Int64) : Option Int64 := if y = 0 then none else some (x / y)
def am_rmL (x y : Int64) : Option Int64 := if y = 0 then none else some (x - x / y * y)
def am_z01 (x : Int32) : Option Int32 := if x = 0 ∨ x = 1 then some x else none
theorem am_bd {α β : Type} {o : Option α} {f : α → Option β} {r : β} (h : o.bind f = some r) : ∃ x, o = some x ∧ f x = some r := Option.bind_eq_some_iff.mp h
theorem am_gI_ok {h : am_H} {a ci k : Nat} {x : Int32} (e : am_gI h a ci k = some x) : am_gF h a ci k = some (.int x) := by
  unfold am_gI at e
  split at e
  · cases e; assumption
  · cases e
theorem am_gL_ok {h : am_H} {a ci k : Nat} {x : Int64} (e : am_gL h a ci k = some x) : am_gF h a ci k = some (.long x) := by
  unfold am_gL at e
  split at e
  · cases e; assumption
  · cases e
theorem am_gR_ok {h : am_H} {a ci k : Nat} {x : Nat} (e : am_gR h a ci k = some x) : am_gF h a ci k = some (.ref x) := by
  unfold am_gR at e
  split at e
  · cases e; assumption
  · cases e
theorem am_isO_ok {h : am_H} {a ci : Nat} {u : Unit} (e : am_isO h a ci = some u) : ∃ fs, h[a]? = some (.inr (ci, fs)) := by
  unfold am_isO at e
  split at e
  · split at e
    · rename_i h1 h2
      subst h2
      exact ⟨_, h1⟩
    · cases e
  · cases e
section AML
variable {sc : Nat × (Nat → Int32)} {C : am_C} {cd : Nat → Option am_I} {P : am_F × am_H → Prop} {pc : Nat} {ls : am_L} {r : List Value} {h h' : am_H}
theorem am_G.nd {s : am_F × am_H} (hp : P s) : am_G sc C cd P s := ⟨s, am_Rch.rf, hp⟩
theorem am_G.sq {s t : am_F × am_H} (h1 : am_G sc C cd (fun u => u = t) s) (h2 : am_G sc C cd P t) : am_G sc C cd P s := by
  obtain ⟨_, a, rfl⟩ := h1
  obtain ⟨u, b, c⟩ := h2
  exact ⟨u, a.trans b, c⟩
theorem am_G.rc {s t : am_F × am_H} (h1 : ∀ u, am_Rch sc C cd t u → am_Rch sc C cd s u) (h2 : am_G sc C cd P t) : am_G sc C cd P s := by
  obtain ⟨u, b, c⟩ := h2
  exact ⟨u, h1 u b, c⟩
theorem am_G.fr {f g : am_F} (n : Nat) (e : am_run cd n f = some g) (k : am_G sc C cd P (g, h)) : am_G sc C cd P (f, h) := k.rc fun _ z => am_Rch.fr n e z
theorem am_G.fg {st : List Value} (ls' : am_L) (hs : am_sub ls' ls) (k : am_G sc C cd P ((pc, ls', st), h)) : am_G sc C cd P ((pc, ls, st), h) := k.rc fun _ z => am_Rch.fg hs z
theorem am_G.br {tgt : Nat} {st st' : List Value} {i : am_I} {off : Int} (hc : cd pc = some i) (hp : am_p i ls st = none) (hb : am_b i st = some (off, st')) (ht : (pc : Int) + off = (tgt : Int)) (k : am_G sc C cd P ((tgt, ls, st'), h)) : am_G sc C cd P ((pc, ls, st), h) := k.rc fun _ z => am_Rch.br hc hp hb ht z
theorem am_G.hp {st st' : List Value} {i : am_I} (hc : cd pc = some i) (hp : am_p i ls st = none) (hb : am_b i st = none) (hh : am_h sc i st h = some (st', h')) (k : am_G sc C cd P ((pc + i.2.1, ls, st'), h')) : am_G sc C cd P ((pc, ls, st), h) := k.rc fun _ z => am_Rch.hp hc hp hb hh z
theorem am_G.gI {idx ci k0 hint a : Nat} {K : Value} {x : Int32} (hc : cd pc = some (.getfield idx, 3, ci, k0, hint, K)) (e : am_gI h a ci k0 = some x) (k : am_G sc C cd P ((pc + 3, ls, .int x :: r), h)) : am_G sc C cd P ((pc, ls, .ref a :: r), h) := by
  refine am_G.hp hc rfl rfl ?_ k
  show (am_gF h a ci k0).map _ = _
  rw [am_gI_ok e]; rfl
theorem am_G.gL {idx ci k0 hint a : Nat} {K : Value} {x : Int64} (hc : cd pc = some (.getfield idx, 3, ci, k0, hint, K)) (e : am_gL h a ci k0 = some x) (k : am_G sc C cd P ((pc + 3, ls, .long x :: r), h)) : am_G sc C cd P ((pc, ls, .ref a :: r), h) := by
  refine am_G.hp hc rfl rfl ?_ k
  show (am_gF h a ci k0).map _ = _
  rw [am_gL_ok e]; rfl
theorem am_G.gR {idx ci k0 hint a : Nat} {K : Value} {x : Nat} (hc : cd pc = some (.getfield idx, 3, ci, k0, hint, K)) (e : am_gR h a ci k0 = some x) (k : am_G sc C cd P ((pc + 3, ls, .ref x :: r), h)) : am_G sc C cd P ((pc, ls, .ref a :: r), h) := by
  refine am_G.hp hc rfl rfl ?_ k
  show (am_gF h a ci k0).map _ = _
  rw [am_gR_ok e]; rfl
theorem am_G.pF {idx ci k0 hint a : Nat} {K v : Value} (hc : cd pc = some (.putfield idx, 3, ci, k0, hint, K)) (e : am_pF h a ci k0 v = some h') (k : am_G sc C cd P ((pc + 3, ls, r), h')) : am_G sc C cd P ((pc, ls, v :: .ref a :: r), h) := by
  refine am_G.hp hc rfl rfl ?_ k
  show (am_pF h a ci k0 v).map _ = _
  rw [e]; rfl
theorem am_G.aI {a : Nat} {z : Nat × Nat × Nat × Value} {j x : Int32} (hc : cd pc = some (.iaload, 1, z)) (e : am_aI h 0 a j = some x) (k : am_G sc C cd P ((pc + 1, ls, .int x :: r), h)) : am_G sc C cd P ((pc, ls, .int j :: .ref a :: r), h) := by
  obtain ⟨z1, z2, z3, z4⟩ := z
  refine am_G.hp hc rfl rfl ?_ k
  show (match am_aI h 0 a j with | some v => some (Value.int v :: r, h) | none => _) = _
  rw [e]
theorem am_aI_lt {t a : Nat} {j x : Int32} (e : am_aI h t a j = some x) : a < h.length := by
  obtain ⟨n, f, h1, -⟩ := am_aI_ok e
  exact (List.getElem?_eq_some_iff.mp h1).1
theorem am_G.aB {a t : Nat} {z : Nat × Nat × Value} {j x : Int32} (hc : cd pc = some (.baload, 1, t, z)) (e : am_aI h t a j = some x) (k : am_G sc C cd P ((pc + 1, ls, .int x :: r), h)) : am_G sc C cd P ((pc, ls, .int j :: .ref a :: r), h) := by
  obtain ⟨z2, z3, z4⟩ := z
  refine am_G.hp hc rfl rfl ?_ k
  show (am_aI h t a j).map _ = _
  rw [e]; rfl
theorem am_G.aL {a : Nat} {z : Nat × Nat × Nat × Value} {j : Int32} {x : Int64} (hc : cd pc = some (.laload, 1, z)) (e : am_aL h a j = some x) (k : am_G sc C cd P ((pc + 1, ls, .long x :: r), h)) : am_G sc C cd P ((pc, ls, .int j :: .ref a :: r), h) := by
  obtain ⟨z1, z2, z3, z4⟩ := z
  refine am_G.hp hc rfl rfl ?_ k
  show (am_aL h a j).map _ = _
  rw [e]; rfl
theorem am_G.aR {a x : Nat} {z : Nat × Nat × Nat × Value} {j : Int32} (hc : cd pc = some (.aaload, 1, z)) (e : am_aR h a j = some x) (k : am_G sc C cd P ((pc + 1, ls, .ref x :: r), h)) : am_G sc C cd P ((pc, ls, .int j :: .ref a :: r), h) := by
  obtain ⟨z1, z2, z3, z4⟩ := z
  refine am_G.hp hc rfl rfl ?_ k
  show (am_aR h a j).map _ = _
  rw [e]; rfl
theorem am_G.sI {a : Nat} {z : Nat × Nat × Nat × Value} {j x : Int32} (hc : cd pc = some (.iastore, 1, z)) (e : am_sI h 0 a j x = some h') (k : am_G sc C cd P ((pc + 1, ls, r), h')) : am_G sc C cd P ((pc, ls, .int x :: .int j :: .ref a :: r), h) := by
  obtain ⟨z1, z2, z3, z4⟩ := z
  refine am_G.hp hc rfl rfl ?_ k
  show (am_sI h 0 a j x).map _ = _
  rw [e]; rfl
theorem am_G.sB {a t : Nat} {z : Nat × Nat × Value} {j x : Int32} (hc : cd pc = some (.bastore, 1, t, z)) (e : am_sI h t a j x = some h') (k : am_G sc C cd P ((pc + 1, ls, r), h')) : am_G sc C cd P ((pc, ls, .int x :: .int j :: .ref a :: r), h) := by
  obtain ⟨z2, z3, z4⟩ := z
  refine am_G.hp hc rfl rfl ?_ k
  show (am_sI h t a j x).map _ = _
  rw [e]; rfl
theorem am_G.sL {a : Nat} {z : Nat × Nat × Nat × Value} {j : Int32} {x : Int64} (hc : cd pc = some (.lastore, 1, z)) (e : am_sL h a j x = some h') (k : am_G sc C cd P ((pc + 1, ls, r), h')) : am_G sc C cd P ((pc, ls, .long x :: .int j :: .ref a :: r), h) := by
  obtain ⟨z1, z2, z3, z4⟩ := z
  refine am_G.hp hc rfl rfl ?_ k
  show (am_sL h a j x).map _ = _
  rw [e]; rfl
theorem am_G.sR {a v : Nat} {z : Nat × Nat × Nat × Value} {j : Int32} (hc : cd pc = some (.aastore, 1, z)) (e : am_sR h a j v = some h') (k : am_G sc C cd P ((pc + 1, ls, r), h')) : am_G sc C cd P ((pc, ls, .ref v :: .int j :: .ref a :: r), h) := by
  obtain ⟨z1, z2, z3, z4⟩ := z
  refine am_G.hp hc rfl rfl ?_ k
  show (am_sR h a j v).map _ = _
  rw [e]; rfl
theorem am_G.ln {a : Nat} {z : Nat × Nat × Nat × Value} {x : Int32} (hc : cd pc = some (.arraylength, 1, z)) (e : am_len h a = some x) (k : am_G sc C cd P ((pc + 1, ls, .int x :: r), h)) : am_G sc C cd P ((pc, ls, .ref a :: r), h) := by
  obtain ⟨z1, z2, z3, z4⟩ := z
  refine am_G.hp hc rfl rfl ?_ k
  show (match am_len h a with | some v => some (Value.int v :: r, h) | none => _) = _
  rw [e]
theorem am_G.dv {z : Nat × Nat × Nat × Value} {x y w : Int32} (hc : cd pc = some (.idiv, 1, z)) (e : am_dv x y = some w) (k : am_G sc C cd P ((pc + 1, ls, .int w :: r), h)) : am_G sc C cd P ((pc, ls, .int y :: .int x :: r), h) := by
  obtain ⟨z1, z2, z3, z4⟩ := z
  refine am_G.hp hc rfl rfl ?_ k
  unfold am_dv at e
  show (if y = 0 then none else _) = _
  split at e
  · cases e
  · rename_i hy
    rw [if_neg hy]
    cases e
    rfl
theorem am_G.rm {z : Nat × Nat × Nat × Value} {x y w : Int32} (hc : cd pc = some (.irem, 1, z)) (e : am_rm' x y = some w) (k : am_G sc C cd P ((pc + 1, ls, .int w :: r), h)) : am_G sc C cd P ((pc, ls, .int y :: .int x :: r), h) := by
  obtain ⟨z1, z2, z3, z4⟩ := z
  refine am_G.hp hc rfl rfl ?_ k
  unfold am_rm' at e
  show (if y = 0 then none else _) = _
  split at e
  · cases e
  · rename_i hy
    rw [if_neg hy]
    cases e
    rfl
theorem am_G.dvL {z : Nat × Nat × Nat × Value} {x y w : Int64} (hc : cd pc = some (.ldiv, 1, z)) (e : am_dvL x y = some w) (k : am_G sc C cd P ((pc + 1, ls, .long w :: r), h)) : am_G sc C cd P ((pc, ls, .long y :: .long x :: r), h) := by
  obtain ⟨z1, z2, z3, z4⟩ := z
  refine am_G.hp hc rfl rfl ?_ k
  unfold am_dvL at e
  show (if y = 0 then none else _) = _
  split at e
  · cases e
  · rename_i hy
    rw [if_neg hy]
    cases e
    rfl
theorem am_G.rmL {z : Nat × Nat × Nat × Value} {x y w : Int64} (hc : cd pc = some (.lrem, 1, z)) (e : am_rmL x y = some w) (k : am_G sc C cd P ((pc + 1, ls, .long w :: r), h)) : am_G sc C cd P ((pc, ls, .long y :: .long x :: r), h) := by
  obtain ⟨z1, z2, z3, z4⟩ := z
  refine am_G.hp hc rfl rfl ?_ k
  unfold am_rmL at e
  show (if y = 0 then none else _) = _
  split at e
  · cases e
  · rename_i hy
    rw [if_neg hy]
    cases e
    rfl
theorem am_G.cp {idx n0 hint a0 a1 : Nat} {K : Value} {sp dp n : Int32} (hc : cd pc = some (.invokestatic idx, 3, 998, n0, hint, K)) (hr : (r.map fun v => v.category).sum ≤ 8) (e : am_cp h a0 sp a1 dp n = some h') (k : am_G sc C cd P ((pc + 3, ls, r), h')) : am_G sc C cd P ((pc, ls, .int n :: .int dp :: .ref a1 :: .int sp :: .ref a0 :: r), h) := by
  refine am_G.hp hc rfl rfl ?_ k
  show (if _ then (am_cp h a0 sp a1 dp n).map _ else none) = _
  rw [if_pos hr, e]; rfl
theorem am_G.oi {idx n0 hint a : Nat} {K : Value} (hc : cd pc = some (.invokespecial idx, 3, 999, n0, hint, K)) (hr : (r.map fun v => v.category).sum ≤ 8) (k : am_G sc C cd P ((pc + 3, ls, r), h)) : am_G sc C cd P ((pc, ls, .ref a :: r), h) := by
  refine am_G.hp hc rfl rfl ?_ k
  show (if _ then some (r, h) else none) = _
  rw [if_pos hr]
/-- making cells -/
def am_nO (h : am_H) (ci : Nat) : Option (Nat × am_H) := if h.length < am_SB then (am_def ci).map (fun fs => (h.length, h ++ [.inr (ci, fs)])) else none
def am_nA (h : am_H) (t : Nat) (n : Int32) : Option (Nat × am_H) := if h.length < am_SB ∧ ¬ n < 0 ∧ n.toNatClampNeg ≤ 10000 then some (h.length, h ++ [.inl (t, n.toNatClampNeg, am_zero t)]) else none
def am_nR (h : am_H) (t : Nat) (n : Int32) : Option (Nat × am_H) := if h.length < am_SB ∧ ¬ n < 0 ∧ n.toNatClampNeg ≤ 10000 then some (h.length, h ++ [.inl (t, n.toNatClampNeg, .inr (.inr (.inr (.inr (fun _ => none)))))]) else none
theorem am_G.nO {idx ci k0 hint a : Nat} {K : Value} (hc : cd pc = some (.new idx, 3, ci, k0, hint, K)) (e : am_nO h ci = some (a, h')) (k : am_G sc C cd P ((pc + 3, ls, .ref a :: r), h')) : am_G sc C cd P ((pc, ls, r), h) := by
  refine am_G.hp hc rfl rfl ?_ k
  unfold am_nO at e
  show (if h.length < am_SB then (am_def ci).map _ else none) = _
  split at e
  · rename_i hl
    rw [if_pos hl]
    obtain ⟨fs, h1, h2⟩ := Option.map_eq_some_iff.mp e
    cases h2
    rw [h1]; rfl
  · cases e
theorem am_G.nA {at' : ArrayType} {t k0 hint a : Nat} {K : Value} {n : Int32} (hc : cd pc = some (.newarray at', 2, t, k0, hint, K)) (e : am_nA h t n = some (a, h')) (k : am_G sc C cd P ((pc + 2, ls, .ref a :: r), h')) : am_G sc C cd P ((pc, ls, .int n :: r), h) := by
  refine am_G.hp hc rfl rfl ?_ k
  unfold am_nA at e
  show (if h.length < am_SB ∧ ¬ n < 0 ∧ n.toNatClampNeg ≤ 10000 then _ else none) = _
  split at e
  · rename_i hl
    rw [if_pos hl]
    cases e
    rfl
  · cases e
theorem am_G.nR {idx t k0 hint a : Nat} {K : Value} {n : Int32} (hc : cd pc = some (.anewarray idx, 3, t, k0, hint, K)) (e : am_nR h t n = some (a, h')) (k : am_G sc C cd P ((pc + 3, ls, .ref a :: r), h')) : am_G sc C cd P ((pc, ls, .int n :: r), h) := by
  refine am_G.hp hc rfl rfl ?_ k
  unfold am_nR at e
  show (if h.length < am_SB ∧ ¬ n < 0 ∧ n.toNatClampNeg ≤ 10000 then _ else none) = _
  split at e
  · rename_i hl
    rw [if_pos hl]
    cases e
    rfl
  · cases e
/-- a switch, within its cases -/
theorem am_G.sw {tgt k0 len : Nat} {dflt lo hi off : Int} {offs : Array Int} {z : Nat × Nat × Nat × Value} {x : Int32} (hc : cd pc = some (.tableswitch dflt lo hi offs, len, z)) (hn : ¬ (x.toInt < lo ∨ hi < x.toInt)) (hk : (x.toInt - lo).toNat = k0) (ho : offs[k0]? = some off) (ht : (pc : Int) + off = (tgt : Int)) (k : am_G sc C cd P ((tgt, ls, r), h)) : am_G sc C cd P ((pc, ls, .int x :: r), h) := by
  obtain ⟨z1, z2, z3, z4⟩ := z
  refine am_G.br (off := off) hc rfl ?_ ht k
  show (if x.toInt < lo ∨ hi < x.toInt then some (dflt, r) else (offs[(x.toInt - lo).toNat]?).map _) = _
  rw [if_neg hn, hk, ho]; rfl
theorem am_G.swD {tgt len : Nat} {dflt lo hi : Int} {offs : Array Int} {z : Nat × Nat × Nat × Value} {x : Int32} (hc : cd pc = some (.tableswitch dflt lo hi offs, len, z)) (hn : x.toInt < lo ∨ hi < x.toInt) (ht : (pc : Int) + dflt = (tgt : Int)) (k : am_G sc C cd P ((tgt, ls, r), h)) : am_G sc C cd P ((pc, ls, .int x :: r), h) := by
  obtain ⟨z1, z2, z3, z4⟩ := z
  refine am_G.br (off := dflt) hc rfl ?_ ht k
  show (if x.toInt < lo ∨ hi < x.toInt then some (dflt, r) else _) = _
  rw [if_pos hn]
theorem am_G.cl {st : List Value} {i : am_I} {m n : Nat} (As rest : List Value) {v : Option Value} (hC : C m As h v h') (hc : cd pc = some i) (hi : am_inv i = some (m, n)) (hs : st = As.reverse ++ rest) (hn : As.length = n) (hr : (rest.map fun v => v.category).sum ≤ 8) (k : am_G sc C cd P ((pc + 3, ls, v.toList ++ rest), h')) : am_G sc C cd P ((pc, ls, st), h) := k.rc fun _ z => am_Rch.cl As rest hc hi hs hn hr hC z
end AML
