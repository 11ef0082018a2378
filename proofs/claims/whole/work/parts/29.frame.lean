/-! which cells the typed functions may change -/
def Sm (S : Nat → Prop) (t t1 : tS) : Prop := ∀ b, ¬ S b → t1.1 b = t.1 b ∧ t1.2.1 b = t.2.1 b ∧ t1.2.2.1 b = t.2.2.1 b ∧ t1.2.2.2.1 b = t.2.2.2.1 b ∧ t1.2.2.2.2 b = t.2.2.2.2 b
theorem Sm.rf {S : Nat → Prop} {t : tS} : Sm S t t := fun _ _ => ⟨rfl, rfl, rfl, rfl, rfl⟩
theorem Sm.tr {S : Nat → Prop} {t t1 t2 : tS} (h : Sm S t t1) (g : Sm S t1 t2) : Sm S t t2 := fun b hb => by
  obtain ⟨h1, h2, h3, h4, h5⟩ := h b hb
  obtain ⟨g1, g2, g3, g4, g5⟩ := g b hb
  exact ⟨g1.trans h1, g2.trans h2, g3.trans h3, g4.trans h4, g5.trans h5⟩
theorem Sm.mono {S S' : Nat → Prop} {t t1 : tS} (h : Sm S t t1) (hs : ∀ b, S b → S' b) : Sm S' t t1 := fun b hb => h b (fun z => hb (hs b z))
theorem up2_ne {α : Type} {f : Nat → Nat → α} {a k b : Nat} {x : α} (h : b ≠ a) : up2 f a k x b = f b := by
  funext j
  simp [up2, h]
theorem sm_I {S : Nat → Prop} {t t1 : tS} {a k : Nat} {x : Int32} (e : some (uI t a k x) = some t1) (h : S a) : Sm S t t1 := by
  cases e
  intro b hb
  exact ⟨up2_ne (fun z => hb (z ▸ h)), rfl, rfl, rfl, rfl⟩
theorem sm_J {S : Nat → Prop} {t t1 : tS} {a k : Nat} {x : Int64} (e : some (uJ t a k x) = some t1) (h : S a) : Sm S t t1 := by
  cases e
  intro b hb
  exact ⟨rfl, rfl, rfl, up2_ne (fun z => hb (z ▸ h)), rfl⟩
theorem sm_R {S : Nat → Prop} {t t1 : tS} {a k x : Nat} (e : some (uR t a k x) = some t1) (h : S a) : Sm S t t1 := by
  cases e
  intro b hb
  exact ⟨rfl, rfl, rfl, rfl, up2_ne (fun z => hb (z ▸ h))⟩
theorem sm_WA {S : Nat → Prop} {t t1 : tS} {tg a n : Nat} {i x : Int32} (e : tWA t tg a n i x = some t1) (h : S a) : Sm S t t1 := by
  unfold tWA at e
  split at e
  · cases e
    intro b hb
    exact ⟨rfl, up2_ne (fun z => hb (z ▸ h)), rfl, rfl, rfl⟩
  · cases e
theorem sm_WB {S : Nat → Prop} {t t1 : tS} {a n : Nat} {i : Int32} {x : Int64} (e : tWB t a n i x = some t1) (h : S a) : Sm S t t1 := by
  unfold tWB at e
  split at e
  · cases e
    intro b hb
    exact ⟨rfl, rfl, up2_ne (fun z => hb (z ▸ h)), rfl, rfl⟩
  · cases e
theorem sm_WC {S : Nat → Prop} {t t1 : tS} {a0 n0 a1 n1 : Nat} {sp dp n : Int32} (e : tWC t a0 n0 sp a1 n1 dp n = some t1) (h : S a1) : Sm S t t1 := by
  unfold tWC at e
  split at e
  · cases e
    intro b hb
    refine ⟨rfl, ?_, rfl, rfl, rfl⟩
    show up1 _ _ _ b = _
    unfold up1
    rw [if_neg (fun (z : b = a1) => hb (z ▸ h))]
  · cases e
theorem tQ_s {i : Int32} {r : Nat} (e : tQ 19 7 16 i = some r) : 19 ≤ r ∧ r + 7 ≤ 131 := by
  unfold tQ at e
  split at e
  · rename_i h
    cases e
    have := (ly_ix (by decide) h).1
    omega
  · cases e
theorem tQ_m {i : Int32} {r : Nat} (e : tQ 132 11 4 i = some r) : 132 ≤ r ∧ r + 11 ≤ 176 := by
  unfold tQ at e
  split at e
  · rename_i h
    cases e
    have := (ly_ix (by decide) h).1
    omega
  · cases e
/-- the references that change -/
def Dy (t : tS) : Prop := (t.2.2.2.2 0 9 = 182 ∨ t.2.2.2.2 0 9 = 196) ∧ (t.2.2.2.2 0 10 = 182 ∨ t.2.2.2.2 0 10 = 196) ∧ (t.2.2.2.2 0 11 = 210 ∨ t.2.2.2.2 0 11 = 214) ∧ (t.2.2.2.2 0 12 = 210 ∨ t.2.2.2.2 0 12 = 214)
theorem Dy.sm {S : Nat → Prop} {t t1 : tS} (h : Dy t) (hs : Sm S t t1) (h0 : ¬ S 0) : Dy t1 := by
  unfold Dy
  rw [(hs 0 h0).2.2.2.2]
  exact h
theorem dy_9 {t : tS} (h : Dy t) : 182 ≤ t.2.2.2.2 0 9 ∧ t.2.2.2.2 0 9 ≤ 196 := by have := h.1; omega
theorem dy_10 {t : tS} (h : Dy t) : 182 ≤ t.2.2.2.2 0 10 ∧ t.2.2.2.2 0 10 ≤ 196 := by have := h.2.1; omega
theorem dy_11 {t : tS} (h : Dy t) : 210 ≤ t.2.2.2.2 0 11 ∧ t.2.2.2.2 0 11 ≤ 214 := by have := h.2.2.1; omega
theorem dy_12 {t : tS} (h : Dy t) : 210 ≤ t.2.2.2.2 0 12 ∧ t.2.2.2.2 0 12 ≤ 214 := by have := h.2.2.2; omega
set_option maxHeartbeats 4000000 in
theorem wJ7_fill_53178_L5 : ∀ (n : Nat) (v0 : Nat) (n0 : Nat) (v1 : Int32) (v2 : Int32) (v3 : Int32) (t : tS) (t1 : tS), tJ7_fill_53178_L5 n v0 n0 v1 v2 v3 t = some t1 → Sm (fun b => b = v0) t t1 := by
  intro n
  induction n with
  | zero => intro _ _ _ _ _ _ _ H; cases H
  | succ n ih =>
    intro v0 n0 v1 v2 v3 t t1 H
    rw [tJ7_fill_53178_L5] at H
    have hF_t : Sm (fun b => b = v0) t t := Sm.rf
    split at H
    · obtain rfl := Option.some.inj H
      exact hF_t
    · obtain ⟨tt3, e4, H⟩ := am_bd H
      have hF_tt3 := hF_t.tr (sm_WA (S := fun b => b = v0) e4 (show v0 = v0 by omega))
      exact hF_tt3.tr (ih _ _ _ _ _ _ _ H)
set_option maxHeartbeats 4000000 in
theorem wJ7_fill_53178 {a0 : Nat} {n0 : Nat} {a1 : Int32} {t : tS} {t1 : tS} (H : tJ7_fill_53178 a0 n0 a1 t = some t1) : Sm (fun b => b = a0) t t1 := by
  unfold tJ7_fill_53178 at H
  have hF_t : Sm (fun b => b = a0) t t := Sm.rf
  obtain ⟨tt7, E5, H⟩ := am_bd H
  have hF_tt7 := hF_t.tr (Sm.mono (S' := fun b => b = a0) (wJ7_fill_53178_L5 _ _ _ _ _ _ _ _ E5) (fun b hb => (by have hb : b = a0 := hb; show b = a0; omega)))
  clear E5
  obtain rfl := Option.some.inj H
  exact hF_tt7
set_option maxHeartbeats 4000000 in
theorem wX6_copyFrom {a0 : Nat} {a1 : Nat} {t : tS} {t1 : tS} (H : tX6_copyFrom a0 a1 t = some t1) : Sm (fun b => b = a0 ∨ b = a0 + 1 ∨ b = a0 + 2 ∨ b = a0 + 3 ∨ b = a0 + 4 ∨ b = a0 + 5 ∨ b = a0 + 6) t t1 := by
  unfold tX6_copyFrom at H
  have hF_t : Sm (fun b => b = a0 ∨ b = a0 + 1 ∨ b = a0 + 2 ∨ b = a0 + 3 ∨ b = a0 + 4 ∨ b = a0 + 5 ∨ b = a0 + 6) t t := Sm.rf
  obtain ⟨tt4, e5, H⟩ := am_bd H
  have hF_tt4 := hF_t.tr (sm_WC (S := fun b => b = a0 ∨ b = a0 + 1 ∨ b = a0 + 2 ∨ b = a0 + 3 ∨ b = a0 + 4 ∨ b = a0 + 5 ∨ b = a0 + 6) e5 (show (a0 + 1) = a0 ∨ (a0 + 1) = a0 + 1 ∨ (a0 + 1) = a0 + 2 ∨ (a0 + 1) = a0 + 3 ∨ (a0 + 1) = a0 + 4 ∨ (a0 + 1) = a0 + 5 ∨ (a0 + 1) = a0 + 6 by omega))
  obtain ⟨tt9, e10, H⟩ := am_bd H
  have hF_tt9 := hF_tt4.tr (sm_WC (S := fun b => b = a0 ∨ b = a0 + 1 ∨ b = a0 + 2 ∨ b = a0 + 3 ∨ b = a0 + 4 ∨ b = a0 + 5 ∨ b = a0 + 6) e10 (show (a0 + 2) = a0 ∨ (a0 + 2) = a0 + 1 ∨ (a0 + 2) = a0 + 2 ∨ (a0 + 2) = a0 + 3 ∨ (a0 + 2) = a0 + 4 ∨ (a0 + 2) = a0 + 5 ∨ (a0 + 2) = a0 + 6 by omega))
  obtain ⟨tt14, e15, H⟩ := am_bd H
  have hF_tt14 := hF_tt9.tr (sm_WC (S := fun b => b = a0 ∨ b = a0 + 1 ∨ b = a0 + 2 ∨ b = a0 + 3 ∨ b = a0 + 4 ∨ b = a0 + 5 ∨ b = a0 + 6) e15 (show (a0 + 3) = a0 ∨ (a0 + 3) = a0 + 1 ∨ (a0 + 3) = a0 + 2 ∨ (a0 + 3) = a0 + 3 ∨ (a0 + 3) = a0 + 4 ∨ (a0 + 3) = a0 + 5 ∨ (a0 + 3) = a0 + 6 by omega))
  obtain ⟨tt19, e20, H⟩ := am_bd H
  have hF_tt19 := hF_tt14.tr (sm_WC (S := fun b => b = a0 ∨ b = a0 + 1 ∨ b = a0 + 2 ∨ b = a0 + 3 ∨ b = a0 + 4 ∨ b = a0 + 5 ∨ b = a0 + 6) e20 (show (a0 + 4) = a0 ∨ (a0 + 4) = a0 + 1 ∨ (a0 + 4) = a0 + 2 ∨ (a0 + 4) = a0 + 3 ∨ (a0 + 4) = a0 + 4 ∨ (a0 + 4) = a0 + 5 ∨ (a0 + 4) = a0 + 6 by omega))
  obtain ⟨tt24, e25, H⟩ := am_bd H
  have hF_tt24 := hF_tt19.tr (sm_WC (S := fun b => b = a0 ∨ b = a0 + 1 ∨ b = a0 + 2 ∨ b = a0 + 3 ∨ b = a0 + 4 ∨ b = a0 + 5 ∨ b = a0 + 6) e25 (show (a0 + 5) = a0 ∨ (a0 + 5) = a0 + 1 ∨ (a0 + 5) = a0 + 2 ∨ (a0 + 5) = a0 + 3 ∨ (a0 + 5) = a0 + 4 ∨ (a0 + 5) = a0 + 5 ∨ (a0 + 5) = a0 + 6 by omega))
  obtain ⟨tt29, e30, H⟩ := am_bd H
  have hF_tt29 := hF_tt24.tr (sm_WC (S := fun b => b = a0 ∨ b = a0 + 1 ∨ b = a0 + 2 ∨ b = a0 + 3 ∨ b = a0 + 4 ∨ b = a0 + 5 ∨ b = a0 + 6) e30 (show (a0 + 6) = a0 ∨ (a0 + 6) = a0 + 1 ∨ (a0 + 6) = a0 + 2 ∨ (a0 + 6) = a0 + 3 ∨ (a0 + 6) = a0 + 4 ∨ (a0 + 6) = a0 + 5 ∨ (a0 + 6) = a0 + 6 by omega))
  obtain ⟨tt33, et34, H⟩ := am_bd H
  have hF_tt33 := hF_tt29.tr (sm_I (S := fun b => b = a0 ∨ b = a0 + 1 ∨ b = a0 + 2 ∨ b = a0 + 3 ∨ b = a0 + 4 ∨ b = a0 + 5 ∨ b = a0 + 6) et34 (show a0 = a0 ∨ a0 = a0 + 1 ∨ a0 = a0 + 2 ∨ a0 = a0 + 3 ∨ a0 = a0 + 4 ∨ a0 = a0 + 5 ∨ a0 = a0 + 6 by omega))
  obtain ⟨tt37, et38, H⟩ := am_bd H
  have hF_tt37 := hF_tt33.tr (sm_I (S := fun b => b = a0 ∨ b = a0 + 1 ∨ b = a0 + 2 ∨ b = a0 + 3 ∨ b = a0 + 4 ∨ b = a0 + 5 ∨ b = a0 + 6) et38 (show a0 = a0 ∨ a0 = a0 + 1 ∨ a0 = a0 + 2 ∨ a0 = a0 + 3 ∨ a0 = a0 + 4 ∨ a0 = a0 + 5 ∨ a0 = a0 + 6 by omega))
  obtain ⟨tt41, et42, H⟩ := am_bd H
  have hF_tt41 := hF_tt37.tr (sm_I (S := fun b => b = a0 ∨ b = a0 + 1 ∨ b = a0 + 2 ∨ b = a0 + 3 ∨ b = a0 + 4 ∨ b = a0 + 5 ∨ b = a0 + 6) et42 (show a0 = a0 ∨ a0 = a0 + 1 ∨ a0 = a0 + 2 ∨ a0 = a0 + 3 ∨ a0 = a0 + 4 ∨ a0 = a0 + 5 ∨ a0 = a0 + 6 by omega))
  obtain rfl := Option.some.inj H
  exact hF_tt41
set_option maxHeartbeats 4000000 in
theorem wX0_keep {a1 : Nat} {t : tS} {t1 : tS} (H : tX0_keep a1 t = some t1) : Sm (fun b => b = 17 ∨ (19 ≤ b ∧ b < 131)) t t1 := by
  unfold tX0_keep at H
  have hF_t : Sm (fun b => b = 17 ∨ (19 ≤ b ∧ b < 131)) t t := Sm.rf
  obtain ⟨q2, _, H⟩ := am_bd H
  obtain ⟨tt4, et5, H⟩ := am_bd H
  have hF_tt4 := hF_t.tr (sm_I (S := fun b => b = 17 ∨ (19 ≤ b ∧ b < 131)) et5 (show 17 = 17 ∨ (19 ≤ 17 ∧ 17 < 131) by omega))
  obtain ⟨r8, e9, H⟩ := am_bd H
  have hq_r8 := tQ_s e9
  obtain ⟨tt11, e10, H⟩ := am_bd H
  have hF_tt11 := hF_tt4.tr ((wX6_copyFrom e10).mono (S' := fun b => b = 17 ∨ (19 ≤ b ∧ b < 131)) (fun b hb => (by have hb : b = r8 ∨ b = r8 + 1 ∨ b = r8 + 2 ∨ b = r8 + 3 ∨ b = r8 + 4 ∨ b = r8 + 5 ∨ b = r8 + 6 := hb; show b = 17 ∨ (19 ≤ b ∧ b < 131); omega)))
  obtain ⟨x15, _, H⟩ := am_bd H
  obtain ⟨tt17, et18, H⟩ := am_bd H
  have hF_tt17 := hF_tt11.tr (sm_I (S := fun b => b = 17 ∨ (19 ≤ b ∧ b < 131)) et18 (show 17 = 17 ∨ (19 ≤ 17 ∧ 17 < 131) by omega))
  obtain rfl := Option.some.inj H
  exact hF_tt17
set_option maxHeartbeats 4000000 in
theorem wX0_bringBack {a1 : Nat} {t : tS} {r : Int32} {t1 : tS} (H : tX0_bringBack a1 t = some (r, t1)) : Sm (fun b => b = 17 ∨ b = a1 ∨ b = a1 + 1 ∨ b = a1 + 2 ∨ b = a1 + 3 ∨ b = a1 + 4 ∨ b = a1 + 5 ∨ b = a1 + 6) t t1 := by
  unfold tX0_bringBack at H
  have hF_t : Sm (fun b => b = 17 ∨ b = a1 ∨ b = a1 + 1 ∨ b = a1 + 2 ∨ b = a1 + 3 ∨ b = a1 + 4 ∨ b = a1 + 5 ∨ b = a1 + 6) t t := Sm.rf
  split at H
  · obtain ⟨r4, e5, H⟩ := am_bd H
    have hq_r4 := tQ_s e5
    obtain ⟨tt7, e6, H⟩ := am_bd H
    have hF_tt7 := hF_t.tr ((wX6_copyFrom e6).mono (S' := fun b => b = 17 ∨ b = a1 ∨ b = a1 + 1 ∨ b = a1 + 2 ∨ b = a1 + 3 ∨ b = a1 + 4 ∨ b = a1 + 5 ∨ b = a1 + 6) (fun b hb => (by have hb : b = a1 ∨ b = a1 + 1 ∨ b = a1 + 2 ∨ b = a1 + 3 ∨ b = a1 + 4 ∨ b = a1 + 5 ∨ b = a1 + 6 := hb; show b = 17 ∨ b = a1 ∨ b = a1 + 1 ∨ b = a1 + 2 ∨ b = a1 + 3 ∨ b = a1 + 4 ∨ b = a1 + 5 ∨ b = a1 + 6; omega)))
    obtain ⟨q10, _, H⟩ := am_bd H
    obtain ⟨tt12, et13, H⟩ := am_bd H
    have hF_tt12 := hF_tt7.tr (sm_I (S := fun b => b = 17 ∨ b = a1 ∨ b = a1 + 1 ∨ b = a1 + 2 ∨ b = a1 + 3 ∨ b = a1 + 4 ∨ b = a1 + 5 ∨ b = a1 + 6) et13 (show 17 = 17 ∨ 17 = a1 ∨ 17 = a1 + 1 ∨ 17 = a1 + 2 ∨ 17 = a1 + 3 ∨ 17 = a1 + 4 ∨ 17 = a1 + 5 ∨ 17 = a1 + 6 by omega))
    obtain ⟨tt16, et17, H⟩ := am_bd H
    have hF_tt16 := hF_tt12.tr (sm_I (S := fun b => b = 17 ∨ b = a1 ∨ b = a1 + 1 ∨ b = a1 + 2 ∨ b = a1 + 3 ∨ b = a1 + 4 ∨ b = a1 + 5 ∨ b = a1 + 6) et17 (show 17 = 17 ∨ 17 = a1 ∨ 17 = a1 + 1 ∨ 17 = a1 + 2 ∨ 17 = a1 + 3 ∨ 17 = a1 + 4 ∨ 17 = a1 + 5 ∨ 17 = a1 + 6 by omega))
    obtain ⟨rfl, rfl⟩ := am_inj2 H
    exact hF_tt16
  · obtain ⟨rfl, rfl⟩ := am_inj2 H
    exact hF_t
set_option maxHeartbeats 4000000 in
theorem wX1_add {a0 : Nat} {a1 : Int32} {t : tS} {t1 : tS} (H : tX1_add a0 a1 t = some t1) : Sm (fun b => b = a0 ∨ b = a0 + 1) t t1 := by
  unfold tX1_add at H
  have hF_t : Sm (fun b => b = a0 ∨ b = a0 + 1) t t := Sm.rf
  obtain ⟨tt5, E6, H⟩ := am_bd H
  have hF_tt5 : Sm (fun b => b = a0 ∨ b = a0 + 1) t tt5 := by
    clear H
    have H := E6
    clear E6
    split at H
    · obtain rfl := Option.some.inj H
      exact hF_t
    · obtain ⟨tt10, e11, H⟩ := am_bd H
      have hF_tt10 := hF_t.tr (sm_WA (S := fun b => b = a0 ∨ b = a0 + 1) e11 (show (a0 + 1) = a0 ∨ (a0 + 1) = a0 + 1 by omega))
      obtain ⟨tt14, et15, H⟩ := am_bd H
      have hF_tt14 := hF_tt10.tr (sm_I (S := fun b => b = a0 ∨ b = a0 + 1) et15 (show a0 = a0 ∨ a0 = a0 + 1 by omega))
      obtain rfl := Option.some.inj H
      exact hF_tt14
  clear E6
  obtain rfl := Option.some.inj H
  exact hF_tt5
set_option maxHeartbeats 4000000 in
theorem wX7_refuse {a1 : Int32} {t : tS} {r : Int32} {t1 : tS} (H : tX7_refuse a1 t = some (r, t1)) : Sm (fun b => b = 1) t t1 := by
  unfold tX7_refuse at H
  have hF_t : Sm (fun b => b = 1) t t := Sm.rf
  obtain ⟨tt3, et4, H⟩ := am_bd H
  have hF_tt3 := hF_t.tr (sm_I (S := fun b => b = 1) et4 (show 1 = 1 by omega))
  obtain ⟨rfl, rfl⟩ := am_inj2 H
  exact hF_tt3
set_option maxHeartbeats 4000000 in
theorem wX7_scanNumber_L5 : ∀ (n : Nat)  (t : tS) (t1 : tS), tX7_scanNumber_L5 n  t = some t1 → Sm (fun b => b = 1) t t1 := by
  intro n
  induction n with
  | zero => intro _ _ H; cases H
  | succ n ih =>
    intro t t1 H
    rw [tX7_scanNumber_L5] at H
    have hF_t : Sm (fun b => b = 1) t t := Sm.rf
    split at H
    · obtain rfl := Option.some.inj H
      exact hF_t
    · obtain ⟨x8, _, H⟩ := am_bd H
      split at H
      · obtain rfl := Option.some.inj H
        exact hF_t
      · obtain ⟨x11, _, H⟩ := am_bd H
        split at H
        · obtain rfl := Option.some.inj H
          exact hF_t
        · obtain ⟨x15, _, H⟩ := am_bd H
          obtain ⟨tt17, et18, H⟩ := am_bd H
          have hF_tt17 := hF_t.tr (sm_I (S := fun b => b = 1) et18 (show 1 = 1 by omega))
          obtain ⟨tt21, et22, H⟩ := am_bd H
          have hF_tt21 := hF_tt17.tr (sm_I (S := fun b => b = 1) et22 (show 1 = 1 by omega))
          exact hF_tt21.tr (ih _ _ H)
set_option maxHeartbeats 4000000 in
theorem wX7_scanNumber  {t : tS} {t1 : tS} (H : tX7_scanNumber  t = some t1) : Sm (fun b => b = 1) t t1 := by
  unfold tX7_scanNumber at H
  have hF_t : Sm (fun b => b = 1) t t := Sm.rf
  obtain ⟨tt2, et3, H⟩ := am_bd H
  have hF_tt2 := hF_t.tr (sm_I (S := fun b => b = 1) et3 (show 1 = 1 by omega))
  obtain ⟨tt25, E23, H⟩ := am_bd H
  have hF_tt25 := hF_tt2.tr (Sm.mono (S' := fun b => b = 1) (wX7_scanNumber_L5 _ _ _ E23) (fun b hb => (by have hb : b = 1 := hb; show b = 1; omega)))
  clear E23
  obtain ⟨js28, E29, H⟩ := am_bd H
  clear E29
  obtain ⟨tt31, et32, H⟩ := am_bd H
  have hF_tt31 := hF_tt25.tr (sm_I (S := fun b => b = 1) et32 (show 1 = 1 by omega))
  obtain rfl := Option.some.inj H
  exact hF_tt31
set_option maxHeartbeats 4000000 in
theorem wX7_scanWord_L5 : ∀ (n : Nat)  (t : tS) (t1 : tS), tX7_scanWord_L5 n  t = some t1 → Sm (fun b => b = 1) t t1 := by
  intro n
  induction n with
  | zero => intro _ _ H; cases H
  | succ n ih =>
    intro t t1 H
    rw [tX7_scanWord_L5] at H
    have hF_t : Sm (fun b => b = 1) t t := Sm.rf
    split at H
    · obtain rfl := Option.some.inj H
      exact hF_t
    · obtain ⟨x8, _, H⟩ := am_bd H
      split at H
      · obtain rfl := Option.some.inj H
        exact hF_t
      · obtain ⟨x11, _, H⟩ := am_bd H
        split at H
        · obtain rfl := Option.some.inj H
          exact hF_t
        · obtain ⟨x15, _, H⟩ := am_bd H
          obtain ⟨tt17, et18, H⟩ := am_bd H
          have hF_tt17 := hF_t.tr (sm_J (S := fun b => b = 1) et18 (show 1 = 1 by omega))
          obtain ⟨tt21, et22, H⟩ := am_bd H
          have hF_tt21 := hF_tt17.tr (sm_I (S := fun b => b = 1) et22 (show 1 = 1 by omega))
          exact hF_tt21.tr (ih _ _ H)
set_option maxHeartbeats 4000000 in
theorem wX7_scanWord  {t : tS} {t1 : tS} (H : tX7_scanWord  t = some t1) : Sm (fun b => b = 1) t t1 := by
  unfold tX7_scanWord at H
  have hF_t : Sm (fun b => b = 1) t t := Sm.rf
  obtain ⟨tt2, et3, H⟩ := am_bd H
  have hF_tt2 := hF_t.tr (sm_J (S := fun b => b = 1) et3 (show 1 = 1 by omega))
  obtain ⟨tt25, E23, H⟩ := am_bd H
  have hF_tt25 := hF_tt2.tr (Sm.mono (S' := fun b => b = 1) (wX7_scanWord_L5 _ _ _ E23) (fun b hb => (by have hb : b = 1 := hb; show b = 1; omega)))
  clear E23
  obtain ⟨js28, E29, H⟩ := am_bd H
  clear E29
  obtain ⟨tt31, et32, H⟩ := am_bd H
  have hF_tt31 := hF_tt25.tr (sm_I (S := fun b => b = 1) et32 (show 1 = 1 by omega))
  obtain rfl := Option.some.inj H
  exact hF_tt31
set_option maxHeartbeats 4000000 in
theorem wX7_step_L0 : ∀ (n : Nat)  (t : tS) (t1 : tS), tX7_step_L0 n  t = some t1 → Sm (fun b => b = 1) t t1 := by
  intro n
  induction n with
  | zero => intro _ _ H; cases H
  | succ n ih =>
    intro t t1 H
    rw [tX7_step_L0] at H
    have hF_t : Sm (fun b => b = 1) t t := Sm.rf
    split at H
    · obtain rfl := Option.some.inj H
      exact hF_t
    · obtain ⟨x5, _, H⟩ := am_bd H
      split at H
      · obtain ⟨tt8, et9, H⟩ := am_bd H
        have hF_tt8 := hF_t.tr (sm_I (S := fun b => b = 1) et9 (show 1 = 1 by omega))
        exact hF_tt8.tr (ih _ _ H)
      · obtain ⟨x12, _, H⟩ := am_bd H
        split at H
        · obtain rfl := Option.some.inj H
          exact hF_t
        · obtain ⟨tt15, et16, H⟩ := am_bd H
          have hF_tt15 := hF_t.tr (sm_I (S := fun b => b = 1) et16 (show 1 = 1 by omega))
          exact hF_tt15.tr (ih _ _ H)
set_option maxHeartbeats 4000000 in
theorem wX7_step  {t : tS} {t1 : tS} (H : tX7_step  t = some t1) : Sm (fun b => b = 1) t t1 := by
  unfold tX7_step at H
  have hF_t : Sm (fun b => b = 1) t t := Sm.rf
  obtain ⟨tt19, E17, H⟩ := am_bd H
  have hF_tt19 := hF_t.tr (Sm.mono (S' := fun b => b = 1) (wX7_step_L0 _ _ _ E17) (fun b hb => (by have hb : b = 1 := hb; show b = 1; omega)))
  clear E17
  obtain ⟨tt22, et23, H⟩ := am_bd H
  have hF_tt22 := hF_tt19.tr (sm_I (S := fun b => b = 1) et23 (show 1 = 1 by omega))
  split at H
  · obtain ⟨x28, _, H⟩ := am_bd H
    obtain ⟨x30, _, H⟩ := am_bd H
    obtain ⟨tt32, E33, H⟩ := am_bd H
    have hF_tt32 : Sm (fun b => b = 1) t tt32 := by
      clear H
      have H := E33
      clear E33
      split at H
      · obtain ⟨x35, _, H⟩ := am_bd H
        split at H
        · obtain ⟨tt38, et39, H⟩ := am_bd H
          have hF_tt38 := hF_tt22.tr (sm_I (S := fun b => b = 1) et39 (show 1 = 1 by omega))
          obtain ⟨x41, _, H⟩ := am_bd H
          obtain ⟨js42, E43, H⟩ := am_bd H
          clear E43
          obtain ⟨tt45, et46, H⟩ := am_bd H
          have hF_tt45 := hF_tt38.tr (sm_I (S := fun b => b = 1) et46 (show 1 = 1 by omega))
          obtain rfl := Option.some.inj H
          exact hF_tt45
        · obtain ⟨tt48, e47, H⟩ := am_bd H
          have hF_tt48 := hF_tt22.tr ((wX7_scanNumber e47).mono (S' := fun b => b = 1) (fun b hb => (by have hb : b = 1 := hb; show b = 1; omega)))
          obtain rfl := Option.some.inj H
          exact hF_tt48
      · obtain ⟨tt51, e50, H⟩ := am_bd H
        have hF_tt51 := hF_tt22.tr ((wX7_scanWord e50).mono (S' := fun b => b = 1) (fun b hb => (by have hb : b = 1 := hb; show b = 1; omega)))
        obtain rfl := Option.some.inj H
        exact hF_tt51
    clear E33
    obtain rfl := Option.some.inj H
    exact hF_tt32
  · obtain ⟨tt54, et55, H⟩ := am_bd H
    have hF_tt54 := hF_tt22.tr (sm_I (S := fun b => b = 1) et55 (show 1 = 1 by omega))
    obtain rfl := Option.some.inj H
    exact hF_tt54
set_option maxHeartbeats 4000000 in
theorem wX7_passSign {a1 : Int32} {t : tS} {r : Int32} {t1 : tS} (H : tX7_passSign a1 t = some (r, t1)) : Sm (fun b => b = 1) t t1 := by
  unfold tX7_passSign at H
  have hF_t : Sm (fun b => b = 1) t t := Sm.rf
  obtain ⟨x2, _, H⟩ := am_bd H
  split at H
  · obtain ⟨tt4, e3, H⟩ := am_bd H
    have hF_tt4 := hF_t.tr ((wX7_step e3).mono (S' := fun b => b = 1) (fun b hb => (by have hb : b = 1 := hb; show b = 1; omega)))
    obtain ⟨rfl, rfl⟩ := am_inj2 H
    exact hF_tt4
  · obtain ⟨x7, tt8, e6, H⟩ := am_bd2 H
    have hF_tt8 := hF_t.tr ((wX7_refuse e6).mono (S' := fun b => b = 1) (fun b hb => (by have hb : b = 1 := hb; show b = 1; omega)))
    obtain ⟨_, _, H⟩ := am_bd H
    obtain ⟨rfl, rfl⟩ := am_inj2 H
    exact hF_tt8
set_option maxHeartbeats 4000000 in
theorem wX1_value_L6 : ∀ (n : Nat) (v0 : Nat) (v1 : Int32) (v2 : Int32) (v3 : Int32) (v4 : Int32) (v5 : Int32) (v6 : Int32) (t : tS) (w5 : Int32) (t1 : tS), tX1_value_L6 n v0 v1 v2 v3 v4 v5 v6 t = some (w5, t1) → Sm (fun b => b = v0 + 2) t t1 := by
  intro n
  induction n with
  | zero => intro _ _ _ _ _ _ _ _ _ _ H; cases H
  | succ n ih =>
    intro v0 v1 v2 v3 v4 v5 v6 t w5 t1 H
    rw [tX1_value_L6] at H
    have hF_t : Sm (fun b => b = v0 + 2) t t := Sm.rf
    split at H
    · obtain ⟨rfl, rfl⟩ := am_inj2 H
      exact hF_t
    · obtain ⟨x3, _, H⟩ := am_bd H
      obtain ⟨jv4, tt6, E7, H⟩ := am_bd2 H
      have hF_tt6 : Sm (fun b => b = v0 + 2) t tt6 := by
        clear H
        have H := E7
        clear E7
        split at H
        · split at H
          · split at H
            · obtain ⟨rfl, rfl⟩ := am_inj2 H
              exact hF_t
            · obtain ⟨js11, E12, H⟩ := am_bd H
              clear E12
              obtain ⟨tt14, e15, H⟩ := am_bd H
              have hF_tt14 := hF_t.tr (sm_WA (S := fun b => b = v0 + 2) e15 (show (v0 + 2) = v0 + 2 by omega))
              obtain ⟨rfl, rfl⟩ := am_inj2 H
              exact hF_tt14
          · split at H
            · obtain ⟨rfl, rfl⟩ := am_inj2 H
              exact hF_t
            · obtain ⟨x18, _, H⟩ := am_bd H
              obtain ⟨x20, _, H⟩ := am_bd H
              obtain ⟨x22, _, H⟩ := am_bd H
              obtain ⟨tt24, e25, H⟩ := am_bd H
              have hF_tt24 := hF_t.tr (sm_WA (S := fun b => b = v0 + 2) e25 (show (v0 + 2) = v0 + 2 by omega))
              obtain ⟨rfl, rfl⟩ := am_inj2 H
              exact hF_tt24
        · split at H
          · obtain ⟨rfl, rfl⟩ := am_inj2 H
            exact hF_t
          · obtain ⟨x28, _, H⟩ := am_bd H
            obtain ⟨js29, E30, H⟩ := am_bd H
            clear E30
            obtain ⟨tt32, e33, H⟩ := am_bd H
            have hF_tt32 := hF_t.tr (sm_WA (S := fun b => b = v0 + 2) e33 (show (v0 + 2) = v0 + 2 by omega))
            obtain ⟨rfl, rfl⟩ := am_inj2 H
            exact hF_tt32
      clear E7
      exact hF_tt6.tr (ih _ _ _ _ _ _ _ _ _ _ H)
set_option maxHeartbeats 4000000 in
theorem wX1_value {a0 : Nat} {a1 : Int32} {a2 : Int32} {a3 : Int32} {a4 : Int32} {t : tS} {r : Int32} {t1 : tS} (H : tX1_value a0 a1 a2 a3 a4 t = some (r, t1)) : Sm (fun b => b = a0 + 2) t t1 := by
  unfold tX1_value at H
  have hF_t : Sm (fun b => b = a0 + 2) t t := Sm.rf
  obtain ⟨lw34, tt37, E35, H⟩ := am_bd2 H
  have hF_tt37 := hF_t.tr (Sm.mono (S' := fun b => b = a0 + 2) (wX1_value_L6 _ _ _ _ _ _ _ _ _ _ _ E35) (fun b hb => (by have hb : b = a0 + 2 := hb; show b = a0 + 2; omega)))
  clear E35
  obtain ⟨js38, E39, H⟩ := am_bd H
  clear E39
  obtain ⟨rfl, rfl⟩ := am_inj2 H
  exact hF_tt37
set_option maxHeartbeats 4000000 in
theorem wX5_copyFrom {a0 : Nat} {a1 : Nat} {t : tS} {t1 : tS} (H : tX5_copyFrom a0 a1 t = some t1) : Sm (fun b => b = a0 ∨ b = a0 + 1 ∨ b = a0 + 2) t t1 := by
  unfold tX5_copyFrom at H
  have hF_t : Sm (fun b => b = a0 ∨ b = a0 + 1 ∨ b = a0 + 2) t t := Sm.rf
  obtain ⟨tt4, e5, H⟩ := am_bd H
  have hF_tt4 := hF_t.tr (sm_WC (S := fun b => b = a0 ∨ b = a0 + 1 ∨ b = a0 + 2) e5 (show (a0 + 1) = a0 ∨ (a0 + 1) = a0 + 1 ∨ (a0 + 1) = a0 + 2 by omega))
  obtain ⟨tt9, e10, H⟩ := am_bd H
  have hF_tt9 := hF_tt4.tr (sm_WC (S := fun b => b = a0 ∨ b = a0 + 1 ∨ b = a0 + 2) e10 (show (a0 + 2) = a0 ∨ (a0 + 2) = a0 + 1 ∨ (a0 + 2) = a0 + 2 by omega))
  obtain ⟨tt13, et14, H⟩ := am_bd H
  have hF_tt13 := hF_tt9.tr (sm_I (S := fun b => b = a0 ∨ b = a0 + 1 ∨ b = a0 + 2) et14 (show a0 = a0 ∨ a0 = a0 + 1 ∨ a0 = a0 + 2 by omega))
  obtain rfl := Option.some.inj H
  exact hF_tt13
set_option maxHeartbeats 4000000 in
theorem wX2_lay {a0 : Nat} {a1 : Nat} {a2 : Nat} {t : tS} {t1 : tS} (H : tX2_lay a0 a1 a2 t = some t1) : Sm (fun b => b = a0 ∨ b = a0 + 1 ∨ b = a0 + 10 ∨ b = a0 + 2 ∨ b = a0 + 3 ∨ b = a0 + 4 ∨ b = a0 + 5 ∨ b = a0 + 6 ∨ b = a0 + 7 ∨ b = a0 + 8 ∨ b = a0 + 9) t t1 := by
  unfold tX2_lay at H
  have hF_t : Sm (fun b => b = a0 ∨ b = a0 + 1 ∨ b = a0 + 10 ∨ b = a0 + 2 ∨ b = a0 + 3 ∨ b = a0 + 4 ∨ b = a0 + 5 ∨ b = a0 + 6 ∨ b = a0 + 7 ∨ b = a0 + 8 ∨ b = a0 + 9) t t := Sm.rf
  obtain ⟨tt3, e2, H⟩ := am_bd H
  have hF_tt3 := hF_t.tr ((wX6_copyFrom e2).mono (S' := fun b => b = a0 ∨ b = a0 + 1 ∨ b = a0 + 10 ∨ b = a0 + 2 ∨ b = a0 + 3 ∨ b = a0 + 4 ∨ b = a0 + 5 ∨ b = a0 + 6 ∨ b = a0 + 7 ∨ b = a0 + 8 ∨ b = a0 + 9) (fun b hb => (by have hb : b = (a0 + 1) ∨ b = (a0 + 1) + 1 ∨ b = (a0 + 1) + 2 ∨ b = (a0 + 1) + 3 ∨ b = (a0 + 1) + 4 ∨ b = (a0 + 1) + 5 ∨ b = (a0 + 1) + 6 := hb; show b = a0 ∨ b = a0 + 1 ∨ b = a0 + 10 ∨ b = a0 + 2 ∨ b = a0 + 3 ∨ b = a0 + 4 ∨ b = a0 + 5 ∨ b = a0 + 6 ∨ b = a0 + 7 ∨ b = a0 + 8 ∨ b = a0 + 9; omega)))
  obtain ⟨tt7, e6, H⟩ := am_bd H
  have hF_tt7 := hF_tt3.tr ((wX5_copyFrom e6).mono (S' := fun b => b = a0 ∨ b = a0 + 1 ∨ b = a0 + 10 ∨ b = a0 + 2 ∨ b = a0 + 3 ∨ b = a0 + 4 ∨ b = a0 + 5 ∨ b = a0 + 6 ∨ b = a0 + 7 ∨ b = a0 + 8 ∨ b = a0 + 9) (fun b hb => (by have hb : b = (a0 + 8) ∨ b = (a0 + 8) + 1 ∨ b = (a0 + 8) + 2 := hb; show b = a0 ∨ b = a0 + 1 ∨ b = a0 + 10 ∨ b = a0 + 2 ∨ b = a0 + 3 ∨ b = a0 + 4 ∨ b = a0 + 5 ∨ b = a0 + 6 ∨ b = a0 + 7 ∨ b = a0 + 8 ∨ b = a0 + 9; omega)))
  obtain ⟨tt10, et11, H⟩ := am_bd H
  have hF_tt10 := hF_tt7.tr (sm_I (S := fun b => b = a0 ∨ b = a0 + 1 ∨ b = a0 + 10 ∨ b = a0 + 2 ∨ b = a0 + 3 ∨ b = a0 + 4 ∨ b = a0 + 5 ∨ b = a0 + 6 ∨ b = a0 + 7 ∨ b = a0 + 8 ∨ b = a0 + 9) et11 (show a0 = a0 ∨ a0 = a0 + 1 ∨ a0 = a0 + 10 ∨ a0 = a0 + 2 ∨ a0 = a0 + 3 ∨ a0 = a0 + 4 ∨ a0 = a0 + 5 ∨ a0 = a0 + 6 ∨ a0 = a0 + 7 ∨ a0 = a0 + 8 ∨ a0 = a0 + 9 by omega))
  obtain rfl := Option.some.inj H
  exact hF_tt10
set_option maxHeartbeats 4000000 in
theorem wX3_add {a0 : Nat} {a1 : Int32} {a2 : Int32} {a3 : Int32} {t : tS} {t1 : tS} (H : tX3_add a0 a1 a2 a3 t = some t1) : Sm (fun b => b = a0 ∨ b = a0 + 1 ∨ b = a0 + 2 ∨ b = a0 + 3) t t1 := by
  unfold tX3_add at H
  have hF_t : Sm (fun b => b = a0 ∨ b = a0 + 1 ∨ b = a0 + 2 ∨ b = a0 + 3) t t := Sm.rf
  obtain ⟨tt3, E4, H⟩ := am_bd H
  have hF_tt3 : Sm (fun b => b = a0 ∨ b = a0 + 1 ∨ b = a0 + 2 ∨ b = a0 + 3) t tt3 := by
    clear H
    have H := E4
    clear E4
    split at H
    · obtain rfl := Option.some.inj H
      exact hF_t
    · obtain ⟨tt8, e9, H⟩ := am_bd H
      have hF_tt8 := hF_t.tr (sm_WA (S := fun b => b = a0 ∨ b = a0 + 1 ∨ b = a0 + 2 ∨ b = a0 + 3) e9 (show (a0 + 1) = a0 ∨ (a0 + 1) = a0 + 1 ∨ (a0 + 1) = a0 + 2 ∨ (a0 + 1) = a0 + 3 by omega))
      obtain ⟨tt13, e14, H⟩ := am_bd H
      have hF_tt13 := hF_tt8.tr (sm_WA (S := fun b => b = a0 ∨ b = a0 + 1 ∨ b = a0 + 2 ∨ b = a0 + 3) e14 (show (a0 + 2) = a0 ∨ (a0 + 2) = a0 + 1 ∨ (a0 + 2) = a0 + 2 ∨ (a0 + 2) = a0 + 3 by omega))
      obtain ⟨tt18, e19, H⟩ := am_bd H
      have hF_tt18 := hF_tt13.tr (sm_WA (S := fun b => b = a0 ∨ b = a0 + 1 ∨ b = a0 + 2 ∨ b = a0 + 3) e19 (show (a0 + 3) = a0 ∨ (a0 + 3) = a0 + 1 ∨ (a0 + 3) = a0 + 2 ∨ (a0 + 3) = a0 + 3 by omega))
      obtain ⟨tt22, et23, H⟩ := am_bd H
      have hF_tt22 := hF_tt18.tr (sm_I (S := fun b => b = a0 ∨ b = a0 + 1 ∨ b = a0 + 2 ∨ b = a0 + 3) et23 (show a0 = a0 ∨ a0 = a0 + 1 ∨ a0 = a0 + 2 ∨ a0 = a0 + 3 by omega))
      obtain rfl := Option.some.inj H
      exact hF_tt22
  clear E4
  obtain rfl := Option.some.inj H
  exact hF_tt3
set_option maxHeartbeats 4000000 in
theorem wX6_leave {a0 : Nat} {a1 : Int32} {t : tS} {t1 : tS} (H : tX6_leave a0 a1 t = some t1) : Sm (fun b => b = a0 + 4 ∨ b = a0 + 5) t t1 := by
  unfold tX6_leave at H
  have hF_t : Sm (fun b => b = a0 + 4 ∨ b = a0 + 5) t t := Sm.rf
  obtain ⟨tt3, e4, H⟩ := am_bd H
  have hF_tt3 := hF_t.tr (sm_WA (S := fun b => b = a0 + 4 ∨ b = a0 + 5) e4 (show (a0 + 4) = a0 + 4 ∨ (a0 + 4) = a0 + 5 by omega))
  obtain ⟨tt7, e8, H⟩ := am_bd H
  have hF_tt7 := hF_tt3.tr (sm_WA (S := fun b => b = a0 + 4 ∨ b = a0 + 5) e8 (show (a0 + 5) = a0 + 4 ∨ (a0 + 5) = a0 + 5 by omega))
  obtain rfl := Option.some.inj H
  exact hF_tt7
set_option maxHeartbeats 4000000 in
theorem wX6_receive {a0 : Nat} {a1 : Nat} {a2 : Int32} {a3 : Int32} {t : tS} {t1 : tS} (H : tX6_receive a0 a1 a2 a3 t = some t1) : Sm (fun b => b = a0 ∨ b = a0 + 3 ∨ b = a0 + 4 ∨ b = a0 + 5 ∨ b = a0 + 6 ∨ b = a1 + 13) t t1 := by
  unfold tX6_receive at H
  have hF_t : Sm (fun b => b = a0 ∨ b = a0 + 3 ∨ b = a0 + 4 ∨ b = a0 + 5 ∨ b = a0 + 6 ∨ b = a1 + 13) t t := Sm.rf
  split at H
  · obtain ⟨tt3, e4, H⟩ := am_bd H
    have hF_tt3 := hF_t.tr (sm_WA (S := fun b => b = a0 ∨ b = a0 + 3 ∨ b = a0 + 4 ∨ b = a0 + 5 ∨ b = a0 + 6 ∨ b = a1 + 13) e4 (show (a0 + 4) = a0 ∨ (a0 + 4) = a0 + 3 ∨ (a0 + 4) = a0 + 4 ∨ (a0 + 4) = a0 + 5 ∨ (a0 + 4) = a0 + 6 ∨ (a0 + 4) = a1 + 13 by omega))
    obtain ⟨tt7, e8, H⟩ := am_bd H
    have hF_tt7 := hF_tt3.tr (sm_WA (S := fun b => b = a0 ∨ b = a0 + 3 ∨ b = a0 + 4 ∨ b = a0 + 5 ∨ b = a0 + 6 ∨ b = a1 + 13) e8 (show (a0 + 5) = a0 ∨ (a0 + 5) = a0 + 3 ∨ (a0 + 5) = a0 + 4 ∨ (a0 + 5) = a0 + 5 ∨ (a0 + 5) = a0 + 6 ∨ (a0 + 5) = a1 + 13 by omega))
    obtain ⟨x10, _, H⟩ := am_bd H
    obtain ⟨tt12, e13, H⟩ := am_bd H
    have hF_tt12 := hF_tt7.tr (sm_WA (S := fun b => b = a0 ∨ b = a0 + 3 ∨ b = a0 + 4 ∨ b = a0 + 5 ∨ b = a0 + 6 ∨ b = a1 + 13) e13 (show (a0 + 6) = a0 ∨ (a0 + 6) = a0 + 3 ∨ (a0 + 6) = a0 + 4 ∨ (a0 + 6) = a0 + 5 ∨ (a0 + 6) = a0 + 6 ∨ (a0 + 6) = a1 + 13 by omega))
    obtain ⟨tt16, et17, H⟩ := am_bd H
    have hF_tt16 := hF_tt12.tr (sm_I (S := fun b => b = a0 ∨ b = a0 + 3 ∨ b = a0 + 4 ∨ b = a0 + 5 ∨ b = a0 + 6 ∨ b = a1 + 13) et17 (show a0 = a0 ∨ a0 = a0 + 3 ∨ a0 = a0 + 4 ∨ a0 = a0 + 5 ∨ a0 = a0 + 6 ∨ a0 = a1 + 13 by omega))
    obtain ⟨x19, _, H⟩ := am_bd H
    obtain ⟨x21, _, H⟩ := am_bd H
    obtain ⟨js23, tt25, E26, H⟩ := am_bd2 H
    have hF_tt25 : Sm (fun b => b = a0 ∨ b = a0 + 3 ∨ b = a0 + 4 ∨ b = a0 + 5 ∨ b = a0 + 6 ∨ b = a1 + 13) t tt25 := by
      clear H
      have H := E26
      clear E26
      split at H
      · obtain ⟨rfl, rfl⟩ := am_inj2 H
        exact hF_tt16
      · obtain ⟨x29, _, H⟩ := am_bd H
        obtain ⟨x32, _, H⟩ := am_bd H
        obtain ⟨x34, tt35, e33, H⟩ := am_bd2 H
        have hF_tt35 := hF_tt16.tr ((wX1_value e33).mono (S' := fun b => b = a0 ∨ b = a0 + 3 ∨ b = a0 + 4 ∨ b = a0 + 5 ∨ b = a0 + 6 ∨ b = a1 + 13) (fun b hb => (by have hb : b = (a1 + 11) + 2 := hb; show b = a0 ∨ b = a0 + 3 ∨ b = a0 + 4 ∨ b = a0 + 5 ∨ b = a0 + 6 ∨ b = a1 + 13; omega)))
        obtain ⟨rfl, rfl⟩ := am_inj2 H
        exact hF_tt35
    clear E26
    obtain ⟨x39, _, H⟩ := am_bd H
    obtain ⟨x41, _, H⟩ := am_bd H
    obtain ⟨x43, _, H⟩ := am_bd H
    obtain ⟨tt45, e46, H⟩ := am_bd H
    have hF_tt45 := hF_tt25.tr (sm_WA (S := fun b => b = a0 ∨ b = a0 + 3 ∨ b = a0 + 4 ∨ b = a0 + 5 ∨ b = a0 + 6 ∨ b = a1 + 13) e46 (show (a0 + 3) = a0 ∨ (a0 + 3) = a0 + 3 ∨ (a0 + 3) = a0 + 4 ∨ (a0 + 3) = a0 + 5 ∨ (a0 + 3) = a0 + 6 ∨ (a0 + 3) = a1 + 13 by omega))
    obtain rfl := Option.some.inj H
    exact hF_tt45
  · obtain ⟨tt49, et50, H⟩ := am_bd H
    have hF_tt49 := hF_t.tr (sm_I (S := fun b => b = a0 ∨ b = a0 + 3 ∨ b = a0 + 4 ∨ b = a0 + 5 ∨ b = a0 + 6 ∨ b = a1 + 13) et50 (show a0 = a0 ∨ a0 = a0 + 3 ∨ a0 = a0 + 4 ∨ a0 = a0 + 5 ∨ a0 = a0 + 6 ∨ a0 = a1 + 13 by omega))
    obtain ⟨tt53, et54, H⟩ := am_bd H
    have hF_tt53 := hF_tt49.tr (sm_I (S := fun b => b = a0 ∨ b = a0 + 3 ∨ b = a0 + 4 ∨ b = a0 + 5 ∨ b = a0 + 6 ∨ b = a1 + 13) et54 (show a0 = a0 ∨ a0 = a0 + 3 ∨ a0 = a0 + 4 ∨ a0 = a0 + 5 ∨ a0 = a0 + 6 ∨ a0 = a1 + 13 by omega))
    obtain rfl := Option.some.inj H
    exact hF_tt53
set_option maxHeartbeats 4000000 in
theorem wX6_stayLonger {a0 : Nat} {a1 : Nat} {a2 : Int32} {t : tS} {t1 : tS} (H : tX6_stayLonger a0 a1 a2 t = some t1) : Sm (fun b => b = a0 + 4 ∨ b = a0 + 5) t t1 := by
  unfold tX6_stayLonger at H
  have hF_t : Sm (fun b => b = a0 + 4 ∨ b = a0 + 5) t t := Sm.rf
  obtain ⟨x2, _, H⟩ := am_bd H
  obtain ⟨tt4, E5, H⟩ := am_bd H
  have hF_tt4 : Sm (fun b => b = a0 + 4 ∨ b = a0 + 5) t tt4 := by
    clear H
    have H := E5
    clear E5
    split at H
    · obtain rfl := Option.some.inj H
      exact hF_t
    · obtain ⟨x7, _, H⟩ := am_bd H
      obtain ⟨tt9, e10, H⟩ := am_bd H
      have hF_tt9 := hF_t.tr (sm_WA (S := fun b => b = a0 + 4 ∨ b = a0 + 5) e10 (show (a0 + 5) = a0 + 4 ∨ (a0 + 5) = a0 + 5 by omega))
      obtain ⟨x12, _, H⟩ := am_bd H
      split at H
      · obtain rfl := Option.some.inj H
        exact hF_tt9
      · obtain ⟨tt15, e14, H⟩ := am_bd H
        have hF_tt15 := hF_tt9.tr ((wX6_leave e14).mono (S' := fun b => b = a0 + 4 ∨ b = a0 + 5) (fun b hb => (by have hb : b = a0 + 4 ∨ b = a0 + 5 := hb; show b = a0 + 4 ∨ b = a0 + 5; omega)))
        obtain rfl := Option.some.inj H
        exact hF_tt15
  clear E5
  obtain rfl := Option.some.inj H
  exact hF_tt4
set_option maxHeartbeats 4000000 in
theorem wX6_passDate_L36 : ∀ (n : Nat) (v0 : Nat) (v1 : Nat) (v2 : Int32) (t : tS) (t1 : tS), tX6_passDate_L36 n v0 v1 v2 t = some t1 → Sm (fun b => b = v0 + 4 ∨ b = v0 + 5) t t1 := by
  intro n
  induction n with
  | zero => intro _ _ _ _ _ H; cases H
  | succ n ih =>
    intro v0 v1 v2 t t1 H
    rw [tX6_passDate_L36] at H
    have hF_t : Sm (fun b => b = v0 + 4 ∨ b = v0 + 5) t t := Sm.rf
    split at H
    · obtain rfl := Option.some.inj H
      exact hF_t
    · obtain ⟨tt18, e17, H⟩ := am_bd H
      have hF_tt18 := hF_t.tr ((wX6_stayLonger e17).mono (S' := fun b => b = v0 + 4 ∨ b = v0 + 5) (fun b hb => (by have hb : b = v0 + 4 ∨ b = v0 + 5 := hb; show b = v0 + 4 ∨ b = v0 + 5; omega)))
      exact hF_tt18.tr (ih _ _ _ _ _ H)
set_option maxHeartbeats 4000000 in
theorem wX6_passDate_L68 : ∀ (n : Nat) (v0 : Nat) (v1 : Nat) (v2 : Int32) (t : tS) (t1 : tS), tX6_passDate_L68 n v0 v1 v2 t = some t1 → Sm (fun b => b = v0 ∨ b = v0 + 3 ∨ b = v0 + 4 ∨ b = v0 + 5 ∨ b = v0 + 6 ∨ b = v1 + 13) t t1 := by
  intro n
  induction n with
  | zero => intro _ _ _ _ _ H; cases H
  | succ n ih =>
    intro v0 v1 v2 t t1 H
    rw [tX6_passDate_L68] at H
    have hF_t : Sm (fun b => b = v0 ∨ b = v0 + 3 ∨ b = v0 + 4 ∨ b = v0 + 5 ∨ b = v0 + 6 ∨ b = v1 + 13) t t := Sm.rf
    split at H
    · obtain rfl := Option.some.inj H
      exact hF_t
    · obtain ⟨x31, _, H⟩ := am_bd H
      obtain ⟨tt33, E34, H⟩ := am_bd H
      have hF_tt33 : Sm (fun b => b = v0 ∨ b = v0 + 3 ∨ b = v0 + 4 ∨ b = v0 + 5 ∨ b = v0 + 6 ∨ b = v1 + 13) t tt33 := by
        clear H
        have H := E34
        clear E34
        split at H
        · obtain rfl := Option.some.inj H
          exact hF_t
        · obtain ⟨x36, _, H⟩ := am_bd H
          obtain ⟨tt38, e37, H⟩ := am_bd H
          have hF_tt38 := hF_t.tr ((wX6_receive e37).mono (S' := fun b => b = v0 ∨ b = v0 + 3 ∨ b = v0 + 4 ∨ b = v0 + 5 ∨ b = v0 + 6 ∨ b = v1 + 13) (fun b hb => (by have hb : b = v0 ∨ b = v0 + 3 ∨ b = v0 + 4 ∨ b = v0 + 5 ∨ b = v0 + 6 ∨ b = v1 + 13 := hb; show b = v0 ∨ b = v0 + 3 ∨ b = v0 + 4 ∨ b = v0 + 5 ∨ b = v0 + 6 ∨ b = v1 + 13; omega)))
          obtain rfl := Option.some.inj H
          exact hF_tt38
      clear E34
      exact hF_tt33.tr (ih _ _ _ _ _ H)
set_option maxHeartbeats 4000000 in
theorem wX6_passDate {a0 : Nat} {a1 : Nat} {t : tS} {t1 : tS} (H : tX6_passDate a0 a1 t = some t1) : Sm (fun b => b = a0 ∨ b = a0 + 3 ∨ b = a0 + 4 ∨ b = a0 + 5 ∨ b = a0 + 6 ∨ b = a1 + 13) t t1 := by
  unfold tX6_passDate at H
  have hF_t : Sm (fun b => b = a0 ∨ b = a0 + 3 ∨ b = a0 + 4 ∨ b = a0 + 5 ∨ b = a0 + 6 ∨ b = a1 + 13) t t := Sm.rf
  obtain ⟨tt3, et4, H⟩ := am_bd H
  have hF_tt3 := hF_t.tr (sm_I (S := fun b => b = a0 ∨ b = a0 + 3 ∨ b = a0 + 4 ∨ b = a0 + 5 ∨ b = a0 + 6 ∨ b = a1 + 13) et4 (show a0 = a0 ∨ a0 = a0 + 3 ∨ a0 = a0 + 4 ∨ a0 = a0 + 5 ∨ a0 = a0 + 6 ∨ a0 = a1 + 13 by omega))
  obtain ⟨tt7, E8, H⟩ := am_bd H
  have hF_tt7 : Sm (fun b => b = a0 ∨ b = a0 + 3 ∨ b = a0 + 4 ∨ b = a0 + 5 ∨ b = a0 + 6 ∨ b = a1 + 13) t tt7 := by
    clear H
    have H := E8
    clear E8
    split at H
    · obtain rfl := Option.some.inj H
      exact hF_tt3
    · obtain ⟨tt10, et11, H⟩ := am_bd H
      have hF_tt10 := hF_tt3.tr (sm_I (S := fun b => b = a0 ∨ b = a0 + 3 ∨ b = a0 + 4 ∨ b = a0 + 5 ∨ b = a0 + 6 ∨ b = a1 + 13) et11 (show a0 = a0 ∨ a0 = a0 + 3 ∨ a0 = a0 + 4 ∨ a0 = a0 + 5 ∨ a0 = a0 + 6 ∨ a0 = a1 + 13 by omega))
      obtain ⟨tt14, et15, H⟩ := am_bd H
      have hF_tt14 := hF_tt10.tr (sm_I (S := fun b => b = a0 ∨ b = a0 + 3 ∨ b = a0 + 4 ∨ b = a0 + 5 ∨ b = a0 + 6 ∨ b = a1 + 13) et15 (show a0 = a0 ∨ a0 = a0 + 3 ∨ a0 = a0 + 4 ∨ a0 = a0 + 5 ∨ a0 = a0 + 6 ∨ a0 = a1 + 13 by omega))
      obtain rfl := Option.some.inj H
      exact hF_tt14
  clear E8
  obtain ⟨tt22, E20, H⟩ := am_bd H
  have hF_tt22 := hF_tt7.tr (Sm.mono (S' := fun b => b = a0 ∨ b = a0 + 3 ∨ b = a0 + 4 ∨ b = a0 + 5 ∨ b = a0 + 6 ∨ b = a1 + 13) (wX6_passDate_L36 _ _ _ _ _ _ E20) (fun b hb => (by have hb : b = a0 + 4 ∨ b = a0 + 5 := hb; show b = a0 ∨ b = a0 + 3 ∨ b = a0 + 4 ∨ b = a0 + 5 ∨ b = a0 + 6 ∨ b = a1 + 13; omega)))
  clear E20
  obtain ⟨tt24, et25, H⟩ := am_bd H
  have hF_tt24 := hF_tt22.tr (sm_I (S := fun b => b = a0 ∨ b = a0 + 3 ∨ b = a0 + 4 ∨ b = a0 + 5 ∨ b = a0 + 6 ∨ b = a1 + 13) et25 (show a0 = a0 ∨ a0 = a0 + 3 ∨ a0 = a0 + 4 ∨ a0 = a0 + 5 ∨ a0 = a0 + 6 ∨ a0 = a1 + 13 by omega))
  obtain ⟨tt27, et28, H⟩ := am_bd H
  have hF_tt27 := hF_tt24.tr (sm_I (S := fun b => b = a0 ∨ b = a0 + 3 ∨ b = a0 + 4 ∨ b = a0 + 5 ∨ b = a0 + 6 ∨ b = a1 + 13) et28 (show a0 = a0 ∨ a0 = a0 + 3 ∨ a0 = a0 + 4 ∨ a0 = a0 + 5 ∨ a0 = a0 + 6 ∨ a0 = a1 + 13 by omega))
  obtain ⟨tt42, E40, H⟩ := am_bd H
  have hF_tt42 := hF_tt27.tr (Sm.mono (S' := fun b => b = a0 ∨ b = a0 + 3 ∨ b = a0 + 4 ∨ b = a0 + 5 ∨ b = a0 + 6 ∨ b = a1 + 13) (wX6_passDate_L68 _ _ _ _ _ _ E40) (fun b hb => (by have hb : b = a0 ∨ b = a0 + 3 ∨ b = a0 + 4 ∨ b = a0 + 5 ∨ b = a0 + 6 ∨ b = a1 + 13 := hb; show b = a0 ∨ b = a0 + 3 ∨ b = a0 + 4 ∨ b = a0 + 5 ∨ b = a0 + 6 ∨ b = a1 + 13; omega)))
  clear E40
  obtain rfl := Option.some.inj H
  exact hF_tt42
set_option maxHeartbeats 4000000 in
theorem wX6_shift {a0 : Nat} {a1 : Int32} {a2 : Int32} {t : tS} {t1 : tS} (H : tX6_shift a0 a1 a2 t = some t1) : Sm (fun b => b = a0 + 4) t t1 := by
  unfold tX6_shift at H
  have hF_t : Sm (fun b => b = a0 + 4) t t := Sm.rf
  obtain ⟨tt3, e4, H⟩ := am_bd H
  have hF_tt3 := hF_t.tr (sm_WA (S := fun b => b = a0 + 4) e4 (show (a0 + 4) = a0 + 4 by omega))
  obtain rfl := Option.some.inj H
  exact hF_tt3
set_option maxHeartbeats 4000000 in
theorem wX3_carryOut {a0 : Nat} {a1 : Int32} {a2 : Nat} {a3 : Nat} {t : tS} {r : Int32} {t1 : tS} (H : tX3_carryOut a0 a1 a2 a3 t = some (r, t1)) : Sm (fun b => b = a2 + 13 ∨ b = a3 ∨ b = a3 + 1 ∨ b = a3 + 3 ∨ b = a3 + 4 ∨ b = a3 + 5 ∨ b = a3 + 6) t t1 := by
  unfold tX3_carryOut at H
  have hF_t : Sm (fun b => b = a2 + 13 ∨ b = a3 ∨ b = a3 + 1 ∨ b = a3 + 3 ∨ b = a3 + 4 ∨ b = a3 + 5 ∨ b = a3 + 6) t t := Sm.rf
  obtain ⟨x2, _, H⟩ := am_bd H
  obtain ⟨x4, _, H⟩ := am_bd H
  obtain ⟨x6, _, H⟩ := am_bd H
  split at H
  · obtain ⟨tt8, e7, H⟩ := am_bd H
    have hF_tt8 := hF_t.tr ((wX6_passDate e7).mono (S' := fun b => b = a2 + 13 ∨ b = a3 ∨ b = a3 + 1 ∨ b = a3 + 3 ∨ b = a3 + 4 ∨ b = a3 + 5 ∨ b = a3 + 6) (fun b hb => (by have hb : b = a3 ∨ b = a3 + 3 ∨ b = a3 + 4 ∨ b = a3 + 5 ∨ b = a3 + 6 ∨ b = a2 + 13 := hb; show b = a2 + 13 ∨ b = a3 ∨ b = a3 + 1 ∨ b = a3 + 3 ∨ b = a3 + 4 ∨ b = a3 + 5 ∨ b = a3 + 6; omega)))
    obtain ⟨rfl, rfl⟩ := am_inj2 H
    exact hF_tt8
  · obtain ⟨_, _, H⟩ := am_bd H
    split at H
    · obtain ⟨x11, _, H⟩ := am_bd H
      split at H
      · obtain ⟨tt13, e12, H⟩ := am_bd H
        have hF_tt13 := hF_t.tr ((wX6_shift e12).mono (S' := fun b => b = a2 + 13 ∨ b = a3 ∨ b = a3 + 1 ∨ b = a3 + 3 ∨ b = a3 + 4 ∨ b = a3 + 5 ∨ b = a3 + 6) (fun b hb => (by have hb : b = a3 + 4 := hb; show b = a2 + 13 ∨ b = a3 ∨ b = a3 + 1 ∨ b = a3 + 3 ∨ b = a3 + 4 ∨ b = a3 + 5 ∨ b = a3 + 6; omega)))
        obtain ⟨rfl, rfl⟩ := am_inj2 H
        exact hF_tt13
      · obtain ⟨rfl, rfl⟩ := am_inj2 H
        exact hF_t
    · skip
      split at H
      · obtain ⟨x16, _, H⟩ := am_bd H
        split at H
        · obtain ⟨tt18, e17, H⟩ := am_bd H
          have hF_tt18 := hF_t.tr ((wX6_leave e17).mono (S' := fun b => b = a2 + 13 ∨ b = a3 ∨ b = a3 + 1 ∨ b = a3 + 3 ∨ b = a3 + 4 ∨ b = a3 + 5 ∨ b = a3 + 6) (fun b hb => (by have hb : b = a3 + 4 ∨ b = a3 + 5 := hb; show b = a2 + 13 ∨ b = a3 ∨ b = a3 + 1 ∨ b = a3 + 3 ∨ b = a3 + 4 ∨ b = a3 + 5 ∨ b = a3 + 6; omega)))
          obtain ⟨rfl, rfl⟩ := am_inj2 H
          exact hF_tt18
        · obtain ⟨rfl, rfl⟩ := am_inj2 H
          exact hF_t
      · skip
        split at H
        · obtain ⟨x21, _, H⟩ := am_bd H
          split at H
          · obtain ⟨x23, _, H⟩ := am_bd H
            obtain ⟨tt25, e26, H⟩ := am_bd H
            have hF_tt25 := hF_t.tr (sm_WA (S := fun b => b = a2 + 13 ∨ b = a3 ∨ b = a3 + 1 ∨ b = a3 + 3 ∨ b = a3 + 4 ∨ b = a3 + 5 ∨ b = a3 + 6) e26 (show (a3 + 1) = a2 + 13 ∨ (a3 + 1) = a3 ∨ (a3 + 1) = a3 + 1 ∨ (a3 + 1) = a3 + 3 ∨ (a3 + 1) = a3 + 4 ∨ (a3 + 1) = a3 + 5 ∨ (a3 + 1) = a3 + 6 by omega))
            obtain ⟨rfl, rfl⟩ := am_inj2 H
            exact hF_tt25
          · obtain ⟨rfl, rfl⟩ := am_inj2 H
            exact hF_t
        · skip
          cases H
set_option maxHeartbeats 4000000 in
theorem wX4_passTold {a1 : Int32} {a2 : Int32} {t : tS} {r : Int32} {t1 : tS} (H : tX4_passTold a1 a2 t = some (r, t1)) : Sm (fun b => b = 1) t t1 := by
  unfold tX4_passTold at H
  have hF_t : Sm (fun b => b = 1) t t := Sm.rf
  obtain ⟨x2, _, H⟩ := am_bd H
  split at H
  · split at H
    · obtain ⟨x4, _, H⟩ := am_bd H
      split at H
      · obtain ⟨tt6, et7, H⟩ := am_bd H
        have hF_tt6 := hF_t.tr (sm_I (S := fun b => b = 1) et7 (show 1 = 1 by omega))
        obtain ⟨tt9, e8, H⟩ := am_bd H
        have hF_tt9 := hF_tt6.tr ((wX7_step e8).mono (S' := fun b => b = 1) (fun b hb => (by have hb : b = 1 := hb; show b = 1; omega)))
        obtain ⟨rfl, rfl⟩ := am_inj2 H
        exact hF_tt9
      · obtain ⟨x12, tt13, e11, H⟩ := am_bd2 H
        have hF_tt13 := hF_t.tr ((wX7_refuse e11).mono (S' := fun b => b = 1) (fun b hb => (by have hb : b = 1 := hb; show b = 1; omega)))
        obtain ⟨_, _, H⟩ := am_bd H
        obtain ⟨rfl, rfl⟩ := am_inj2 H
        exact hF_tt13
    · obtain ⟨x16, tt17, e15, H⟩ := am_bd2 H
      have hF_tt17 := hF_t.tr ((wX7_refuse e15).mono (S' := fun b => b = 1) (fun b hb => (by have hb : b = 1 := hb; show b = 1; omega)))
      obtain ⟨_, _, H⟩ := am_bd H
      obtain ⟨rfl, rfl⟩ := am_inj2 H
      exact hF_tt17
  · obtain ⟨x20, tt21, e19, H⟩ := am_bd2 H
    have hF_tt21 := hF_t.tr ((wX7_refuse e19).mono (S' := fun b => b = 1) (fun b hb => (by have hb : b = 1 := hb; show b = 1; omega)))
    obtain ⟨_, _, H⟩ := am_bd H
    obtain ⟨rfl, rfl⟩ := am_inj2 H
    exact hF_tt21
set_option maxHeartbeats 4000000 in
theorem wX4_passDay {a1 : Nat} {a2 : Int32} {t : tS} {r : Int32} {t1 : tS} (H : tX4_passDay a1 a2 t = some (r, t1)) : Sm (fun b => b = 1) t t1 := by
  unfold tX4_passDay at H
  have hF_t : Sm (fun b => b = 1) t t := Sm.rf
  obtain ⟨x3, _, H⟩ := am_bd H
  obtain ⟨x5, tt6, e4, H⟩ := am_bd2 H
  have hF_tt6 := hF_t.tr ((wX4_passTold e4).mono (S' := fun b => b = 1) (fun b hb => (by have hb : b = 1 := hb; show b = 1; omega)))
  obtain ⟨_, _, H⟩ := am_bd H
  obtain ⟨rfl, rfl⟩ := am_inj2 H
  exact hF_tt6
set_option maxHeartbeats 4000000 in
theorem wX4_readClash {a1 : Nat} {t : tS} {r : Int32} {t1 : tS} (H : tX4_readClash a1 t = some (r, t1)) : Sm (fun b => b = 1 ∨ b = a1 + 9) t t1 := by
  unfold tX4_readClash at H
  have hF_t : Sm (fun b => b = 1 ∨ b = a1 + 9) t t := Sm.rf
  obtain ⟨tt2, e1, H⟩ := am_bd H
  have hF_tt2 := hF_t.tr ((wX7_step e1).mono (S' := fun b => b = 1 ∨ b = a1 + 9) (fun b hb => (by have hb : b = 1 := hb; show b = 1 ∨ b = a1 + 9; omega)))
  obtain ⟨x5, tt6, e4, H⟩ := am_bd2 H
  have hF_tt6 := hF_tt2.tr ((wX4_passDay e4).mono (S' := fun b => b = 1 ∨ b = a1 + 9) (fun b hb => (by have hb : b = 1 := hb; show b = 1 ∨ b = a1 + 9; omega)))
  split at H
  · obtain ⟨x10, _, H⟩ := am_bd H
    obtain ⟨x12, tt13, e11, H⟩ := am_bd2 H
    have hF_tt13 := hF_tt6.tr ((wX4_passDay e11).mono (S' := fun b => b = 1 ∨ b = a1 + 9) (fun b hb => (by have hb : b = 1 := hb; show b = 1 ∨ b = a1 + 9; omega)))
    split at H
    · obtain ⟨x17, _, H⟩ := am_bd H
      obtain ⟨tt19, e20, H⟩ := am_bd H
      have hF_tt19 := hF_tt13.tr (sm_WA (S := fun b => b = 1 ∨ b = a1 + 9) e20 (show (a1 + 9) = 1 ∨ (a1 + 9) = a1 + 9 by omega))
      obtain ⟨x22, _, H⟩ := am_bd H
      obtain ⟨tt24, e25, H⟩ := am_bd H
      have hF_tt24 := hF_tt19.tr (sm_WA (S := fun b => b = 1 ∨ b = a1 + 9) e25 (show (a1 + 9) = 1 ∨ (a1 + 9) = a1 + 9 by omega))
      obtain ⟨x27, tt28, e26, H⟩ := am_bd2 H
      have hF_tt28 := hF_tt24.tr ((wX7_passSign e26).mono (S' := fun b => b = 1 ∨ b = a1 + 9) (fun b hb => (by have hb : b = 1 := hb; show b = 1 ∨ b = a1 + 9; omega)))
      obtain ⟨_, _, H⟩ := am_bd H
      obtain ⟨rfl, rfl⟩ := am_inj2 H
      exact hF_tt28
    · obtain ⟨rfl, rfl⟩ := am_inj2 H
      exact hF_tt13
  · obtain ⟨rfl, rfl⟩ := am_inj2 H
    exact hF_tt6
set_option maxHeartbeats 4000000 in
theorem wX4_passHouse {a1 : Nat} {a2 : Int32} {t : tS} {r : Int32} {t1 : tS} (H : tX4_passHouse a1 a2 t = some (r, t1)) : Sm (fun b => b = 1) t t1 := by
  unfold tX4_passHouse at H
  have hF_t : Sm (fun b => b = 1) t t := Sm.rf
  obtain ⟨x3, _, H⟩ := am_bd H
  obtain ⟨x5, tt6, e4, H⟩ := am_bd2 H
  have hF_tt6 := hF_t.tr ((wX4_passTold e4).mono (S' := fun b => b = 1) (fun b hb => (by have hb : b = 1 := hb; show b = 1; omega)))
  obtain ⟨_, _, H⟩ := am_bd H
  obtain ⟨rfl, rfl⟩ := am_inj2 H
  exact hF_tt6
set_option maxHeartbeats 4000000 in
theorem wX4_passKind  {t : tS} {r : Int32} {t1 : tS} (H : tX4_passKind  t = some (r, t1)) : Sm (fun b => b = 1) t t1 := by
  unfold tX4_passKind at H
  have hF_t : Sm (fun b => b = 1) t t := Sm.rf
  obtain ⟨x2, _, H⟩ := am_bd H
  split at H
  · obtain ⟨x4, _, H⟩ := am_bd H
    split at H
    · obtain ⟨x6, _, H⟩ := am_bd H
      split at H
      · obtain ⟨x8, _, H⟩ := am_bd H
        split at H
        · obtain ⟨x10, tt11, e9, H⟩ := am_bd2 H
          have hF_tt11 := hF_t.tr ((wX7_refuse e9).mono (S' := fun b => b = 1) (fun b hb => (by have hb : b = 1 := hb; show b = 1; omega)))
          obtain ⟨_, _, H⟩ := am_bd H
          obtain ⟨rfl, rfl⟩ := am_inj2 H
          exact hF_tt11
        · obtain ⟨tt14, et15, H⟩ := am_bd H
          have hF_tt14 := hF_t.tr (sm_I (S := fun b => b = 1) et15 (show 1 = 1 by omega))
          obtain ⟨tt17, e16, H⟩ := am_bd H
          have hF_tt17 := hF_tt14.tr ((wX7_step e16).mono (S' := fun b => b = 1) (fun b hb => (by have hb : b = 1 := hb; show b = 1; omega)))
          obtain ⟨rfl, rfl⟩ := am_inj2 H
          exact hF_tt17
      · obtain ⟨tt20, et21, H⟩ := am_bd H
        have hF_tt20 := hF_t.tr (sm_I (S := fun b => b = 1) et21 (show 1 = 1 by omega))
        obtain ⟨tt23, e22, H⟩ := am_bd H
        have hF_tt23 := hF_tt20.tr ((wX7_step e22).mono (S' := fun b => b = 1) (fun b hb => (by have hb : b = 1 := hb; show b = 1; omega)))
        obtain ⟨rfl, rfl⟩ := am_inj2 H
        exact hF_tt23
    · obtain ⟨tt26, et27, H⟩ := am_bd H
      have hF_tt26 := hF_t.tr (sm_I (S := fun b => b = 1) et27 (show 1 = 1 by omega))
      obtain ⟨tt29, e28, H⟩ := am_bd H
      have hF_tt29 := hF_tt26.tr ((wX7_step e28).mono (S' := fun b => b = 1) (fun b hb => (by have hb : b = 1 := hb; show b = 1; omega)))
      obtain ⟨rfl, rfl⟩ := am_inj2 H
      exact hF_tt29
  · obtain ⟨tt32, et33, H⟩ := am_bd H
    have hF_tt32 := hF_t.tr (sm_I (S := fun b => b = 1) et33 (show 1 = 1 by omega))
    obtain ⟨tt35, e34, H⟩ := am_bd H
    have hF_tt35 := hF_tt32.tr ((wX7_step e34).mono (S' := fun b => b = 1) (fun b hb => (by have hb : b = 1 := hb; show b = 1; omega)))
    obtain ⟨rfl, rfl⟩ := am_inj2 H
    exact hF_tt35
set_option maxHeartbeats 4000000 in
theorem wX4_passNewName {a1 : Nat} {t : tS} {r : Int32} {t1 : tS} (H : tX4_passNewName a1 t = some (r, t1)) : Sm (fun b => b = 1) t t1 := by
  unfold tX4_passNewName at H
  have hF_t : Sm (fun b => b = 1) t t := Sm.rf
  obtain ⟨x2, _, H⟩ := am_bd H
  split at H
  · obtain ⟨x5, _, H⟩ := am_bd H
    split at H
    · obtain ⟨x7, tt8, e6, H⟩ := am_bd2 H
      have hF_tt8 := hF_t.tr ((wX7_refuse e6).mono (S' := fun b => b = 1) (fun b hb => (by have hb : b = 1 := hb; show b = 1; omega)))
      obtain ⟨_, _, H⟩ := am_bd H
      obtain ⟨rfl, rfl⟩ := am_inj2 H
      exact hF_tt8
    · obtain ⟨x12, _, H⟩ := am_bd H
      split at H
      · obtain ⟨tt14, e13, H⟩ := am_bd H
        have hF_tt14 := hF_t.tr ((wX7_step e13).mono (S' := fun b => b = 1) (fun b hb => (by have hb : b = 1 := hb; show b = 1; omega)))
        obtain ⟨rfl, rfl⟩ := am_inj2 H
        exact hF_tt14
      · obtain ⟨x17, tt18, e16, H⟩ := am_bd2 H
        have hF_tt18 := hF_t.tr ((wX7_refuse e16).mono (S' := fun b => b = 1) (fun b hb => (by have hb : b = 1 := hb; show b = 1; omega)))
        obtain ⟨_, _, H⟩ := am_bd H
        obtain ⟨rfl, rfl⟩ := am_inj2 H
        exact hF_tt18
  · obtain ⟨x21, tt22, e20, H⟩ := am_bd2 H
    have hF_tt22 := hF_t.tr ((wX7_refuse e20).mono (S' := fun b => b = 1) (fun b hb => (by have hb : b = 1 := hb; show b = 1; omega)))
    obtain ⟨_, _, H⟩ := am_bd H
    obtain ⟨rfl, rfl⟩ := am_inj2 H
    exact hF_tt22
set_option maxHeartbeats 4000000 in
theorem wX7_passNumber {a1 : Int32} {a2 : Int32} {t : tS} {r : Int32} {t1 : tS} (H : tX7_passNumber a1 a2 t = some (r, t1)) : Sm (fun b => b = 1) t t1 := by
  unfold tX7_passNumber at H
  have hF_t : Sm (fun b => b = 1) t t := Sm.rf
  obtain ⟨x2, _, H⟩ := am_bd H
  split at H
  · obtain ⟨x5, _, H⟩ := am_bd H
    split at H
    · obtain ⟨tt8, et9, H⟩ := am_bd H
      have hF_tt8 := hF_t.tr (sm_I (S := fun b => b = 1) et9 (show 1 = 1 by omega))
      obtain ⟨tt11, e10, H⟩ := am_bd H
      have hF_tt11 := hF_tt8.tr ((wX7_step e10).mono (S' := fun b => b = 1) (fun b hb => (by have hb : b = 1 := hb; show b = 1; omega)))
      obtain ⟨rfl, rfl⟩ := am_inj2 H
      exact hF_tt11
    · obtain ⟨x14, tt15, e13, H⟩ := am_bd2 H
      have hF_tt15 := hF_t.tr ((wX7_refuse e13).mono (S' := fun b => b = 1) (fun b hb => (by have hb : b = 1 := hb; show b = 1; omega)))
      obtain ⟨_, _, H⟩ := am_bd H
      obtain ⟨rfl, rfl⟩ := am_inj2 H
      exact hF_tt15
  · obtain ⟨x18, tt19, e17, H⟩ := am_bd2 H
    have hF_tt19 := hF_t.tr ((wX7_refuse e17).mono (S' := fun b => b = 1) (fun b hb => (by have hb : b = 1 := hb; show b = 1; omega)))
    obtain ⟨_, _, H⟩ := am_bd H
    obtain ⟨rfl, rfl⟩ := am_inj2 H
    exact hF_tt19
set_option maxHeartbeats 4000000 in
theorem wX7_passWord {a1 : Nat} {t : tS} {r : Int32} {t1 : tS} (H : tX7_passWord a1 t = some (r, t1)) : Sm (fun b => b = 1) t t1 := by
  unfold tX7_passWord at H
  have hF_t : Sm (fun b => b = 1) t t := Sm.rf
  obtain ⟨x2, _, H⟩ := am_bd H
  split at H
  · obtain ⟨tt4, e3, H⟩ := am_bd H
    have hF_tt4 := hF_t.tr ((wX7_step e3).mono (S' := fun b => b = 1) (fun b hb => (by have hb : b = 1 := hb; show b = 1; omega)))
    obtain ⟨rfl, rfl⟩ := am_inj2 H
    exact hF_tt4
  · obtain ⟨x7, tt8, e6, H⟩ := am_bd2 H
    have hF_tt8 := hF_t.tr ((wX7_refuse e6).mono (S' := fun b => b = 1) (fun b hb => (by have hb : b = 1 := hb; show b = 1; omega)))
    obtain ⟨_, _, H⟩ := am_bd H
    obtain ⟨rfl, rfl⟩ := am_inj2 H
    exact hF_tt8
set_option maxHeartbeats 4000000 in
theorem wX8_addDay {a0 : Nat} {a1 : Int64} {a2 : Int32} {a3 : Int32} {a4 : Int32} {a5 : Int32} {t : tS} {t1 : tS} (H : tX8_addDay a0 a1 a2 a3 a4 a5 t = some t1) : Sm (fun b => b = a0 ∨ b = a0 + 10 ∨ b = a0 + 4 ∨ b = a0 + 5 ∨ b = a0 + 6 ∨ b = a0 + 7 ∨ b = a0 + 8) t t1 := by
  unfold tX8_addDay at H
  have hF_t : Sm (fun b => b = a0 ∨ b = a0 + 10 ∨ b = a0 + 4 ∨ b = a0 + 5 ∨ b = a0 + 6 ∨ b = a0 + 7 ∨ b = a0 + 8) t t := Sm.rf
  obtain ⟨tt3, E4, H⟩ := am_bd H
  have hF_tt3 : Sm (fun b => b = a0 ∨ b = a0 + 10 ∨ b = a0 + 4 ∨ b = a0 + 5 ∨ b = a0 + 6 ∨ b = a0 + 7 ∨ b = a0 + 8) t tt3 := by
    clear H
    have H := E4
    clear E4
    split at H
    · obtain rfl := Option.some.inj H
      exact hF_t
    · obtain ⟨tt8, e9, H⟩ := am_bd H
      have hF_tt8 := hF_t.tr (sm_WB (S := fun b => b = a0 ∨ b = a0 + 10 ∨ b = a0 + 4 ∨ b = a0 + 5 ∨ b = a0 + 6 ∨ b = a0 + 7 ∨ b = a0 + 8) e9 (show (a0 + 4) = a0 ∨ (a0 + 4) = a0 + 10 ∨ (a0 + 4) = a0 + 4 ∨ (a0 + 4) = a0 + 5 ∨ (a0 + 4) = a0 + 6 ∨ (a0 + 4) = a0 + 7 ∨ (a0 + 4) = a0 + 8 by omega))
      obtain ⟨tt13, e14, H⟩ := am_bd H
      have hF_tt13 := hF_tt8.tr (sm_WA (S := fun b => b = a0 ∨ b = a0 + 10 ∨ b = a0 + 4 ∨ b = a0 + 5 ∨ b = a0 + 6 ∨ b = a0 + 7 ∨ b = a0 + 8) e14 (show (a0 + 5) = a0 ∨ (a0 + 5) = a0 + 10 ∨ (a0 + 5) = a0 + 4 ∨ (a0 + 5) = a0 + 5 ∨ (a0 + 5) = a0 + 6 ∨ (a0 + 5) = a0 + 7 ∨ (a0 + 5) = a0 + 8 by omega))
      obtain ⟨tt18, e19, H⟩ := am_bd H
      have hF_tt18 := hF_tt13.tr (sm_WA (S := fun b => b = a0 ∨ b = a0 + 10 ∨ b = a0 + 4 ∨ b = a0 + 5 ∨ b = a0 + 6 ∨ b = a0 + 7 ∨ b = a0 + 8) e19 (show (a0 + 6) = a0 ∨ (a0 + 6) = a0 + 10 ∨ (a0 + 6) = a0 + 4 ∨ (a0 + 6) = a0 + 5 ∨ (a0 + 6) = a0 + 6 ∨ (a0 + 6) = a0 + 7 ∨ (a0 + 6) = a0 + 8 by omega))
      obtain ⟨tt23, e24, H⟩ := am_bd H
      have hF_tt23 := hF_tt18.tr (sm_WA (S := fun b => b = a0 ∨ b = a0 + 10 ∨ b = a0 + 4 ∨ b = a0 + 5 ∨ b = a0 + 6 ∨ b = a0 + 7 ∨ b = a0 + 8) e24 (show (a0 + 7) = a0 ∨ (a0 + 7) = a0 + 10 ∨ (a0 + 7) = a0 + 4 ∨ (a0 + 7) = a0 + 5 ∨ (a0 + 7) = a0 + 6 ∨ (a0 + 7) = a0 + 7 ∨ (a0 + 7) = a0 + 8 by omega))
      obtain ⟨tt28, e29, H⟩ := am_bd H
      have hF_tt28 := hF_tt23.tr (sm_WA (S := fun b => b = a0 ∨ b = a0 + 10 ∨ b = a0 + 4 ∨ b = a0 + 5 ∨ b = a0 + 6 ∨ b = a0 + 7 ∨ b = a0 + 8) e29 (show (a0 + 8) = a0 ∨ (a0 + 8) = a0 + 10 ∨ (a0 + 8) = a0 + 4 ∨ (a0 + 8) = a0 + 5 ∨ (a0 + 8) = a0 + 6 ∨ (a0 + 8) = a0 + 7 ∨ (a0 + 8) = a0 + 8 by omega))
      obtain ⟨js32, E33, H⟩ := am_bd H
      clear E33
      obtain ⟨tt35, e36, H⟩ := am_bd H
      have hF_tt35 := hF_tt28.tr (sm_WA (S := fun b => b = a0 ∨ b = a0 + 10 ∨ b = a0 + 4 ∨ b = a0 + 5 ∨ b = a0 + 6 ∨ b = a0 + 7 ∨ b = a0 + 8) e36 (show (a0 + 10) = a0 ∨ (a0 + 10) = a0 + 10 ∨ (a0 + 10) = a0 + 4 ∨ (a0 + 10) = a0 + 5 ∨ (a0 + 10) = a0 + 6 ∨ (a0 + 10) = a0 + 7 ∨ (a0 + 10) = a0 + 8 by omega))
      obtain ⟨tt39, et40, H⟩ := am_bd H
      have hF_tt39 := hF_tt35.tr (sm_I (S := fun b => b = a0 ∨ b = a0 + 10 ∨ b = a0 + 4 ∨ b = a0 + 5 ∨ b = a0 + 6 ∨ b = a0 + 7 ∨ b = a0 + 8) et40 (show a0 = a0 ∨ a0 = a0 + 10 ∨ a0 = a0 + 4 ∨ a0 = a0 + 5 ∨ a0 = a0 + 6 ∨ a0 = a0 + 7 ∨ a0 = a0 + 8 by omega))
      obtain rfl := Option.some.inj H
      exact hF_tt39
  clear E4
  obtain rfl := Option.some.inj H
  exact hF_tt3
set_option maxHeartbeats 4000000 in
theorem wX4_readDay {a1 : Nat} {t : tS} {r : Int32} {t1 : tS} (H : tX4_readDay a1 t = some (r, t1)) : Sm (fun b => b = 1 ∨ b = a1 ∨ b = a1 + 10 ∨ b = a1 + 4 ∨ b = a1 + 5 ∨ b = a1 + 6 ∨ b = a1 + 7 ∨ b = a1 + 8) t t1 := by
  unfold tX4_readDay at H
  have hF_t : Sm (fun b => b = 1 ∨ b = a1 ∨ b = a1 + 10 ∨ b = a1 + 4 ∨ b = a1 + 5 ∨ b = a1 + 6 ∨ b = a1 + 7 ∨ b = a1 + 8) t t := Sm.rf
  split at H
  · obtain ⟨tt3, e2, H⟩ := am_bd H
    have hF_tt3 := hF_t.tr ((wX7_step e2).mono (S' := fun b => b = 1 ∨ b = a1 ∨ b = a1 + 10 ∨ b = a1 + 4 ∨ b = a1 + 5 ∨ b = a1 + 6 ∨ b = a1 + 7 ∨ b = a1 + 8) (fun b hb => (by have hb : b = 1 := hb; show b = 1 ∨ b = a1 ∨ b = a1 + 10 ∨ b = a1 + 4 ∨ b = a1 + 5 ∨ b = a1 + 6 ∨ b = a1 + 7 ∨ b = a1 + 8; omega)))
    obtain ⟨x7, tt8, e6, H⟩ := am_bd2 H
    have hF_tt8 := hF_tt3.tr ((wX4_passNewName e6).mono (S' := fun b => b = 1 ∨ b = a1 ∨ b = a1 + 10 ∨ b = a1 + 4 ∨ b = a1 + 5 ∨ b = a1 + 6 ∨ b = a1 + 7 ∨ b = a1 + 8) (fun b hb => (by have hb : b = 1 := hb; show b = 1 ∨ b = a1 ∨ b = a1 + 10 ∨ b = a1 + 4 ∨ b = a1 + 5 ∨ b = a1 + 6 ∨ b = a1 + 7 ∨ b = a1 + 8; omega)))
    split at H
    · obtain ⟨rfl, rfl⟩ := am_inj2 H
      exact hF_tt8
    · obtain ⟨x11, tt12, e10, H⟩ := am_bd2 H
      have hF_tt12 := hF_tt8.tr ((wX4_passKind e10).mono (S' := fun b => b = 1 ∨ b = a1 ∨ b = a1 + 10 ∨ b = a1 + 4 ∨ b = a1 + 5 ∨ b = a1 + 6 ∨ b = a1 + 7 ∨ b = a1 + 8) (fun b hb => (by have hb : b = 1 := hb; show b = 1 ∨ b = a1 ∨ b = a1 + 10 ∨ b = a1 + 4 ∨ b = a1 + 5 ∨ b = a1 + 6 ∨ b = a1 + 7 ∨ b = a1 + 8; omega)))
      split at H
      · obtain ⟨x16, tt17, e15, H⟩ := am_bd2 H
        have hF_tt17 := hF_tt12.tr ((wX7_passWord e15).mono (S' := fun b => b = 1 ∨ b = a1 ∨ b = a1 + 10 ∨ b = a1 + 4 ∨ b = a1 + 5 ∨ b = a1 + 6 ∨ b = a1 + 7 ∨ b = a1 + 8) (fun b hb => (by have hb : b = 1 := hb; show b = 1 ∨ b = a1 ∨ b = a1 + 10 ∨ b = a1 + 4 ∨ b = a1 + 5 ∨ b = a1 + 6 ∨ b = a1 + 7 ∨ b = a1 + 8; omega)))
        split at H
        · obtain ⟨rfl, rfl⟩ := am_inj2 H
          exact hF_tt17
        · obtain ⟨x20, tt21, e19, H⟩ := am_bd2 H
          have hF_tt21 := hF_tt17.tr ((wX4_passHouse e19).mono (S' := fun b => b = 1 ∨ b = a1 ∨ b = a1 + 10 ∨ b = a1 + 4 ∨ b = a1 + 5 ∨ b = a1 + 6 ∨ b = a1 + 7 ∨ b = a1 + 8) (fun b hb => (by have hb : b = 1 := hb; show b = 1 ∨ b = a1 ∨ b = a1 + 10 ∨ b = a1 + 4 ∨ b = a1 + 5 ∨ b = a1 + 6 ∨ b = a1 + 7 ∨ b = a1 + 8; omega)))
          split at H
          · obtain ⟨x25, tt26, e24, H⟩ := am_bd2 H
            have hF_tt26 := hF_tt21.tr ((wX7_passWord e24).mono (S' := fun b => b = 1 ∨ b = a1 ∨ b = a1 + 10 ∨ b = a1 + 4 ∨ b = a1 + 5 ∨ b = a1 + 6 ∨ b = a1 + 7 ∨ b = a1 + 8) (fun b hb => (by have hb : b = 1 := hb; show b = 1 ∨ b = a1 ∨ b = a1 + 10 ∨ b = a1 + 4 ∨ b = a1 + 5 ∨ b = a1 + 6 ∨ b = a1 + 7 ∨ b = a1 + 8; omega)))
            split at H
            · obtain ⟨rfl, rfl⟩ := am_inj2 H
              exact hF_tt26
            · obtain ⟨x29, tt30, e28, H⟩ := am_bd2 H
              have hF_tt30 := hF_tt26.tr ((wX7_passNumber e28).mono (S' := fun b => b = 1 ∨ b = a1 ∨ b = a1 + 10 ∨ b = a1 + 4 ∨ b = a1 + 5 ∨ b = a1 + 6 ∨ b = a1 + 7 ∨ b = a1 + 8) (fun b hb => (by have hb : b = 1 := hb; show b = 1 ∨ b = a1 ∨ b = a1 + 10 ∨ b = a1 + 4 ∨ b = a1 + 5 ∨ b = a1 + 6 ∨ b = a1 + 7 ∨ b = a1 + 8; omega)))
              split at H
              · obtain ⟨x34, tt35, e33, H⟩ := am_bd2 H
                have hF_tt35 := hF_tt30.tr ((wX7_passWord e33).mono (S' := fun b => b = 1 ∨ b = a1 ∨ b = a1 + 10 ∨ b = a1 + 4 ∨ b = a1 + 5 ∨ b = a1 + 6 ∨ b = a1 + 7 ∨ b = a1 + 8) (fun b hb => (by have hb : b = 1 := hb; show b = 1 ∨ b = a1 ∨ b = a1 + 10 ∨ b = a1 + 4 ∨ b = a1 + 5 ∨ b = a1 + 6 ∨ b = a1 + 7 ∨ b = a1 + 8; omega)))
                split at H
                · obtain ⟨rfl, rfl⟩ := am_inj2 H
                  exact hF_tt35
                · obtain ⟨x38, tt39, e37, H⟩ := am_bd2 H
                  have hF_tt39 := hF_tt35.tr ((wX7_passNumber e37).mono (S' := fun b => b = 1 ∨ b = a1 ∨ b = a1 + 10 ∨ b = a1 + 4 ∨ b = a1 + 5 ∨ b = a1 + 6 ∨ b = a1 + 7 ∨ b = a1 + 8) (fun b hb => (by have hb : b = 1 := hb; show b = 1 ∨ b = a1 ∨ b = a1 + 10 ∨ b = a1 + 4 ∨ b = a1 + 5 ∨ b = a1 + 6 ∨ b = a1 + 7 ∨ b = a1 + 8; omega)))
                  split at H
                  · obtain ⟨tt43, e42, H⟩ := am_bd H
                    have hF_tt43 := hF_tt39.tr ((wX8_addDay e42).mono (S' := fun b => b = 1 ∨ b = a1 ∨ b = a1 + 10 ∨ b = a1 + 4 ∨ b = a1 + 5 ∨ b = a1 + 6 ∨ b = a1 + 7 ∨ b = a1 + 8) (fun b hb => (by have hb : b = a1 ∨ b = a1 + 10 ∨ b = a1 + 4 ∨ b = a1 + 5 ∨ b = a1 + 6 ∨ b = a1 + 7 ∨ b = a1 + 8 := hb; show b = 1 ∨ b = a1 ∨ b = a1 + 10 ∨ b = a1 + 4 ∨ b = a1 + 5 ∨ b = a1 + 6 ∨ b = a1 + 7 ∨ b = a1 + 8; omega)))
                    obtain ⟨x46, tt47, e45, H⟩ := am_bd2 H
                    have hF_tt47 := hF_tt43.tr ((wX7_passSign e45).mono (S' := fun b => b = 1 ∨ b = a1 ∨ b = a1 + 10 ∨ b = a1 + 4 ∨ b = a1 + 5 ∨ b = a1 + 6 ∨ b = a1 + 7 ∨ b = a1 + 8) (fun b hb => (by have hb : b = 1 := hb; show b = 1 ∨ b = a1 ∨ b = a1 + 10 ∨ b = a1 + 4 ∨ b = a1 + 5 ∨ b = a1 + 6 ∨ b = a1 + 7 ∨ b = a1 + 8; omega)))
                    obtain ⟨_, _, H⟩ := am_bd H
                    obtain ⟨rfl, rfl⟩ := am_inj2 H
                    exact hF_tt47
                  · obtain ⟨rfl, rfl⟩ := am_inj2 H
                    exact hF_tt39
              · obtain ⟨rfl, rfl⟩ := am_inj2 H
                exact hF_tt30
          · obtain ⟨rfl, rfl⟩ := am_inj2 H
            exact hF_tt21
      · obtain ⟨rfl, rfl⟩ := am_inj2 H
        exact hF_tt12
  · obtain ⟨x50, tt51, e49, H⟩ := am_bd2 H
    have hF_tt51 := hF_t.tr ((wX7_refuse e49).mono (S' := fun b => b = 1 ∨ b = a1 ∨ b = a1 + 10 ∨ b = a1 + 4 ∨ b = a1 + 5 ∨ b = a1 + 6 ∨ b = a1 + 7 ∨ b = a1 + 8) (fun b hb => (by have hb : b = 1 := hb; show b = 1 ∨ b = a1 ∨ b = a1 + 10 ∨ b = a1 + 4 ∨ b = a1 + 5 ∨ b = a1 + 6 ∨ b = a1 + 7 ∨ b = a1 + 8; omega)))
    obtain ⟨_, _, H⟩ := am_bd H
    obtain ⟨rfl, rfl⟩ := am_inj2 H
    exact hF_tt51
set_option maxHeartbeats 4000000 in
theorem wX8_addHouse {a0 : Nat} {a1 : Int64} {a2 : Int32} {t : tS} {t1 : tS} (H : tX8_addHouse a0 a1 a2 t = some t1) : Sm (fun b => b = a0 ∨ b = a0 + 1 ∨ b = a0 + 2) t t1 := by
  unfold tX8_addHouse at H
  have hF_t : Sm (fun b => b = a0 ∨ b = a0 + 1 ∨ b = a0 + 2) t t := Sm.rf
  obtain ⟨tt3, E4, H⟩ := am_bd H
  have hF_tt3 : Sm (fun b => b = a0 ∨ b = a0 + 1 ∨ b = a0 + 2) t tt3 := by
    clear H
    have H := E4
    clear E4
    split at H
    · obtain rfl := Option.some.inj H
      exact hF_t
    · obtain ⟨tt8, e9, H⟩ := am_bd H
      have hF_tt8 := hF_t.tr (sm_WB (S := fun b => b = a0 ∨ b = a0 + 1 ∨ b = a0 + 2) e9 (show (a0 + 1) = a0 ∨ (a0 + 1) = a0 + 1 ∨ (a0 + 1) = a0 + 2 by omega))
      obtain ⟨tt13, e14, H⟩ := am_bd H
      have hF_tt13 := hF_tt8.tr (sm_WA (S := fun b => b = a0 ∨ b = a0 + 1 ∨ b = a0 + 2) e14 (show (a0 + 2) = a0 ∨ (a0 + 2) = a0 + 1 ∨ (a0 + 2) = a0 + 2 by omega))
      obtain ⟨tt17, et18, H⟩ := am_bd H
      have hF_tt17 := hF_tt13.tr (sm_I (S := fun b => b = a0 ∨ b = a0 + 1 ∨ b = a0 + 2) et18 (show a0 = a0 ∨ a0 = a0 + 1 ∨ a0 = a0 + 2 by omega))
      obtain rfl := Option.some.inj H
      exact hF_tt17
  clear E4
  obtain rfl := Option.some.inj H
  exact hF_tt3
set_option maxHeartbeats 4000000 in
theorem wX4_readHouse {a1 : Nat} {t : tS} {r : Int32} {t1 : tS} (H : tX4_readHouse a1 t = some (r, t1)) : Sm (fun b => b = 1 ∨ b = a1 ∨ b = a1 + 1 ∨ b = a1 + 2) t t1 := by
  unfold tX4_readHouse at H
  have hF_t : Sm (fun b => b = 1 ∨ b = a1 ∨ b = a1 + 1 ∨ b = a1 + 2) t t := Sm.rf
  split at H
  · obtain ⟨tt3, e2, H⟩ := am_bd H
    have hF_tt3 := hF_t.tr ((wX7_step e2).mono (S' := fun b => b = 1 ∨ b = a1 ∨ b = a1 + 1 ∨ b = a1 + 2) (fun b hb => (by have hb : b = 1 := hb; show b = 1 ∨ b = a1 ∨ b = a1 + 1 ∨ b = a1 + 2; omega)))
    obtain ⟨x7, tt8, e6, H⟩ := am_bd2 H
    have hF_tt8 := hF_tt3.tr ((wX4_passNewName e6).mono (S' := fun b => b = 1 ∨ b = a1 ∨ b = a1 + 1 ∨ b = a1 + 2) (fun b hb => (by have hb : b = 1 := hb; show b = 1 ∨ b = a1 ∨ b = a1 + 1 ∨ b = a1 + 2; omega)))
    split at H
    · obtain ⟨rfl, rfl⟩ := am_inj2 H
      exact hF_tt8
    · obtain ⟨x11, tt12, e10, H⟩ := am_bd2 H
      have hF_tt12 := hF_tt8.tr ((wX7_passWord e10).mono (S' := fun b => b = 1 ∨ b = a1 ∨ b = a1 + 1 ∨ b = a1 + 2) (fun b hb => (by have hb : b = 1 := hb; show b = 1 ∨ b = a1 ∨ b = a1 + 1 ∨ b = a1 + 2; omega)))
      split at H
      · obtain ⟨rfl, rfl⟩ := am_inj2 H
        exact hF_tt12
      · obtain ⟨x15, tt16, e14, H⟩ := am_bd2 H
        have hF_tt16 := hF_tt12.tr ((wX7_passNumber e14).mono (S' := fun b => b = 1 ∨ b = a1 ∨ b = a1 + 1 ∨ b = a1 + 2) (fun b hb => (by have hb : b = 1 := hb; show b = 1 ∨ b = a1 ∨ b = a1 + 1 ∨ b = a1 + 2; omega)))
        split at H
        · obtain ⟨tt20, e19, H⟩ := am_bd H
          have hF_tt20 := hF_tt16.tr ((wX8_addHouse e19).mono (S' := fun b => b = 1 ∨ b = a1 ∨ b = a1 + 1 ∨ b = a1 + 2) (fun b hb => (by have hb : b = a1 ∨ b = a1 + 1 ∨ b = a1 + 2 := hb; show b = 1 ∨ b = a1 ∨ b = a1 + 1 ∨ b = a1 + 2; omega)))
          obtain ⟨x23, tt24, e22, H⟩ := am_bd2 H
          have hF_tt24 := hF_tt20.tr ((wX7_passSign e22).mono (S' := fun b => b = 1 ∨ b = a1 ∨ b = a1 + 1 ∨ b = a1 + 2) (fun b hb => (by have hb : b = 1 := hb; show b = 1 ∨ b = a1 ∨ b = a1 + 1 ∨ b = a1 + 2; omega)))
          obtain ⟨_, _, H⟩ := am_bd H
          obtain ⟨rfl, rfl⟩ := am_inj2 H
          exact hF_tt24
        · obtain ⟨rfl, rfl⟩ := am_inj2 H
          exact hF_tt16
  · obtain ⟨x27, tt28, e26, H⟩ := am_bd2 H
    have hF_tt28 := hF_t.tr ((wX7_refuse e26).mono (S' := fun b => b = 1 ∨ b = a1 ∨ b = a1 + 1 ∨ b = a1 + 2) (fun b hb => (by have hb : b = 1 := hb; show b = 1 ∨ b = a1 ∨ b = a1 + 1 ∨ b = a1 + 2; omega)))
    obtain ⟨_, _, H⟩ := am_bd H
    obtain ⟨rfl, rfl⟩ := am_inj2 H
    exact hF_tt28
set_option maxHeartbeats 4000000 in
theorem wX4_readLends {a1 : Nat} {t : tS} {r : Int32} {t1 : tS} (H : tX4_readLends a1 t = some (r, t1)) : Sm (fun b => b = 1 ∨ b = a1 + 3) t t1 := by
  unfold tX4_readLends at H
  have hF_t : Sm (fun b => b = 1 ∨ b = a1 + 3) t t := Sm.rf
  obtain ⟨tt2, e1, H⟩ := am_bd H
  have hF_tt2 := hF_t.tr ((wX7_step e1).mono (S' := fun b => b = 1 ∨ b = a1 + 3) (fun b hb => (by have hb : b = 1 := hb; show b = 1 ∨ b = a1 + 3; omega)))
  obtain ⟨x5, tt6, e4, H⟩ := am_bd2 H
  have hF_tt6 := hF_tt2.tr ((wX4_passHouse e4).mono (S' := fun b => b = 1 ∨ b = a1 + 3) (fun b hb => (by have hb : b = 1 := hb; show b = 1 ∨ b = a1 + 3; omega)))
  split at H
  · obtain ⟨x10, _, H⟩ := am_bd H
    obtain ⟨x12, tt13, e11, H⟩ := am_bd2 H
    have hF_tt13 := hF_tt6.tr ((wX4_passHouse e11).mono (S' := fun b => b = 1 ∨ b = a1 + 3) (fun b hb => (by have hb : b = 1 := hb; show b = 1 ∨ b = a1 + 3; omega)))
    split at H
    · obtain ⟨x17, _, H⟩ := am_bd H
      obtain ⟨tt19, e20, H⟩ := am_bd H
      have hF_tt19 := hF_tt13.tr (sm_WA (S := fun b => b = 1 ∨ b = a1 + 3) e20 (show (a1 + 3) = 1 ∨ (a1 + 3) = a1 + 3 by omega))
      obtain ⟨x22, _, H⟩ := am_bd H
      obtain ⟨tt24, e25, H⟩ := am_bd H
      have hF_tt24 := hF_tt19.tr (sm_WA (S := fun b => b = 1 ∨ b = a1 + 3) e25 (show (a1 + 3) = 1 ∨ (a1 + 3) = a1 + 3 by omega))
      obtain ⟨x27, tt28, e26, H⟩ := am_bd2 H
      have hF_tt28 := hF_tt24.tr ((wX7_passSign e26).mono (S' := fun b => b = 1 ∨ b = a1 + 3) (fun b hb => (by have hb : b = 1 := hb; show b = 1 ∨ b = a1 + 3; omega)))
      obtain ⟨_, _, H⟩ := am_bd H
      obtain ⟨rfl, rfl⟩ := am_inj2 H
      exact hF_tt28
    · obtain ⟨rfl, rfl⟩ := am_inj2 H
      exact hF_tt13
  · obtain ⟨rfl, rfl⟩ := am_inj2 H
    exact hF_tt6
set_option maxHeartbeats 4000000 in
theorem wX4_readStays {a1 : Nat} {t : tS} {r : Int32} {t1 : tS} (H : tX4_readStays a1 t = some (r, t1)) : Sm (fun b => b = 1 ∨ b = a1) t t1 := by
  unfold tX4_readStays at H
  have hF_t : Sm (fun b => b = 1 ∨ b = a1) t t := Sm.rf
  split at H
  · obtain ⟨tt3, et4, H⟩ := am_bd H
    have hF_tt3 := hF_t.tr (sm_I (S := fun b => b = 1 ∨ b = a1) et4 (show a1 = 1 ∨ a1 = a1 by omega))
    obtain ⟨tt6, e5, H⟩ := am_bd H
    have hF_tt6 := hF_tt3.tr ((wX7_step e5).mono (S' := fun b => b = 1 ∨ b = a1) (fun b hb => (by have hb : b = 1 := hb; show b = 1 ∨ b = a1; omega)))
    obtain ⟨x9, tt10, e8, H⟩ := am_bd2 H
    have hF_tt10 := hF_tt6.tr ((wX7_passNumber e8).mono (S' := fun b => b = 1 ∨ b = a1) (fun b hb => (by have hb : b = 1 := hb; show b = 1 ∨ b = a1; omega)))
    split at H
    · obtain ⟨tt14, et15, H⟩ := am_bd H
      have hF_tt14 := hF_tt10.tr (sm_I (S := fun b => b = 1 ∨ b = a1) et15 (show a1 = 1 ∨ a1 = a1 by omega))
      obtain ⟨x17, tt18, e16, H⟩ := am_bd2 H
      have hF_tt18 := hF_tt14.tr ((wX7_passSign e16).mono (S' := fun b => b = 1 ∨ b = a1) (fun b hb => (by have hb : b = 1 := hb; show b = 1 ∨ b = a1; omega)))
      obtain ⟨_, _, H⟩ := am_bd H
      obtain ⟨rfl, rfl⟩ := am_inj2 H
      exact hF_tt18
    · obtain ⟨rfl, rfl⟩ := am_inj2 H
      exact hF_tt10
  · obtain ⟨x21, tt22, e20, H⟩ := am_bd2 H
    have hF_tt22 := hF_t.tr ((wX7_refuse e20).mono (S' := fun b => b = 1 ∨ b = a1) (fun b hb => (by have hb : b = 1 := hb; show b = 1 ∨ b = a1; omega)))
    obtain ⟨_, _, H⟩ := am_bd H
    obtain ⟨rfl, rfl⟩ := am_inj2 H
    exact hF_tt22
set_option maxHeartbeats 4000000 in
theorem wX7_begin  {t : tS} {t1 : tS} (H : tX7_begin  t = some t1) : Sm (fun b => b = 1) t t1 := by
  unfold tX7_begin at H
  have hF_t : Sm (fun b => b = 1) t t := Sm.rf
  obtain ⟨tt2, et3, H⟩ := am_bd H
  have hF_tt2 := hF_t.tr (sm_I (S := fun b => b = 1) et3 (show 1 = 1 by omega))
  obtain ⟨tt5, et6, H⟩ := am_bd H
  have hF_tt5 := hF_tt2.tr (sm_I (S := fun b => b = 1) et6 (show 1 = 1 by omega))
  obtain ⟨tt8, e7, H⟩ := am_bd H
  have hF_tt8 := hF_tt5.tr ((wX7_step e7).mono (S' := fun b => b = 1) (fun b hb => (by have hb : b = 1 := hb; show b = 1; omega)))
  obtain rfl := Option.some.inj H
  exact hF_tt8
set_option maxHeartbeats 4000000 in
theorem wX8_clear {a0 : Nat} {t : tS} {t1 : tS} (H : tX8_clear a0 t = some t1) : Sm (fun b => b = a0 ∨ b = a0 + 3 ∨ b = a0 + 9) t t1 := by
  unfold tX8_clear at H
  have hF_t : Sm (fun b => b = a0 ∨ b = a0 + 3 ∨ b = a0 + 9) t t := Sm.rf
  obtain ⟨tt2, et3, H⟩ := am_bd H
  have hF_tt2 := hF_t.tr (sm_I (S := fun b => b = a0 ∨ b = a0 + 3 ∨ b = a0 + 9) et3 (show a0 = a0 ∨ a0 = a0 + 3 ∨ a0 = a0 + 9 by omega))
  obtain ⟨tt5, et6, H⟩ := am_bd H
  have hF_tt5 := hF_tt2.tr (sm_I (S := fun b => b = a0 ∨ b = a0 + 3 ∨ b = a0 + 9) et6 (show a0 = a0 ∨ a0 = a0 + 3 ∨ a0 = a0 + 9 by omega))
  obtain ⟨tt8, et9, H⟩ := am_bd H
  have hF_tt8 := hF_tt5.tr (sm_I (S := fun b => b = a0 ∨ b = a0 + 3 ∨ b = a0 + 9) et9 (show a0 = a0 ∨ a0 = a0 + 3 ∨ a0 = a0 + 9 by omega))
  obtain ⟨tt11, et12, H⟩ := am_bd H
  have hF_tt11 := hF_tt8.tr (sm_I (S := fun b => b = a0 ∨ b = a0 + 3 ∨ b = a0 + 9) et12 (show a0 = a0 ∨ a0 = a0 + 3 ∨ a0 = a0 + 9 by omega))
  obtain ⟨tt14, et15, H⟩ := am_bd H
  have hF_tt14 := hF_tt11.tr (sm_I (S := fun b => b = a0 ∨ b = a0 + 3 ∨ b = a0 + 9) et15 (show a0 = a0 ∨ a0 = a0 + 3 ∨ a0 = a0 + 9 by omega))
  obtain ⟨tt18, e17, H⟩ := am_bd H
  have hF_tt18 := hF_tt14.tr ((wJ7_fill_53178 e17).mono (S' := fun b => b = a0 ∨ b = a0 + 3 ∨ b = a0 + 9) (fun b hb => (by have hb : b = (a0 + 3) := hb; show b = a0 ∨ b = a0 + 3 ∨ b = a0 + 9; omega)))
  obtain ⟨tt22, e21, H⟩ := am_bd H
  have hF_tt22 := hF_tt18.tr ((wJ7_fill_53178 e21).mono (S' := fun b => b = a0 ∨ b = a0 + 3 ∨ b = a0 + 9) (fun b hb => (by have hb : b = (a0 + 9) := hb; show b = a0 ∨ b = a0 + 3 ∨ b = a0 + 9; omega)))
  obtain rfl := Option.some.inj H
  exact hF_tt22
set_option maxHeartbeats 4000000 in
theorem wX5_add {a0 : Nat} {a1 : Int32} {a2 : Int32} {t : tS} {r : Int32} {t1 : tS} (H : tX5_add a0 a1 a2 t = some (r, t1)) : Sm (fun b => b = a0 ∨ b = a0 + 1 ∨ b = a0 + 2) t t1 := by
  unfold tX5_add at H
  have hF_t : Sm (fun b => b = a0 ∨ b = a0 + 1 ∨ b = a0 + 2) t t := Sm.rf
  split at H
  · obtain ⟨tt5, e6, H⟩ := am_bd H
    have hF_tt5 := hF_t.tr (sm_WA (S := fun b => b = a0 ∨ b = a0 + 1 ∨ b = a0 + 2) e6 (show (a0 + 1) = a0 ∨ (a0 + 1) = a0 + 1 ∨ (a0 + 1) = a0 + 2 by omega))
    obtain ⟨tt10, e11, H⟩ := am_bd H
    have hF_tt10 := hF_tt5.tr (sm_WA (S := fun b => b = a0 ∨ b = a0 + 1 ∨ b = a0 + 2) e11 (show (a0 + 2) = a0 ∨ (a0 + 2) = a0 + 1 ∨ (a0 + 2) = a0 + 2 by omega))
    obtain ⟨tt14, et15, H⟩ := am_bd H
    have hF_tt14 := hF_tt10.tr (sm_I (S := fun b => b = a0 ∨ b = a0 + 1 ∨ b = a0 + 2) et15 (show a0 = a0 ∨ a0 = a0 + 1 ∨ a0 = a0 + 2 by omega))
    obtain ⟨rfl, rfl⟩ := am_inj2 H
    exact hF_tt14
  · obtain ⟨rfl, rfl⟩ := am_inj2 H
    exact hF_t
set_option maxHeartbeats 4000000 in
theorem wX6_begin {a0 : Nat} {a1 : Nat} {t : tS} {t1 : tS} (H : tX6_begin a0 a1 t = some t1) : Sm (fun b => b = a0 ∨ b = a0 + 1 ∨ b = a0 + 2 ∨ b = a0 + 3 ∨ b = a0 + 4 ∨ b = a0 + 5 ∨ b = a0 + 6) t t1 := by
  unfold tX6_begin at H
  have hF_t : Sm (fun b => b = a0 ∨ b = a0 + 1 ∨ b = a0 + 2 ∨ b = a0 + 3 ∨ b = a0 + 4 ∨ b = a0 + 5 ∨ b = a0 + 6) t t := Sm.rf
  obtain ⟨tt4, e5, H⟩ := am_bd H
  have hF_tt4 := hF_t.tr (sm_WC (S := fun b => b = a0 ∨ b = a0 + 1 ∨ b = a0 + 2 ∨ b = a0 + 3 ∨ b = a0 + 4 ∨ b = a0 + 5 ∨ b = a0 + 6) e5 (show (a0 + 1) = a0 ∨ (a0 + 1) = a0 + 1 ∨ (a0 + 1) = a0 + 2 ∨ (a0 + 1) = a0 + 3 ∨ (a0 + 1) = a0 + 4 ∨ (a0 + 1) = a0 + 5 ∨ (a0 + 1) = a0 + 6 by omega))
  obtain ⟨tt9, e10, H⟩ := am_bd H
  have hF_tt9 := hF_tt4.tr (sm_WC (S := fun b => b = a0 ∨ b = a0 + 1 ∨ b = a0 + 2 ∨ b = a0 + 3 ∨ b = a0 + 4 ∨ b = a0 + 5 ∨ b = a0 + 6) e10 (show (a0 + 2) = a0 ∨ (a0 + 2) = a0 + 1 ∨ (a0 + 2) = a0 + 2 ∨ (a0 + 2) = a0 + 3 ∨ (a0 + 2) = a0 + 4 ∨ (a0 + 2) = a0 + 5 ∨ (a0 + 2) = a0 + 6 by omega))
  obtain ⟨tt14, e15, H⟩ := am_bd H
  have hF_tt14 := hF_tt9.tr (sm_WC (S := fun b => b = a0 ∨ b = a0 + 1 ∨ b = a0 + 2 ∨ b = a0 + 3 ∨ b = a0 + 4 ∨ b = a0 + 5 ∨ b = a0 + 6) e15 (show (a0 + 3) = a0 ∨ (a0 + 3) = a0 + 1 ∨ (a0 + 3) = a0 + 2 ∨ (a0 + 3) = a0 + 3 ∨ (a0 + 3) = a0 + 4 ∨ (a0 + 3) = a0 + 5 ∨ (a0 + 3) = a0 + 6 by omega))
  obtain ⟨tt18, e17, H⟩ := am_bd H
  have hF_tt18 := hF_tt14.tr ((wJ7_fill_53178 e17).mono (S' := fun b => b = a0 ∨ b = a0 + 1 ∨ b = a0 + 2 ∨ b = a0 + 3 ∨ b = a0 + 4 ∨ b = a0 + 5 ∨ b = a0 + 6) (fun b hb => (by have hb : b = (a0 + 4) := hb; show b = a0 ∨ b = a0 + 1 ∨ b = a0 + 2 ∨ b = a0 + 3 ∨ b = a0 + 4 ∨ b = a0 + 5 ∨ b = a0 + 6; omega)))
  obtain ⟨tt22, e21, H⟩ := am_bd H
  have hF_tt22 := hF_tt18.tr ((wJ7_fill_53178 e21).mono (S' := fun b => b = a0 ∨ b = a0 + 1 ∨ b = a0 + 2 ∨ b = a0 + 3 ∨ b = a0 + 4 ∨ b = a0 + 5 ∨ b = a0 + 6) (fun b hb => (by have hb : b = (a0 + 5) := hb; show b = a0 ∨ b = a0 + 1 ∨ b = a0 + 2 ∨ b = a0 + 3 ∨ b = a0 + 4 ∨ b = a0 + 5 ∨ b = a0 + 6; omega)))
  obtain ⟨tt26, e25, H⟩ := am_bd H
  have hF_tt26 := hF_tt22.tr ((wJ7_fill_53178 e25).mono (S' := fun b => b = a0 ∨ b = a0 + 1 ∨ b = a0 + 2 ∨ b = a0 + 3 ∨ b = a0 + 4 ∨ b = a0 + 5 ∨ b = a0 + 6) (fun b hb => (by have hb : b = (a0 + 6) := hb; show b = a0 ∨ b = a0 + 1 ∨ b = a0 + 2 ∨ b = a0 + 3 ∨ b = a0 + 4 ∨ b = a0 + 5 ∨ b = a0 + 6; omega)))
  obtain ⟨tt29, et30, H⟩ := am_bd H
  have hF_tt29 := hF_tt26.tr (sm_I (S := fun b => b = a0 ∨ b = a0 + 1 ∨ b = a0 + 2 ∨ b = a0 + 3 ∨ b = a0 + 4 ∨ b = a0 + 5 ∨ b = a0 + 6) et30 (show a0 = a0 ∨ a0 = a0 + 1 ∨ a0 = a0 + 2 ∨ a0 = a0 + 3 ∨ a0 = a0 + 4 ∨ a0 = a0 + 5 ∨ a0 = a0 + 6 by omega))
  obtain ⟨tt32, et33, H⟩ := am_bd H
  have hF_tt32 := hF_tt29.tr (sm_I (S := fun b => b = a0 ∨ b = a0 + 1 ∨ b = a0 + 2 ∨ b = a0 + 3 ∨ b = a0 + 4 ∨ b = a0 + 5 ∨ b = a0 + 6) et33 (show a0 = a0 ∨ a0 = a0 + 1 ∨ a0 = a0 + 2 ∨ a0 = a0 + 3 ∨ a0 = a0 + 4 ∨ a0 = a0 + 5 ∨ a0 = a0 + 6 by omega))
  obtain ⟨tt35, et36, H⟩ := am_bd H
  have hF_tt35 := hF_tt32.tr (sm_I (S := fun b => b = a0 ∨ b = a0 + 1 ∨ b = a0 + 2 ∨ b = a0 + 3 ∨ b = a0 + 4 ∨ b = a0 + 5 ∨ b = a0 + 6) et36 (show a0 = a0 ∨ a0 = a0 + 1 ∨ a0 = a0 + 2 ∨ a0 = a0 + 3 ∨ a0 = a0 + 4 ∨ a0 = a0 + 5 ∨ a0 = a0 + 6 by omega))
  obtain rfl := Option.some.inj H
  exact hF_tt35
set_option maxHeartbeats 4000000 in
theorem wX6_flood {a0 : Nat} {t : tS} {t1 : tS} (H : tX6_flood a0 t = some t1) : Sm (fun b => b = a0 + 4 ∨ b = a0 + 5) t t1 := by
  unfold tX6_flood at H
  have hF_t : Sm (fun b => b = a0 + 4 ∨ b = a0 + 5) t t := Sm.rf
  obtain ⟨tt3, e2, H⟩ := am_bd H
  have hF_tt3 := hF_t.tr ((wJ7_fill_53178 e2).mono (S' := fun b => b = a0 + 4 ∨ b = a0 + 5) (fun b hb => (by have hb : b = (a0 + 4) := hb; show b = a0 + 4 ∨ b = a0 + 5; omega)))
  obtain ⟨tt7, e6, H⟩ := am_bd H
  have hF_tt7 := hF_tt3.tr ((wJ7_fill_53178 e6).mono (S' := fun b => b = a0 + 4 ∨ b = a0 + 5) (fun b hb => (by have hb : b = (a0 + 5) := hb; show b = a0 + 4 ∨ b = a0 + 5; omega)))
  obtain rfl := Option.some.inj H
  exact hF_tt7
set_option maxHeartbeats 4000000 in
theorem wX7_add {a1 : Int32} {t : tS} {t1 : tS} (H : tX7_add a1 t = some t1) : Sm (fun b => b = 1 ∨ b = 2) t t1 := by
  unfold tX7_add at H
  have hF_t : Sm (fun b => b = 1 ∨ b = 2) t t := Sm.rf
  obtain ⟨tt5, E6, H⟩ := am_bd H
  have hF_tt5 : Sm (fun b => b = 1 ∨ b = 2) t tt5 := by
    clear H
    have H := E6
    clear E6
    split at H
    · obtain rfl := Option.some.inj H
      exact hF_t
    · split at H
      · obtain ⟨tt10, e11, H⟩ := am_bd H
        have hF_tt10 := hF_t.tr (sm_WA (S := fun b => b = 1 ∨ b = 2) e11 (show 2 = 1 ∨ 2 = 2 by omega))
        obtain ⟨tt14, et15, H⟩ := am_bd H
        have hF_tt14 := hF_tt10.tr (sm_I (S := fun b => b = 1 ∨ b = 2) et15 (show 1 = 1 ∨ 1 = 2 by omega))
        obtain rfl := Option.some.inj H
        exact hF_tt14
      · obtain ⟨x17, _, H⟩ := am_bd H
        split at H
        · obtain rfl := Option.some.inj H
          exact hF_t
        · obtain ⟨tt21, e22, H⟩ := am_bd H
          have hF_tt21 := hF_t.tr (sm_WA (S := fun b => b = 1 ∨ b = 2) e22 (show 2 = 1 ∨ 2 = 2 by omega))
          obtain ⟨tt25, et26, H⟩ := am_bd H
          have hF_tt25 := hF_tt21.tr (sm_I (S := fun b => b = 1 ∨ b = 2) et26 (show 1 = 1 ∨ 1 = 2 by omega))
          obtain rfl := Option.some.inj H
          exact hF_tt25
  clear E6
  obtain rfl := Option.some.inj H
  exact hF_tt5
set_option maxHeartbeats 4000000 in
theorem wX9_feedBytes_L3 : ∀ (n : Nat) (v1 : Int64) (v3 : Int32) (t : tS) (t1 : tS), Dy t → tX9_feedBytes_L3 n v1 v3 t = some t1 → Sm (fun b => b = 1 ∨ b = 2) t t1 := by
  intro n
  induction n with
  | zero => intro _ _ _ _ _ H; cases H
  | succ n ih =>
    intro v1 v3 t t1 hD_t H
    rw [tX9_feedBytes_L3] at H
    have hF_t : Sm (fun b => b = 1 ∨ b = 2) t t := Sm.rf
    split at H
    · obtain rfl := Option.some.inj H
      exact hF_t
    · obtain ⟨tt3, e2, H⟩ := am_bd H
      have hF_tt3 := hF_t.tr ((wX7_add e2).mono (S' := fun b => b = 1 ∨ b = 2) (fun b hb => (by have hb : b = 1 ∨ b = 2 := hb; show b = 1 ∨ b = 2; omega)))
      exact hF_tt3.tr (ih _ _ _ _ (hD_t.sm hF_tt3 (show ¬ (0 = 1 ∨ 0 = 2) by omega)) H)
set_option maxHeartbeats 4000000 in
theorem wX9_feedBytes {a1 : Int64} {t : tS} {t1 : tS} (hD_t : Dy t) (H : tX9_feedBytes a1 t = some t1) : Sm (fun b => b = 1 ∨ b = 2) t t1 := by
  unfold tX9_feedBytes at H
  have hF_t : Sm (fun b => b = 1 ∨ b = 2) t t := Sm.rf
  obtain ⟨tt7, E5, H⟩ := am_bd H
  have hF_tt7 := hF_t.tr (Sm.mono (S' := fun b => b = 1 ∨ b = 2) (wX9_feedBytes_L3 _ _ _ _ _ (hD_t.sm hF_t (show ¬ (0 = 1 ∨ 0 = 2) by omega)) E5) (fun b hb => (by have hb : b = 1 ∨ b = 2 := hb; show b = 1 ∨ b = 2; omega)))
  clear E5
  obtain rfl := Option.some.inj H
  exact hF_tt7
set_option maxHeartbeats 4000000 in
theorem wX9_feed {a1 : Int64} {a2 : Int64} {a3 : Int64} {t : tS} {r : Int32} {t1 : tS} (hD_t : Dy t) (H : tX9_feed a1 a2 a3 t = some (r, t1)) : Sm (fun b => b = 1 ∨ b = 2) t t1 := by
  unfold tX9_feed at H
  have hF_t : Sm (fun b => b = 1 ∨ b = 2) t t := Sm.rf
  obtain ⟨tt2, e1, H⟩ := am_bd H
  have hF_tt2 := hF_t.tr ((wX9_feedBytes (hD_t.sm hF_t (show ¬ (0 = 1 ∨ 0 = 2) by omega)) e1).mono (S' := fun b => b = 1 ∨ b = 2) (fun b hb => (by have hb : b = 1 ∨ b = 2 := hb; show b = 1 ∨ b = 2; omega)))
  obtain ⟨tt5, e4, H⟩ := am_bd H
  have hF_tt5 := hF_tt2.tr ((wX9_feedBytes (hD_t.sm hF_tt2 (show ¬ (0 = 1 ∨ 0 = 2) by omega)) e4).mono (S' := fun b => b = 1 ∨ b = 2) (fun b hb => (by have hb : b = 1 ∨ b = 2 := hb; show b = 1 ∨ b = 2; omega)))
  obtain ⟨tt8, e7, H⟩ := am_bd H
  have hF_tt8 := hF_tt5.tr ((wX9_feedBytes (hD_t.sm hF_tt5 (show ¬ (0 = 1 ∨ 0 = 2) by omega)) e7).mono (S' := fun b => b = 1 ∨ b = 2) (fun b hb => (by have hb : b = 1 ∨ b = 2 := hb; show b = 1 ∨ b = 2; omega)))
  obtain ⟨rfl, rfl⟩ := am_inj2 H
  exact hF_tt8
set_option maxHeartbeats 4000000 in
theorem wX9_date  {t : tS} {r : Int32} {t1 : tS} (hD_t : Dy t) (H : tX9_date  t = some (r, t1)) : Sm (fun b => b = 17 ∨ b = 3 ∨ b = 6 ∨ b = 7 ∨ b = 8 ∨ b = 9 ∨ (182 ≤ b ∧ b < 210) ∨ (19 ≤ b ∧ b < 131)) t t1 := by
  unfold tX9_date at H
  have hF_t : Sm (fun b => b = 17 ∨ b = 3 ∨ b = 6 ∨ b = 7 ∨ b = 8 ∨ b = 9 ∨ (182 ≤ b ∧ b < 210) ∨ (19 ≤ b ∧ b < 131)) t t := Sm.rf
  obtain ⟨tt4, e3, H⟩ := am_bd H
  have hF_tt4 := hF_t.tr ((wX0_keep e3).mono (S' := fun b => b = 17 ∨ b = 3 ∨ b = 6 ∨ b = 7 ∨ b = 8 ∨ b = 9 ∨ (182 ≤ b ∧ b < 210) ∨ (19 ≤ b ∧ b < 131)) (fun b hb => (by have hb : b = 17 ∨ (19 ≤ b ∧ b < 131) := hb; show b = 17 ∨ b = 3 ∨ b = 6 ∨ b = 7 ∨ b = 8 ∨ b = 9 ∨ (182 ≤ b ∧ b < 210) ∨ (19 ≤ b ∧ b < 131); omega)))
  have hd_told7 := dy_9 (hD_t.sm hF_tt4 (show ¬ (0 = 17 ∨ 0 = 3 ∨ 0 = 6 ∨ 0 = 7 ∨ 0 = 8 ∨ 0 = 9 ∨ (182 ≤ 0 ∧ 0 < 210) ∨ (19 ≤ 0 ∧ 0 < 131)) by omega))
  obtain ⟨tt9, e8, H⟩ := am_bd H
  have hF_tt9 := hF_tt4.tr ((wX6_passDate e8).mono (S' := fun b => b = 17 ∨ b = 3 ∨ b = 6 ∨ b = 7 ∨ b = 8 ∨ b = 9 ∨ (182 ≤ b ∧ b < 210) ∨ (19 ≤ b ∧ b < 131)) (fun b hb => (by have hb : b = 3 ∨ b = 3 + 3 ∨ b = 3 + 4 ∨ b = 3 + 5 ∨ b = 3 + 6 ∨ b = (tt4.2.2.2.2 0 9) + 13 := hb; show b = 17 ∨ b = 3 ∨ b = 6 ∨ b = 7 ∨ b = 8 ∨ b = 9 ∨ (182 ≤ b ∧ b < 210) ∨ (19 ≤ b ∧ b < 131); omega)))
  obtain ⟨rfl, rfl⟩ := am_inj2 H
  exact hF_tt9
set_option maxHeartbeats 4000000 in
theorem wX9_move {a1 : Int32} {a2 : Int32} {t : tS} {r : Int32} {t1 : tS} (hD_t : Dy t) (H : tX9_move a1 a2 t = some (r, t1)) : Sm (fun b => b = 17 ∨ b = 7 ∨ (19 ≤ b ∧ b < 131)) t t1 := by
  unfold tX9_move at H
  have hF_t : Sm (fun b => b = 17 ∨ b = 7 ∨ (19 ≤ b ∧ b < 131)) t t := Sm.rf
  obtain ⟨x2, _, H⟩ := am_bd H
  split at H
  · obtain ⟨rfl, rfl⟩ := am_inj2 H
    exact hF_t
  · obtain ⟨x4, _, H⟩ := am_bd H
    split at H
    · obtain ⟨rfl, rfl⟩ := am_inj2 H
      exact hF_t
    · have hd_told6 := dy_9 (hD_t.sm hF_t (show ¬ (0 = 17 ∨ 0 = 7 ∨ (19 ≤ 0 ∧ 0 < 131)) by omega))
      obtain ⟨x8, _, H⟩ := am_bd H
      split at H
      · obtain ⟨tt12, e11, H⟩ := am_bd H
        have hF_tt12 := hF_t.tr ((wX0_keep e11).mono (S' := fun b => b = 17 ∨ b = 7 ∨ (19 ≤ b ∧ b < 131)) (fun b hb => (by have hb : b = 17 ∨ (19 ≤ b ∧ b < 131) := hb; show b = 17 ∨ b = 7 ∨ (19 ≤ b ∧ b < 131); omega)))
        obtain ⟨tt16, e15, H⟩ := am_bd H
        have hF_tt16 := hF_tt12.tr ((wX6_shift e15).mono (S' := fun b => b = 17 ∨ b = 7 ∨ (19 ≤ b ∧ b < 131)) (fun b hb => (by have hb : b = 3 + 4 := hb; show b = 17 ∨ b = 7 ∨ (19 ≤ b ∧ b < 131); omega)))
        obtain ⟨rfl, rfl⟩ := am_inj2 H
        exact hF_tt16
      · obtain ⟨rfl, rfl⟩ := am_inj2 H
        exact hF_t
set_option maxHeartbeats 4000000 in
theorem wX9_send {a1 : Int32} {t : tS} {r : Int32} {t1 : tS} (hD_t : Dy t) (H : tX9_send a1 t = some (r, t1)) : Sm (fun b => b = 17 ∨ b = 7 ∨ b = 8 ∨ (19 ≤ b ∧ b < 131)) t t1 := by
  unfold tX9_send at H
  have hF_t : Sm (fun b => b = 17 ∨ b = 7 ∨ b = 8 ∨ (19 ≤ b ∧ b < 131)) t t := Sm.rf
  obtain ⟨x2, _, H⟩ := am_bd H
  split at H
  · obtain ⟨rfl, rfl⟩ := am_inj2 H
    exact hF_t
  · obtain ⟨x5, _, H⟩ := am_bd H
    split at H
    · obtain ⟨tt9, e8, H⟩ := am_bd H
      have hF_tt9 := hF_t.tr ((wX0_keep e8).mono (S' := fun b => b = 17 ∨ b = 7 ∨ b = 8 ∨ (19 ≤ b ∧ b < 131)) (fun b hb => (by have hb : b = 17 ∨ (19 ≤ b ∧ b < 131) := hb; show b = 17 ∨ b = 7 ∨ b = 8 ∨ (19 ≤ b ∧ b < 131); omega)))
      obtain ⟨tt13, e12, H⟩ := am_bd H
      have hF_tt13 := hF_tt9.tr ((wX6_leave e12).mono (S' := fun b => b = 17 ∨ b = 7 ∨ b = 8 ∨ (19 ≤ b ∧ b < 131)) (fun b hb => (by have hb : b = 3 + 4 ∨ b = 3 + 5 := hb; show b = 17 ∨ b = 7 ∨ b = 8 ∨ (19 ≤ b ∧ b < 131); omega)))
      obtain ⟨rfl, rfl⟩ := am_inj2 H
      exact hF_tt13
    · obtain ⟨rfl, rfl⟩ := am_inj2 H
      exact hF_t
set_option maxHeartbeats 4000000 in
theorem wX9_build {a1 : Int32} {t : tS} {r : Int32} {t1 : tS} (hD_t : Dy t) (H : tX9_build a1 t = some (r, t1)) : Sm (fun b => b = 17 ∨ b = 4 ∨ (19 ≤ b ∧ b < 131)) t t1 := by
  unfold tX9_build at H
  have hF_t : Sm (fun b => b = 17 ∨ b = 4 ∨ (19 ≤ b ∧ b < 131)) t t := Sm.rf
  obtain ⟨x2, _, H⟩ := am_bd H
  split at H
  · obtain ⟨rfl, rfl⟩ := am_inj2 H
    exact hF_t
  · obtain ⟨x5, _, H⟩ := am_bd H
    split at H
    · obtain ⟨tt9, e8, H⟩ := am_bd H
      have hF_tt9 := hF_t.tr ((wX0_keep e8).mono (S' := fun b => b = 17 ∨ b = 4 ∨ (19 ≤ b ∧ b < 131)) (fun b hb => (by have hb : b = 17 ∨ (19 ≤ b ∧ b < 131) := hb; show b = 17 ∨ b = 4 ∨ (19 ≤ b ∧ b < 131); omega)))
      obtain ⟨x13, _, H⟩ := am_bd H
      obtain ⟨tt15, e16, H⟩ := am_bd H
      have hF_tt15 := hF_tt9.tr (sm_WA (S := fun b => b = 17 ∨ b = 4 ∨ (19 ≤ b ∧ b < 131)) e16 (show 4 = 17 ∨ 4 = 4 ∨ (19 ≤ 4 ∧ 4 < 131) by omega))
      obtain ⟨x19, _, H⟩ := am_bd H
      obtain ⟨rfl, rfl⟩ := am_inj2 H
      exact hF_tt15
    · obtain ⟨rfl, rfl⟩ := am_inj2 H
      exact hF_t
set_option maxHeartbeats 4000000 in
theorem wX9_undo  {t : tS} {r : Int32} {t1 : tS} (hD_t : Dy t) (H : tX9_undo  t = some (r, t1)) : Sm (fun b => b = 17 ∨ b = 3 ∨ b = 4 ∨ b = 5 ∨ b = 6 ∨ b = 7 ∨ b = 8 ∨ b = 9) t t1 := by
  unfold tX9_undo at H
  have hF_t : Sm (fun b => b = 17 ∨ b = 3 ∨ b = 4 ∨ b = 5 ∨ b = 6 ∨ b = 7 ∨ b = 8 ∨ b = 9) t t := Sm.rf
  obtain ⟨x4, tt5, e3, H⟩ := am_bd2 H
  have hF_tt5 := hF_t.tr ((wX0_bringBack e3).mono (S' := fun b => b = 17 ∨ b = 3 ∨ b = 4 ∨ b = 5 ∨ b = 6 ∨ b = 7 ∨ b = 8 ∨ b = 9) (fun b hb => (by have hb : b = 17 ∨ b = 3 ∨ b = 3 + 1 ∨ b = 3 + 2 ∨ b = 3 + 3 ∨ b = 3 + 4 ∨ b = 3 + 5 ∨ b = 3 + 6 := hb; show b = 17 ∨ b = 3 ∨ b = 4 ∨ b = 5 ∨ b = 6 ∨ b = 7 ∨ b = 8 ∨ b = 9; omega)))
  obtain ⟨_, _, H⟩ := am_bd H
  obtain ⟨rfl, rfl⟩ := am_inj2 H
  exact hF_tt5
set_option maxHeartbeats 4000000 in
theorem wX9_judged_L30 : ∀ (n : Nat) (v1 : Int32) (v2 : Int32) (v3 : Int32) (v4 : Int32) (t : tS) (w2 : Int32) (w3 : Int32) (t1 : tS), Dy t → tX9_judged_L30 n v1 v2 v3 v4 t = some (w2, w3, t1) → Sm (fun b => b = 10 ∨ b = 11 ∨ b = 13 ∨ b = 14 ∨ b = 15 ∨ b = 16 ∨ (182 ≤ b ∧ b < 210)) t t1 := by
  intro n
  induction n with
  | zero => intro _ _ _ _ _ _ _ _ _ H; cases H
  | succ n ih =>
    intro v1 v2 v3 v4 t w2 w3 t1 hD_t H
    rw [tX9_judged_L30] at H
    have hF_t : Sm (fun b => b = 10 ∨ b = 11 ∨ b = 13 ∨ b = 14 ∨ b = 15 ∨ b = 16 ∨ (182 ≤ b ∧ b < 210)) t t := Sm.rf
    have hd_plan8 := dy_11 (hD_t.sm hF_t (show ¬ (0 = 10 ∨ 0 = 11 ∨ 0 = 13 ∨ 0 = 14 ∨ 0 = 15 ∨ 0 = 16 ∨ (182 ≤ 0 ∧ 0 < 210)) by omega))
    split at H
    · obtain ⟨rfl, rfl, rfl⟩ := am_inj3 H
      exact hF_t
    · have hd_plan12 := dy_11 (hD_t.sm hF_t (show ¬ (0 = 10 ∨ 0 = 11 ∨ 0 = 13 ∨ 0 = 14 ∨ 0 = 15 ∨ 0 = 16 ∨ (182 ≤ 0 ∧ 0 < 210)) by omega))
      have hd_told13 := dy_9 (hD_t.sm hF_t (show ¬ (0 = 10 ∨ 0 = 11 ∨ 0 = 13 ∨ 0 = 14 ∨ 0 = 15 ∨ 0 = 16 ∨ (182 ≤ 0 ∧ 0 < 210)) by omega))
      obtain ⟨x16, tt17, e15, H⟩ := am_bd2 H
      have hF_tt17 := hF_t.tr ((wX3_carryOut e15).mono (S' := fun b => b = 10 ∨ b = 11 ∨ b = 13 ∨ b = 14 ∨ b = 15 ∨ b = 16 ∨ (182 ≤ b ∧ b < 210)) (fun b hb => (by have hb : b = (t.2.2.2.2 0 9) + 13 ∨ b = 10 ∨ b = 10 + 1 ∨ b = 10 + 3 ∨ b = 10 + 4 ∨ b = 10 + 5 ∨ b = 10 + 6 := hb; show b = 10 ∨ b = 11 ∨ b = 13 ∨ b = 14 ∨ b = 15 ∨ b = 16 ∨ (182 ≤ b ∧ b < 210); omega)))
      obtain ⟨jv19, E20, H⟩ := am_bd H
      clear E20
      obtain ⟨jv23, E24, H⟩ := am_bd H
      clear E24
      exact hF_tt17.tr (ih _ _ _ _ _ _ _ _ (hD_t.sm hF_tt17 (show ¬ (0 = 10 ∨ 0 = 11 ∨ 0 = 13 ∨ 0 = 14 ∨ 0 = 15 ∨ 0 = 16 ∨ (182 ≤ 0 ∧ 0 < 210)) by omega)) H)
set_option maxHeartbeats 4000000 in
theorem wX9_judged {a1 : Int32} {t : tS} {r : Int32} {t1 : tS} (hD_t : Dy t) (H : tX9_judged a1 t = some (r, t1)) : Sm (fun b => b = 10 ∨ b = 11 ∨ b = 12 ∨ b = 13 ∨ b = 14 ∨ b = 15 ∨ b = 16 ∨ (182 ≤ b ∧ b < 210)) t t1 := by
  unfold tX9_judged at H
  have hF_t : Sm (fun b => b = 10 ∨ b = 11 ∨ b = 12 ∨ b = 13 ∨ b = 14 ∨ b = 15 ∨ b = 16 ∨ (182 ≤ b ∧ b < 210)) t t := Sm.rf
  obtain ⟨x2, _, H⟩ := am_bd H
  split at H
  · have hd_told4 := dy_9 (hD_t.sm hF_t (show ¬ (0 = 10 ∨ 0 = 11 ∨ 0 = 12 ∨ 0 = 13 ∨ 0 = 14 ∨ 0 = 15 ∨ 0 = 16 ∨ (182 ≤ 0 ∧ 0 < 210)) by omega))
    obtain ⟨tt6, e5, H⟩ := am_bd H
    have hF_tt6 := hF_t.tr ((wX6_begin e5).mono (S' := fun b => b = 10 ∨ b = 11 ∨ b = 12 ∨ b = 13 ∨ b = 14 ∨ b = 15 ∨ b = 16 ∨ (182 ≤ b ∧ b < 210)) (fun b hb => (by have hb : b = 10 ∨ b = 10 + 1 ∨ b = 10 + 2 ∨ b = 10 + 3 ∨ b = 10 + 4 ∨ b = 10 + 5 ∨ b = 10 + 6 := hb; show b = 10 ∨ b = 11 ∨ b = 12 ∨ b = 13 ∨ b = 14 ∨ b = 15 ∨ b = 16 ∨ (182 ≤ b ∧ b < 210); omega)))
    obtain ⟨lw25, lw26, tt29, E27, H⟩ := am_bd3 H
    have hF_tt29 := hF_tt6.tr (Sm.mono (S' := fun b => b = 10 ∨ b = 11 ∨ b = 12 ∨ b = 13 ∨ b = 14 ∨ b = 15 ∨ b = 16 ∨ (182 ≤ b ∧ b < 210)) (wX9_judged_L30 _ _ _ _ _ _ _ _ _ (hD_t.sm hF_tt6 (show ¬ (0 = 10 ∨ 0 = 11 ∨ 0 = 12 ∨ 0 = 13 ∨ 0 = 14 ∨ 0 = 15 ∨ 0 = 16 ∨ (182 ≤ 0 ∧ 0 < 210)) by omega)) E27) (fun b hb => (by have hb : b = 10 ∨ b = 11 ∨ b = 13 ∨ b = 14 ∨ b = 15 ∨ b = 16 ∨ (182 ≤ b ∧ b < 210) := hb; show b = 10 ∨ b = 11 ∨ b = 12 ∨ b = 13 ∨ b = 14 ∨ b = 15 ∨ b = 16 ∨ (182 ≤ b ∧ b < 210); omega)))
    clear E27
    split at H
    · obtain ⟨js30, E31, H⟩ := am_bd H
      clear E31
      obtain ⟨rfl, rfl⟩ := am_inj2 H
      exact hF_tt29
    · obtain ⟨rfl, rfl⟩ := am_inj2 H
      exact hF_tt29
  · obtain ⟨rfl, rfl⟩ := am_inj2 H
    exact hF_t
set_option maxHeartbeats 4000000 in
theorem wX9_where_L34 : ∀ (n : Nat) (v1 : Int32) (v2 : Int32) (v3 : Int32) (t : tS) (t1 : tS), Dy t → tX9_where_L34 n v1 v2 v3 t = some t1 → Sm (fun b => b = 10 ∨ b = 13 ∨ b = 14 ∨ b = 15 ∨ b = 16 ∨ (182 ≤ b ∧ b < 210)) t t1 := by
  intro n
  induction n with
  | zero => intro _ _ _ _ _ _ H; cases H
  | succ n ih =>
    intro v1 v2 v3 t t1 hD_t H
    rw [tX9_where_L34] at H
    have hF_t : Sm (fun b => b = 10 ∨ b = 13 ∨ b = 14 ∨ b = 15 ∨ b = 16 ∨ (182 ≤ b ∧ b < 210)) t t := Sm.rf
    split at H
    · obtain rfl := Option.some.inj H
      exact hF_t
    · have hd_told11 := dy_9 (hD_t.sm hF_t (show ¬ (0 = 10 ∨ 0 = 13 ∨ 0 = 14 ∨ 0 = 15 ∨ 0 = 16 ∨ (182 ≤ 0 ∧ 0 < 210)) by omega))
      obtain ⟨tt13, e12, H⟩ := am_bd H
      have hF_tt13 := hF_t.tr ((wX6_passDate e12).mono (S' := fun b => b = 10 ∨ b = 13 ∨ b = 14 ∨ b = 15 ∨ b = 16 ∨ (182 ≤ b ∧ b < 210)) (fun b hb => (by have hb : b = 10 ∨ b = 10 + 3 ∨ b = 10 + 4 ∨ b = 10 + 5 ∨ b = 10 + 6 ∨ b = (t.2.2.2.2 0 9) + 13 := hb; show b = 10 ∨ b = 13 ∨ b = 14 ∨ b = 15 ∨ b = 16 ∨ (182 ≤ b ∧ b < 210); omega)))
      exact hF_tt13.tr (ih _ _ _ _ _ (hD_t.sm hF_tt13 (show ¬ (0 = 10 ∨ 0 = 13 ∨ 0 = 14 ∨ 0 = 15 ∨ 0 = 16 ∨ (182 ≤ 0 ∧ 0 < 210)) by omega)) H)
set_option maxHeartbeats 4000000 in
theorem wX9_where {a1 : Int32} {a2 : Int32} {t : tS} {r : Int32} {t1 : tS} (hD_t : Dy t) (H : tX9_where a1 a2 t = some (r, t1)) : Sm (fun b => b = 10 ∨ b = 11 ∨ b = 12 ∨ b = 13 ∨ b = 14 ∨ b = 15 ∨ b = 16 ∨ (182 ≤ b ∧ b < 210)) t t1 := by
  unfold tX9_where at H
  have hF_t : Sm (fun b => b = 10 ∨ b = 11 ∨ b = 12 ∨ b = 13 ∨ b = 14 ∨ b = 15 ∨ b = 16 ∨ (182 ≤ b ∧ b < 210)) t t := Sm.rf
  obtain ⟨x2, _, H⟩ := am_bd H
  split at H
  · obtain ⟨rfl, rfl⟩ := am_inj2 H
    exact hF_t
  · obtain ⟨x4, _, H⟩ := am_bd H
    split at H
    · obtain ⟨tt8, e7, H⟩ := am_bd H
      have hF_tt8 := hF_t.tr ((wX6_copyFrom e7).mono (S' := fun b => b = 10 ∨ b = 11 ∨ b = 12 ∨ b = 13 ∨ b = 14 ∨ b = 15 ∨ b = 16 ∨ (182 ≤ b ∧ b < 210)) (fun b hb => (by have hb : b = 10 ∨ b = 10 + 1 ∨ b = 10 + 2 ∨ b = 10 + 3 ∨ b = 10 + 4 ∨ b = 10 + 5 ∨ b = 10 + 6 := hb; show b = 10 ∨ b = 11 ∨ b = 12 ∨ b = 13 ∨ b = 14 ∨ b = 15 ∨ b = 16 ∨ (182 ≤ b ∧ b < 210); omega)))
      obtain ⟨tt17, E15, H⟩ := am_bd H
      have hF_tt17 := hF_tt8.tr (Sm.mono (S' := fun b => b = 10 ∨ b = 11 ∨ b = 12 ∨ b = 13 ∨ b = 14 ∨ b = 15 ∨ b = 16 ∨ (182 ≤ b ∧ b < 210)) (wX9_where_L34 _ _ _ _ _ _ (hD_t.sm hF_tt8 (show ¬ (0 = 10 ∨ 0 = 11 ∨ 0 = 12 ∨ 0 = 13 ∨ 0 = 14 ∨ 0 = 15 ∨ 0 = 16 ∨ (182 ≤ 0 ∧ 0 < 210)) by omega)) E15) (fun b hb => (by have hb : b = 10 ∨ b = 13 ∨ b = 14 ∨ b = 15 ∨ b = 16 ∨ (182 ≤ b ∧ b < 210) := hb; show b = 10 ∨ b = 11 ∨ b = 12 ∨ b = 13 ∨ b = 14 ∨ b = 15 ∨ b = 16 ∨ (182 ≤ b ∧ b < 210); omega)))
      clear E15
      obtain ⟨x20, _, H⟩ := am_bd H
      obtain ⟨rfl, rfl⟩ := am_inj2 H
      exact hF_tt17
    · obtain ⟨rfl, rfl⟩ := am_inj2 H
      exact hF_t
set_option maxHeartbeats 4000000 in
theorem wX9_next_L23 : ∀ (n : Nat) (v1 : Int32) (v2 : Int32) (t : tS) (o : (tS) ⊕ (Int32 × tS)), Dy t → tX9_next_L23 n v1 v2 t = some o → (match o with
    | .inl t1 => Sm (fun b => b = 10 ∨ b = 13 ∨ b = 14 ∨ b = 15 ∨ b = 16 ∨ (182 ≤ b ∧ b < 210)) t t1
    | .inr (_, t2) => Sm (fun b => b = 10 ∨ b = 13 ∨ b = 14 ∨ b = 15 ∨ b = 16 ∨ (182 ≤ b ∧ b < 210)) t t2) := by
  intro n
  induction n with
  | zero => intro _ _ _ _ _ H; cases H
  | succ n ih =>
    intro v1 v2 t o hD_t H
    rw [tX9_next_L23] at H
    have hF_t : Sm (fun b => b = 10 ∨ b = 13 ∨ b = 14 ∨ b = 15 ∨ b = 16 ∨ (182 ≤ b ∧ b < 210)) t t := Sm.rf
    split at H
    · obtain rfl := Option.some.inj H
      exact hF_t
    · have hd_told9 := dy_9 (hD_t.sm hF_t (show ¬ (0 = 10 ∨ 0 = 13 ∨ 0 = 14 ∨ 0 = 15 ∨ 0 = 16 ∨ (182 ≤ 0 ∧ 0 < 210)) by omega))
      obtain ⟨tt11, e10, H⟩ := am_bd H
      have hF_tt11 := hF_t.tr ((wX6_passDate e10).mono (S' := fun b => b = 10 ∨ b = 13 ∨ b = 14 ∨ b = 15 ∨ b = 16 ∨ (182 ≤ b ∧ b < 210)) (fun b hb => (by have hb : b = 10 ∨ b = 10 + 3 ∨ b = 10 + 4 ∨ b = 10 + 5 ∨ b = 10 + 6 ∨ b = (t.2.2.2.2 0 9) + 13 := hb; show b = 10 ∨ b = 13 ∨ b = 14 ∨ b = 15 ∨ b = 16 ∨ (182 ≤ b ∧ b < 210); omega)))
      obtain ⟨x18, _, H⟩ := am_bd H
      split at H
      · have hI := ih _ _ _ _ (hD_t.sm hF_tt11 (show ¬ (0 = 10 ∨ 0 = 13 ∨ 0 = 14 ∨ 0 = 15 ∨ 0 = 16 ∨ (182 ≤ 0 ∧ 0 < 210)) by omega)) H
        rcases o with _ | _
        · exact hF_tt11.tr hI
        · exact hF_tt11.tr hI
      · obtain rfl := Option.some.inj H
        exact hF_tt11
set_option maxHeartbeats 4000000 in
theorem wX9_next {a1 : Int32} {t : tS} {r : Int32} {t1 : tS} (hD_t : Dy t) (H : tX9_next a1 t = some (r, t1)) : Sm (fun b => b = 10 ∨ b = 11 ∨ b = 12 ∨ b = 13 ∨ b = 14 ∨ b = 15 ∨ b = 16 ∨ (182 ≤ b ∧ b < 210)) t t1 := by
  unfold tX9_next at H
  have hF_t : Sm (fun b => b = 10 ∨ b = 11 ∨ b = 12 ∨ b = 13 ∨ b = 14 ∨ b = 15 ∨ b = 16 ∨ (182 ≤ b ∧ b < 210)) t t := Sm.rf
  obtain ⟨x2, _, H⟩ := am_bd H
  split at H
  · obtain ⟨tt6, e5, H⟩ := am_bd H
    have hF_tt6 := hF_t.tr ((wX6_copyFrom e5).mono (S' := fun b => b = 10 ∨ b = 11 ∨ b = 12 ∨ b = 13 ∨ b = 14 ∨ b = 15 ∨ b = 16 ∨ (182 ≤ b ∧ b < 210)) (fun b hb => (by have hb : b = 10 ∨ b = 10 + 1 ∨ b = 10 + 2 ∨ b = 10 + 3 ∨ b = 10 + 4 ∨ b = 10 + 5 ∨ b = 10 + 6 := hb; show b = 10 ∨ b = 11 ∨ b = 12 ∨ b = 13 ∨ b = 14 ∨ b = 15 ∨ b = 16 ∨ (182 ≤ b ∧ b < 210); omega)))
    obtain ⟨o22, E19, H⟩ := am_bd H
    have hL := wX9_next_L23 _ _ _ _ _ (hD_t.sm hF_tt6 (show ¬ (0 = 10 ∨ 0 = 11 ∨ 0 = 12 ∨ 0 = 13 ∨ 0 = 14 ∨ 0 = 15 ∨ 0 = 16 ∨ (182 ≤ 0 ∧ 0 < 210)) by omega)) E19
    rcases o22 with tt21 | ⟨_, y23⟩
    · dsimp only at H
      have hF_tt21 := hF_tt6.tr (Sm.mono (S' := fun b => b = 10 ∨ b = 11 ∨ b = 12 ∨ b = 13 ∨ b = 14 ∨ b = 15 ∨ b = 16 ∨ (182 ≤ b ∧ b < 210)) hL (fun b hb => (by have hb : b = 10 ∨ b = 13 ∨ b = 14 ∨ b = 15 ∨ b = 16 ∨ (182 ≤ b ∧ b < 210) := hb; show b = 10 ∨ b = 11 ∨ b = 12 ∨ b = 13 ∨ b = 14 ∨ b = 15 ∨ b = 16 ∨ (182 ≤ b ∧ b < 210); omega)))
      obtain ⟨rfl, rfl⟩ := am_inj2 H
      exact hF_tt21
    · dsimp only at H
      obtain ⟨rfl, rfl⟩ := am_inj2 H
      exact hF_tt6.tr (Sm.mono (S' := fun b => b = 10 ∨ b = 11 ∨ b = 12 ∨ b = 13 ∨ b = 14 ∨ b = 15 ∨ b = 16 ∨ (182 ≤ b ∧ b < 210)) hL (fun b hb => (by have hb : b = 10 ∨ b = 13 ∨ b = 14 ∨ b = 15 ∨ b = 16 ∨ (182 ≤ b ∧ b < 210) := hb; show b = 10 ∨ b = 11 ∨ b = 12 ∨ b = 13 ∨ b = 14 ∨ b = 15 ∨ b = 16 ∨ (182 ≤ b ∧ b < 210); omega)))
  · obtain ⟨rfl, rfl⟩ := am_inj2 H
    exact hF_t
set_option maxHeartbeats 4000000 in
theorem wX9_gone_L23 : ∀ (n : Nat) (v1 : Int32) (v2 : Int32) (t : tS) (o : (tS) ⊕ (Int32 × tS)), Dy t → tX9_gone_L23 n v1 v2 t = some o → (match o with
    | .inl t1 => Sm (fun b => b = 10 ∨ b = 13 ∨ b = 14 ∨ b = 15 ∨ b = 16 ∨ (182 ≤ b ∧ b < 210)) t t1
    | .inr (_, t2) => Sm (fun b => b = 10 ∨ b = 13 ∨ b = 14 ∨ b = 15 ∨ b = 16 ∨ (182 ≤ b ∧ b < 210)) t t2) := by
  intro n
  induction n with
  | zero => intro _ _ _ _ _ H; cases H
  | succ n ih =>
    intro v1 v2 t o hD_t H
    rw [tX9_gone_L23] at H
    have hF_t : Sm (fun b => b = 10 ∨ b = 13 ∨ b = 14 ∨ b = 15 ∨ b = 16 ∨ (182 ≤ b ∧ b < 210)) t t := Sm.rf
    split at H
    · obtain rfl := Option.some.inj H
      exact hF_t
    · obtain ⟨x10, _, H⟩ := am_bd H
      split at H
      · have hd_told12 := dy_9 (hD_t.sm hF_t (show ¬ (0 = 10 ∨ 0 = 13 ∨ 0 = 14 ∨ 0 = 15 ∨ 0 = 16 ∨ (182 ≤ 0 ∧ 0 < 210)) by omega))
        obtain ⟨tt14, e13, H⟩ := am_bd H
        have hF_tt14 := hF_t.tr ((wX6_passDate e13).mono (S' := fun b => b = 10 ∨ b = 13 ∨ b = 14 ∨ b = 15 ∨ b = 16 ∨ (182 ≤ b ∧ b < 210)) (fun b hb => (by have hb : b = 10 ∨ b = 10 + 3 ∨ b = 10 + 4 ∨ b = 10 + 5 ∨ b = 10 + 6 ∨ b = (t.2.2.2.2 0 9) + 13 := hb; show b = 10 ∨ b = 13 ∨ b = 14 ∨ b = 15 ∨ b = 16 ∨ (182 ≤ b ∧ b < 210); omega)))
        have hI := ih _ _ _ _ (hD_t.sm hF_tt14 (show ¬ (0 = 10 ∨ 0 = 13 ∨ 0 = 14 ∨ 0 = 15 ∨ 0 = 16 ∨ (182 ≤ 0 ∧ 0 < 210)) by omega)) H
        rcases o with _ | _
        · exact hF_tt14.tr hI
        · exact hF_tt14.tr hI
      · obtain rfl := Option.some.inj H
        exact hF_t
set_option maxHeartbeats 4000000 in
theorem wX9_gone {a1 : Int32} {t : tS} {r : Int32} {t1 : tS} (hD_t : Dy t) (H : tX9_gone a1 t = some (r, t1)) : Sm (fun b => b = 10 ∨ b = 11 ∨ b = 12 ∨ b = 13 ∨ b = 14 ∨ b = 15 ∨ b = 16 ∨ (182 ≤ b ∧ b < 210)) t t1 := by
  unfold tX9_gone at H
  have hF_t : Sm (fun b => b = 10 ∨ b = 11 ∨ b = 12 ∨ b = 13 ∨ b = 14 ∨ b = 15 ∨ b = 16 ∨ (182 ≤ b ∧ b < 210)) t t := Sm.rf
  obtain ⟨x2, _, H⟩ := am_bd H
  split at H
  · obtain ⟨tt6, e5, H⟩ := am_bd H
    have hF_tt6 := hF_t.tr ((wX6_copyFrom e5).mono (S' := fun b => b = 10 ∨ b = 11 ∨ b = 12 ∨ b = 13 ∨ b = 14 ∨ b = 15 ∨ b = 16 ∨ (182 ≤ b ∧ b < 210)) (fun b hb => (by have hb : b = 10 ∨ b = 10 + 1 ∨ b = 10 + 2 ∨ b = 10 + 3 ∨ b = 10 + 4 ∨ b = 10 + 5 ∨ b = 10 + 6 := hb; show b = 10 ∨ b = 11 ∨ b = 12 ∨ b = 13 ∨ b = 14 ∨ b = 15 ∨ b = 16 ∨ (182 ≤ b ∧ b < 210); omega)))
    obtain ⟨o19, E16, H⟩ := am_bd H
    have hL := wX9_gone_L23 _ _ _ _ _ (hD_t.sm hF_tt6 (show ¬ (0 = 10 ∨ 0 = 11 ∨ 0 = 12 ∨ 0 = 13 ∨ 0 = 14 ∨ 0 = 15 ∨ 0 = 16 ∨ (182 ≤ 0 ∧ 0 < 210)) by omega)) E16
    rcases o19 with tt18 | ⟨_, y20⟩
    · dsimp only at H
      have hF_tt18 := hF_tt6.tr (Sm.mono (S' := fun b => b = 10 ∨ b = 11 ∨ b = 12 ∨ b = 13 ∨ b = 14 ∨ b = 15 ∨ b = 16 ∨ (182 ≤ b ∧ b < 210)) hL (fun b hb => (by have hb : b = 10 ∨ b = 13 ∨ b = 14 ∨ b = 15 ∨ b = 16 ∨ (182 ≤ b ∧ b < 210) := hb; show b = 10 ∨ b = 11 ∨ b = 12 ∨ b = 13 ∨ b = 14 ∨ b = 15 ∨ b = 16 ∨ (182 ≤ b ∧ b < 210); omega)))
      obtain ⟨rfl, rfl⟩ := am_inj2 H
      exact hF_tt18
    · dsimp only at H
      obtain ⟨rfl, rfl⟩ := am_inj2 H
      exact hF_tt6.tr (Sm.mono (S' := fun b => b = 10 ∨ b = 11 ∨ b = 12 ∨ b = 13 ∨ b = 14 ∨ b = 15 ∨ b = 16 ∨ (182 ≤ b ∧ b < 210)) hL (fun b hb => (by have hb : b = 10 ∨ b = 13 ∨ b = 14 ∨ b = 15 ∨ b = 16 ∨ (182 ≤ b ∧ b < 210) := hb; show b = 10 ∨ b = 11 ∨ b = 12 ∨ b = 13 ∨ b = 14 ∨ b = 15 ∨ b = 16 ∨ (182 ≤ b ∧ b < 210); omega)))
  · obtain ⟨rfl, rfl⟩ := am_inj2 H
    exact hF_t
set_option maxHeartbeats 4000000 in
theorem wX9_crowd_L17 : ∀ (n : Nat) (v1 : Int32) (v2 : Int32) (v3 : Int32) (t : tS) (w1 : Int32) (t1 : tS), Dy t → tX9_crowd_L17 n v1 v2 v3 t = some (w1, t1) → Sm (fun b => b = 10 ∨ b = 13 ∨ b = 14 ∨ b = 15 ∨ b = 16 ∨ (182 ≤ b ∧ b < 210)) t t1 := by
  intro n
  induction n with
  | zero => intro _ _ _ _ _ _ _ H; cases H
  | succ n ih =>
    intro v1 v2 v3 t w1 t1 hD_t H
    rw [tX9_crowd_L17] at H
    have hF_t : Sm (fun b => b = 10 ∨ b = 13 ∨ b = 14 ∨ b = 15 ∨ b = 16 ∨ (182 ≤ b ∧ b < 210)) t t := Sm.rf
    split at H
    · obtain ⟨rfl, rfl⟩ := am_inj2 H
      exact hF_t
    · have hd_told7 := dy_9 (hD_t.sm hF_t (show ¬ (0 = 10 ∨ 0 = 13 ∨ 0 = 14 ∨ 0 = 15 ∨ 0 = 16 ∨ (182 ≤ 0 ∧ 0 < 210)) by omega))
      obtain ⟨x9, _, H⟩ := am_bd H
      obtain ⟨x11, _, H⟩ := am_bd H
      obtain ⟨jv12, jv13, E14, H⟩ := am_bd2 H
      clear E14
      have hd_told16 := dy_9 (hD_t.sm hF_t (show ¬ (0 = 10 ∨ 0 = 13 ∨ 0 = 14 ∨ 0 = 15 ∨ 0 = 16 ∨ (182 ≤ 0 ∧ 0 < 210)) by omega))
      obtain ⟨tt18, e17, H⟩ := am_bd H
      have hF_tt18 := hF_t.tr ((wX6_passDate e17).mono (S' := fun b => b = 10 ∨ b = 13 ∨ b = 14 ∨ b = 15 ∨ b = 16 ∨ (182 ≤ b ∧ b < 210)) (fun b hb => (by have hb : b = 10 ∨ b = 10 + 3 ∨ b = 10 + 4 ∨ b = 10 + 5 ∨ b = 10 + 6 ∨ b = (t.2.2.2.2 0 9) + 13 := hb; show b = 10 ∨ b = 13 ∨ b = 14 ∨ b = 15 ∨ b = 16 ∨ (182 ≤ b ∧ b < 210); omega)))
      exact hF_tt18.tr (ih _ _ _ _ _ _ (hD_t.sm hF_tt18 (show ¬ (0 = 10 ∨ 0 = 13 ∨ 0 = 14 ∨ 0 = 15 ∨ 0 = 16 ∨ (182 ≤ 0 ∧ 0 < 210)) by omega)) H)
set_option maxHeartbeats 4000000 in
theorem wX9_crowd  {t : tS} {r : Int32} {t1 : tS} (hD_t : Dy t) (H : tX9_crowd  t = some (r, t1)) : Sm (fun b => b = 10 ∨ b = 11 ∨ b = 12 ∨ b = 13 ∨ b = 14 ∨ b = 15 ∨ b = 16 ∨ (182 ≤ b ∧ b < 210)) t t1 := by
  unfold tX9_crowd at H
  have hF_t : Sm (fun b => b = 10 ∨ b = 11 ∨ b = 12 ∨ b = 13 ∨ b = 14 ∨ b = 15 ∨ b = 16 ∨ (182 ≤ b ∧ b < 210)) t t := Sm.rf
  obtain ⟨tt4, e3, H⟩ := am_bd H
  have hF_tt4 := hF_t.tr ((wX6_copyFrom e3).mono (S' := fun b => b = 10 ∨ b = 11 ∨ b = 12 ∨ b = 13 ∨ b = 14 ∨ b = 15 ∨ b = 16 ∨ (182 ≤ b ∧ b < 210)) (fun b hb => (by have hb : b = 10 ∨ b = 10 + 1 ∨ b = 10 + 2 ∨ b = 10 + 3 ∨ b = 10 + 4 ∨ b = 10 + 5 ∨ b = 10 + 6 := hb; show b = 10 ∨ b = 11 ∨ b = 12 ∨ b = 13 ∨ b = 14 ∨ b = 15 ∨ b = 16 ∨ (182 ≤ b ∧ b < 210); omega)))
  obtain ⟨lw20, tt23, E21, H⟩ := am_bd2 H
  have hF_tt23 := hF_tt4.tr (Sm.mono (S' := fun b => b = 10 ∨ b = 11 ∨ b = 12 ∨ b = 13 ∨ b = 14 ∨ b = 15 ∨ b = 16 ∨ (182 ≤ b ∧ b < 210)) (wX9_crowd_L17 _ _ _ _ _ _ _ (hD_t.sm hF_tt4 (show ¬ (0 = 10 ∨ 0 = 11 ∨ 0 = 12 ∨ 0 = 13 ∨ 0 = 14 ∨ 0 = 15 ∨ 0 = 16 ∨ (182 ≤ 0 ∧ 0 < 210)) by omega)) E21) (fun b hb => (by have hb : b = 10 ∨ b = 13 ∨ b = 14 ∨ b = 15 ∨ b = 16 ∨ (182 ≤ b ∧ b < 210) := hb; show b = 10 ∨ b = 11 ∨ b = 12 ∨ b = 13 ∨ b = 14 ∨ b = 15 ∨ b = 16 ∨ (182 ≤ b ∧ b < 210); omega)))
  clear E21
  obtain ⟨rfl, rfl⟩ := am_inj2 H
  exact hF_tt23
set_option maxHeartbeats 4000000 in
theorem wX9_refused_L24 : ∀ (n : Nat) (v1 : Int32) (v2 : Int32) (t : tS) (o : (tS) ⊕ (Int32 × tS)), Dy t → tX9_refused_L24 n v1 v2 t = some o → (match o with
    | .inl t1 => Sm (fun b => b = 10 ∨ b = 13 ∨ b = 14 ∨ b = 15 ∨ b = 16 ∨ (182 ≤ b ∧ b < 210)) t t1
    | .inr (_, t2) => Sm (fun b => b = 10 ∨ b = 13 ∨ b = 14 ∨ b = 15 ∨ b = 16 ∨ (182 ≤ b ∧ b < 210)) t t2) := by
  intro n
  induction n with
  | zero => intro _ _ _ _ _ H; cases H
  | succ n ih =>
    intro v1 v2 t o hD_t H
    rw [tX9_refused_L24] at H
    have hF_t : Sm (fun b => b = 10 ∨ b = 13 ∨ b = 14 ∨ b = 15 ∨ b = 16 ∨ (182 ≤ b ∧ b < 210)) t t := Sm.rf
    split at H
    · obtain rfl := Option.some.inj H
      exact hF_t
    · have hd_told9 := dy_9 (hD_t.sm hF_t (show ¬ (0 = 10 ∨ 0 = 13 ∨ 0 = 14 ∨ 0 = 15 ∨ 0 = 16 ∨ (182 ≤ 0 ∧ 0 < 210)) by omega))
      obtain ⟨tt11, e10, H⟩ := am_bd H
      have hF_tt11 := hF_t.tr ((wX6_passDate e10).mono (S' := fun b => b = 10 ∨ b = 13 ∨ b = 14 ∨ b = 15 ∨ b = 16 ∨ (182 ≤ b ∧ b < 210)) (fun b hb => (by have hb : b = 10 ∨ b = 10 + 3 ∨ b = 10 + 4 ∨ b = 10 + 5 ∨ b = 10 + 6 ∨ b = (t.2.2.2.2 0 9) + 13 := hb; show b = 10 ∨ b = 13 ∨ b = 14 ∨ b = 15 ∨ b = 16 ∨ (182 ≤ b ∧ b < 210); omega)))
      split at H
      · have hI := ih _ _ _ _ (hD_t.sm hF_tt11 (show ¬ (0 = 10 ∨ 0 = 13 ∨ 0 = 14 ∨ 0 = 15 ∨ 0 = 16 ∨ (182 ≤ 0 ∧ 0 < 210)) by omega)) H
        rcases o with _ | _
        · exact hF_tt11.tr hI
        · exact hF_tt11.tr hI
      · obtain ⟨js15, E16, H⟩ := am_bd H
        clear E16
        obtain rfl := Option.some.inj H
        exact hF_tt11
set_option maxHeartbeats 4000000 in
theorem wX9_refused {a1 : Int32} {t : tS} {r : Int32} {t1 : tS} (hD_t : Dy t) (H : tX9_refused a1 t = some (r, t1)) : Sm (fun b => b = 10 ∨ b = 11 ∨ b = 12 ∨ b = 13 ∨ b = 14 ∨ b = 15 ∨ b = 16 ∨ (182 ≤ b ∧ b < 210)) t t1 := by
  unfold tX9_refused at H
  have hF_t : Sm (fun b => b = 10 ∨ b = 11 ∨ b = 12 ∨ b = 13 ∨ b = 14 ∨ b = 15 ∨ b = 16 ∨ (182 ≤ b ∧ b < 210)) t t := Sm.rf
  obtain ⟨x2, _, H⟩ := am_bd H
  split at H
  · obtain ⟨tt6, e5, H⟩ := am_bd H
    have hF_tt6 := hF_t.tr ((wX6_copyFrom e5).mono (S' := fun b => b = 10 ∨ b = 11 ∨ b = 12 ∨ b = 13 ∨ b = 14 ∨ b = 15 ∨ b = 16 ∨ (182 ≤ b ∧ b < 210)) (fun b hb => (by have hb : b = 10 ∨ b = 10 + 1 ∨ b = 10 + 2 ∨ b = 10 + 3 ∨ b = 10 + 4 ∨ b = 10 + 5 ∨ b = 10 + 6 := hb; show b = 10 ∨ b = 11 ∨ b = 12 ∨ b = 13 ∨ b = 14 ∨ b = 15 ∨ b = 16 ∨ (182 ≤ b ∧ b < 210); omega)))
    obtain ⟨o20, E17, H⟩ := am_bd H
    have hL := wX9_refused_L24 _ _ _ _ _ (hD_t.sm hF_tt6 (show ¬ (0 = 10 ∨ 0 = 11 ∨ 0 = 12 ∨ 0 = 13 ∨ 0 = 14 ∨ 0 = 15 ∨ 0 = 16 ∨ (182 ≤ 0 ∧ 0 < 210)) by omega)) E17
    rcases o20 with tt19 | ⟨_, y21⟩
    · dsimp only at H
      have hF_tt19 := hF_tt6.tr (Sm.mono (S' := fun b => b = 10 ∨ b = 11 ∨ b = 12 ∨ b = 13 ∨ b = 14 ∨ b = 15 ∨ b = 16 ∨ (182 ≤ b ∧ b < 210)) hL (fun b hb => (by have hb : b = 10 ∨ b = 13 ∨ b = 14 ∨ b = 15 ∨ b = 16 ∨ (182 ≤ b ∧ b < 210) := hb; show b = 10 ∨ b = 11 ∨ b = 12 ∨ b = 13 ∨ b = 14 ∨ b = 15 ∨ b = 16 ∨ (182 ≤ b ∧ b < 210); omega)))
      obtain ⟨rfl, rfl⟩ := am_inj2 H
      exact hF_tt19
    · dsimp only at H
      obtain ⟨rfl, rfl⟩ := am_inj2 H
      exact hF_tt6.tr (Sm.mono (S' := fun b => b = 10 ∨ b = 11 ∨ b = 12 ∨ b = 13 ∨ b = 14 ∨ b = 15 ∨ b = 16 ∨ (182 ≤ b ∧ b < 210)) hL (fun b hb => (by have hb : b = 10 ∨ b = 13 ∨ b = 14 ∨ b = 15 ∨ b = 16 ∨ (182 ≤ b ∧ b < 210) := hb; show b = 10 ∨ b = 11 ∨ b = 12 ∨ b = 13 ∨ b = 14 ∨ b = 15 ∨ b = 16 ∨ (182 ≤ b ∧ b < 210); omega)))
  · obtain ⟨rfl, rfl⟩ := am_inj2 H
    exact hF_t
set_option maxHeartbeats 4000000 in
theorem wX9_meets_L36 : ∀ (n : Nat) (v1 : Int32) (v2 : Int32) (v3 : Int32) (t : tS) (o : (tS) ⊕ (Int32 × tS)), Dy t → tX9_meets_L36 n v1 v2 v3 t = some o → (match o with
    | .inl t1 => Sm (fun b => b = 10 ∨ b = 13 ∨ b = 14 ∨ b = 15 ∨ b = 16 ∨ (182 ≤ b ∧ b < 210)) t t1
    | .inr (_, t2) => Sm (fun b => b = 10 ∨ b = 13 ∨ b = 14 ∨ b = 15 ∨ b = 16 ∨ (182 ≤ b ∧ b < 210)) t t2) := by
  intro n
  induction n with
  | zero => intro _ _ _ _ _ _ H; cases H
  | succ n ih =>
    intro v1 v2 v3 t o hD_t H
    rw [tX9_meets_L36] at H
    have hF_t : Sm (fun b => b = 10 ∨ b = 13 ∨ b = 14 ∨ b = 15 ∨ b = 16 ∨ (182 ≤ b ∧ b < 210)) t t := Sm.rf
    split at H
    · obtain rfl := Option.some.inj H
      exact hF_t
    · obtain ⟨x12, _, H⟩ := am_bd H
      split at H
      · have hd_told14 := dy_9 (hD_t.sm hF_t (show ¬ (0 = 10 ∨ 0 = 13 ∨ 0 = 14 ∨ 0 = 15 ∨ 0 = 16 ∨ (182 ≤ 0 ∧ 0 < 210)) by omega))
        obtain ⟨tt16, e15, H⟩ := am_bd H
        have hF_tt16 := hF_t.tr ((wX6_passDate e15).mono (S' := fun b => b = 10 ∨ b = 13 ∨ b = 14 ∨ b = 15 ∨ b = 16 ∨ (182 ≤ b ∧ b < 210)) (fun b hb => (by have hb : b = 10 ∨ b = 10 + 3 ∨ b = 10 + 4 ∨ b = 10 + 5 ∨ b = 10 + 6 ∨ b = (t.2.2.2.2 0 9) + 13 := hb; show b = 10 ∨ b = 13 ∨ b = 14 ∨ b = 15 ∨ b = 16 ∨ (182 ≤ b ∧ b < 210); omega)))
        have hI := ih _ _ _ _ _ (hD_t.sm hF_tt16 (show ¬ (0 = 10 ∨ 0 = 13 ∨ 0 = 14 ∨ 0 = 15 ∨ 0 = 16 ∨ (182 ≤ 0 ∧ 0 < 210)) by omega)) H
        rcases o with _ | _
        · exact hF_tt16.tr hI
        · exact hF_tt16.tr hI
      · obtain ⟨x20, _, H⟩ := am_bd H
        obtain ⟨x23, _, H⟩ := am_bd H
        split at H
        · have hd_told25 := dy_9 (hD_t.sm hF_t (show ¬ (0 = 10 ∨ 0 = 13 ∨ 0 = 14 ∨ 0 = 15 ∨ 0 = 16 ∨ (182 ≤ 0 ∧ 0 < 210)) by omega))
          obtain ⟨tt27, e26, H⟩ := am_bd H
          have hF_tt27 := hF_t.tr ((wX6_passDate e26).mono (S' := fun b => b = 10 ∨ b = 13 ∨ b = 14 ∨ b = 15 ∨ b = 16 ∨ (182 ≤ b ∧ b < 210)) (fun b hb => (by have hb : b = 10 ∨ b = 10 + 3 ∨ b = 10 + 4 ∨ b = 10 + 5 ∨ b = 10 + 6 ∨ b = (t.2.2.2.2 0 9) + 13 := hb; show b = 10 ∨ b = 13 ∨ b = 14 ∨ b = 15 ∨ b = 16 ∨ (182 ≤ b ∧ b < 210); omega)))
          have hI := ih _ _ _ _ _ (hD_t.sm hF_tt27 (show ¬ (0 = 10 ∨ 0 = 13 ∨ 0 = 14 ∨ 0 = 15 ∨ 0 = 16 ∨ (182 ≤ 0 ∧ 0 < 210)) by omega)) H
          rcases o with _ | _
          · exact hF_tt27.tr hI
          · exact hF_tt27.tr hI
        · obtain rfl := Option.some.inj H
          exact hF_t
set_option maxHeartbeats 4000000 in
theorem wX9_meets {a1 : Int32} {a2 : Int32} {t : tS} {r : Int32} {t1 : tS} (hD_t : Dy t) (H : tX9_meets a1 a2 t = some (r, t1)) : Sm (fun b => b = 10 ∨ b = 11 ∨ b = 12 ∨ b = 13 ∨ b = 14 ∨ b = 15 ∨ b = 16 ∨ (182 ≤ b ∧ b < 210)) t t1 := by
  unfold tX9_meets at H
  have hF_t : Sm (fun b => b = 10 ∨ b = 11 ∨ b = 12 ∨ b = 13 ∨ b = 14 ∨ b = 15 ∨ b = 16 ∨ (182 ≤ b ∧ b < 210)) t t := Sm.rf
  obtain ⟨x2, _, H⟩ := am_bd H
  split at H
  · obtain ⟨rfl, rfl⟩ := am_inj2 H
    exact hF_t
  · obtain ⟨x4, _, H⟩ := am_bd H
    split at H
    · obtain ⟨rfl, rfl⟩ := am_inj2 H
      exact hF_t
    · split at H
      · obtain ⟨tt8, e7, H⟩ := am_bd H
        have hF_tt8 := hF_t.tr ((wX6_copyFrom e7).mono (S' := fun b => b = 10 ∨ b = 11 ∨ b = 12 ∨ b = 13 ∨ b = 14 ∨ b = 15 ∨ b = 16 ∨ (182 ≤ b ∧ b < 210)) (fun b hb => (by have hb : b = 10 ∨ b = 10 + 1 ∨ b = 10 + 2 ∨ b = 10 + 3 ∨ b = 10 + 4 ∨ b = 10 + 5 ∨ b = 10 + 6 := hb; show b = 10 ∨ b = 11 ∨ b = 12 ∨ b = 13 ∨ b = 14 ∨ b = 15 ∨ b = 16 ∨ (182 ≤ b ∧ b < 210); omega)))
        obtain ⟨o32, E29, H⟩ := am_bd H
        have hL := wX9_meets_L36 _ _ _ _ _ _ (hD_t.sm hF_tt8 (show ¬ (0 = 10 ∨ 0 = 11 ∨ 0 = 12 ∨ 0 = 13 ∨ 0 = 14 ∨ 0 = 15 ∨ 0 = 16 ∨ (182 ≤ 0 ∧ 0 < 210)) by omega)) E29
        rcases o32 with tt31 | ⟨_, y33⟩
        · dsimp only at H
          have hF_tt31 := hF_tt8.tr (Sm.mono (S' := fun b => b = 10 ∨ b = 11 ∨ b = 12 ∨ b = 13 ∨ b = 14 ∨ b = 15 ∨ b = 16 ∨ (182 ≤ b ∧ b < 210)) hL (fun b hb => (by have hb : b = 10 ∨ b = 13 ∨ b = 14 ∨ b = 15 ∨ b = 16 ∨ (182 ≤ b ∧ b < 210) := hb; show b = 10 ∨ b = 11 ∨ b = 12 ∨ b = 13 ∨ b = 14 ∨ b = 15 ∨ b = 16 ∨ (182 ≤ b ∧ b < 210); omega)))
          obtain ⟨rfl, rfl⟩ := am_inj2 H
          exact hF_tt31
        · dsimp only at H
          obtain ⟨rfl, rfl⟩ := am_inj2 H
          exact hF_tt8.tr (Sm.mono (S' := fun b => b = 10 ∨ b = 11 ∨ b = 12 ∨ b = 13 ∨ b = 14 ∨ b = 15 ∨ b = 16 ∨ (182 ≤ b ∧ b < 210)) hL (fun b hb => (by have hb : b = 10 ∨ b = 13 ∨ b = 14 ∨ b = 15 ∨ b = 16 ∨ (182 ≤ b ∧ b < 210) := hb; show b = 10 ∨ b = 11 ∨ b = 12 ∨ b = 13 ∨ b = 14 ∨ b = 15 ∨ b = 16 ∨ (182 ≤ b ∧ b < 210); omega)))
      · obtain ⟨rfl, rfl⟩ := am_inj2 H
        exact hF_t
set_option maxHeartbeats 4000000 in
theorem wX9_buildRow_L13 : ∀ (n : Nat) (v1 : Int32) (t : tS) (o : (tS) ⊕ (Int32 × tS)), Dy t → tX9_buildRow_L13 n v1 t = some o → (match o with
    | .inl t1 => Sm (fun b => b = 11) t t1
    | .inr (_, t2) => Sm (fun b => b = 11) t t2) := by
  intro n
  induction n with
  | zero => intro _ _ _ _ H; cases H
  | succ n ih =>
    intro v1 t o hD_t H
    rw [tX9_buildRow_L13] at H
    have hF_t : Sm (fun b => b = 11) t t := Sm.rf
    have hd_told6 := dy_9 (hD_t.sm hF_t (show ¬ (0 = 11) by omega))
    split at H
    · obtain rfl := Option.some.inj H
      exact hF_t
    · obtain ⟨x10, _, H⟩ := am_bd H
      obtain ⟨x12, _, H⟩ := am_bd H
      obtain ⟨tt14, e15, H⟩ := am_bd H
      have hF_tt14 := hF_t.tr (sm_WA (S := fun b => b = 11) e15 (show 11 = 11 by omega))
      obtain ⟨x18, _, H⟩ := am_bd H
      split at H
      · have hI := ih _ _ _ (hD_t.sm hF_tt14 (show ¬ (0 = 11) by omega)) H
        rcases o with _ | _
        · exact hF_tt14.tr hI
        · exact hF_tt14.tr hI
      · obtain rfl := Option.some.inj H
        exact hF_tt14
set_option maxHeartbeats 4000000 in
theorem wX9_buildRow  {t : tS} {r : Int32} {t1 : tS} (hD_t : Dy t) (H : tX9_buildRow  t = some (r, t1)) : Sm (fun b => b = 10 ∨ b = 11 ∨ b = 12 ∨ b = 13 ∨ b = 14 ∨ b = 15 ∨ b = 16) t t1 := by
  unfold tX9_buildRow at H
  have hF_t : Sm (fun b => b = 10 ∨ b = 11 ∨ b = 12 ∨ b = 13 ∨ b = 14 ∨ b = 15 ∨ b = 16) t t := Sm.rf
  obtain ⟨tt4, e3, H⟩ := am_bd H
  have hF_tt4 := hF_t.tr ((wX6_copyFrom e3).mono (S' := fun b => b = 10 ∨ b = 11 ∨ b = 12 ∨ b = 13 ∨ b = 14 ∨ b = 15 ∨ b = 16) (fun b hb => (by have hb : b = 10 ∨ b = 10 + 1 ∨ b = 10 + 2 ∨ b = 10 + 3 ∨ b = 10 + 4 ∨ b = 10 + 5 ∨ b = 10 + 6 := hb; show b = 10 ∨ b = 11 ∨ b = 12 ∨ b = 13 ∨ b = 14 ∨ b = 15 ∨ b = 16; omega)))
  obtain ⟨o22, E19, H⟩ := am_bd H
  have hL := wX9_buildRow_L13 _ _ _ _ (hD_t.sm hF_tt4 (show ¬ (0 = 10 ∨ 0 = 11 ∨ 0 = 12 ∨ 0 = 13 ∨ 0 = 14 ∨ 0 = 15 ∨ 0 = 16) by omega)) E19
  rcases o22 with tt21 | ⟨_, y23⟩
  · dsimp only at H
    have hF_tt21 := hF_tt4.tr (Sm.mono (S' := fun b => b = 10 ∨ b = 11 ∨ b = 12 ∨ b = 13 ∨ b = 14 ∨ b = 15 ∨ b = 16) hL (fun b hb => (by have hb : b = 11 := hb; show b = 10 ∨ b = 11 ∨ b = 12 ∨ b = 13 ∨ b = 14 ∨ b = 15 ∨ b = 16; omega)))
    obtain ⟨rfl, rfl⟩ := am_inj2 H
    exact hF_tt21
  · dsimp only at H
    obtain ⟨rfl, rfl⟩ := am_inj2 H
    exact hF_tt4.tr (Sm.mono (S' := fun b => b = 10 ∨ b = 11 ∨ b = 12 ∨ b = 13 ∨ b = 14 ∨ b = 15 ∨ b = 16) hL (fun b hb => (by have hb : b = 11 := hb; show b = 10 ∨ b = 11 ∨ b = 12 ∨ b = 13 ∨ b = 14 ∨ b = 15 ∨ b = 16; omega)))
set_option maxHeartbeats 4000000 in
theorem wX9_layRow_L15 : ∀ (n : Nat) (v2 : Int32) (v3 : Int32) (v4 : Int32) (t : tS) (w2 : Int32) (t1 : tS), Dy t → tX9_layRow_L15 n v2 v3 v4 t = some (w2, t1) → Sm (fun b => b = 179) t t1 := by
  intro n
  induction n with
  | zero => intro _ _ _ _ _ _ _ H; cases H
  | succ n ih =>
    intro v2 v3 v4 t w2 t1 hD_t H
    rw [tX9_layRow_L15] at H
    have hF_t : Sm (fun b => b = 179) t t := Sm.rf
    split at H
    · obtain ⟨rfl, rfl⟩ := am_inj2 H
      exact hF_t
    · obtain ⟨q4, _, H⟩ := am_bd H
      obtain ⟨tt6, e7, H⟩ := am_bd H
      have hF_tt6 := hF_t.tr (sm_WA (S := fun b => b = 179) e7 (show 179 = 179 by omega))
      obtain ⟨x9, _, H⟩ := am_bd H
      obtain ⟨q10, _, H⟩ := am_bd H
      exact hF_tt6.tr (ih _ _ _ _ _ _ (hD_t.sm hF_tt6 (show ¬ (0 = 179) by omega)) H)
set_option maxHeartbeats 4000000 in
theorem wX9_layRow {a1 : Int32} {t : tS} {r : Int32} {t1 : tS} (hD_t : Dy t) (H : tX9_layRow a1 t = some (r, t1)) : Sm (fun b => b = 179) t t1 := by
  unfold tX9_layRow at H
  have hF_t : Sm (fun b => b = 179) t t := Sm.rf
  have hd_told1 := dy_9 (hD_t.sm hF_t (show ¬ (0 = 179) by omega))
  obtain ⟨lw11, tt14, E12, H⟩ := am_bd2 H
  have hF_tt14 := hF_t.tr (Sm.mono (S' := fun b => b = 179) (wX9_layRow_L15 _ _ _ _ _ _ _ (hD_t.sm hF_t (show ¬ (0 = 179) by omega)) E12) (fun b hb => (by have hb : b = 179 := hb; show b = 179; omega)))
  clear E12
  obtain ⟨rfl, rfl⟩ := am_inj2 H
  exact hF_tt14
set_option maxHeartbeats 4000000 in
theorem wX9_noneTurnedOff_L2 : ∀ (n : Nat) (v1 : Int32) (v2 : Int32) (t : tS) (o : (tS) ⊕ (Int32 × tS)), Dy t → tX9_noneTurnedOff_L2 n v1 v2 t = some o → (match o with
    | .inl t1 => Sm (fun b => b = 10 ∨ b = 13 ∨ b = 14 ∨ b = 15 ∨ b = 16 ∨ (182 ≤ b ∧ b < 210)) t t1
    | .inr (_, t2) => Sm (fun b => b = 10 ∨ b = 13 ∨ b = 14 ∨ b = 15 ∨ b = 16 ∨ (182 ≤ b ∧ b < 210)) t t2) := by
  intro n
  induction n with
  | zero => intro _ _ _ _ _ H; cases H
  | succ n ih =>
    intro v1 v2 t o hD_t H
    rw [tX9_noneTurnedOff_L2] at H
    have hF_t : Sm (fun b => b = 10 ∨ b = 13 ∨ b = 14 ∨ b = 15 ∨ b = 16 ∨ (182 ≤ b ∧ b < 210)) t t := Sm.rf
    split at H
    · obtain rfl := Option.some.inj H
      exact hF_t
    · have hd_told2 := dy_9 (hD_t.sm hF_t (show ¬ (0 = 10 ∨ 0 = 13 ∨ 0 = 14 ∨ 0 = 15 ∨ 0 = 16 ∨ (182 ≤ 0 ∧ 0 < 210)) by omega))
      obtain ⟨tt4, e3, H⟩ := am_bd H
      have hF_tt4 := hF_t.tr ((wX6_passDate e3).mono (S' := fun b => b = 10 ∨ b = 13 ∨ b = 14 ∨ b = 15 ∨ b = 16 ∨ (182 ≤ b ∧ b < 210)) (fun b hb => (by have hb : b = 10 ∨ b = 10 + 3 ∨ b = 10 + 4 ∨ b = 10 + 5 ∨ b = 10 + 6 ∨ b = (t.2.2.2.2 0 9) + 13 := hb; show b = 10 ∨ b = 13 ∨ b = 14 ∨ b = 15 ∨ b = 16 ∨ (182 ≤ b ∧ b < 210); omega)))
      split at H
      · have hI := ih _ _ _ _ (hD_t.sm hF_tt4 (show ¬ (0 = 10 ∨ 0 = 13 ∨ 0 = 14 ∨ 0 = 15 ∨ 0 = 16 ∨ (182 ≤ 0 ∧ 0 < 210)) by omega)) H
        rcases o with _ | _
        · exact hF_tt4.tr hI
        · exact hF_tt4.tr hI
      · obtain rfl := Option.some.inj H
        exact hF_tt4
set_option maxHeartbeats 4000000 in
theorem wX9_noneTurnedOff {a1 : Int32} {t : tS} {r : Int32} {t1 : tS} (hD_t : Dy t) (H : tX9_noneTurnedOff a1 t = some (r, t1)) : Sm (fun b => b = 10 ∨ b = 13 ∨ b = 14 ∨ b = 15 ∨ b = 16 ∨ (182 ≤ b ∧ b < 210)) t t1 := by
  unfold tX9_noneTurnedOff at H
  have hF_t : Sm (fun b => b = 10 ∨ b = 13 ∨ b = 14 ∨ b = 15 ∨ b = 16 ∨ (182 ≤ b ∧ b < 210)) t t := Sm.rf
  obtain ⟨o11, E8, H⟩ := am_bd H
  have hL := wX9_noneTurnedOff_L2 _ _ _ _ _ (hD_t.sm hF_t (show ¬ (0 = 10 ∨ 0 = 13 ∨ 0 = 14 ∨ 0 = 15 ∨ 0 = 16 ∨ (182 ≤ 0 ∧ 0 < 210)) by omega)) E8
  rcases o11 with tt10 | ⟨_, y12⟩
  · dsimp only at H
    have hF_tt10 := hF_t.tr (Sm.mono (S' := fun b => b = 10 ∨ b = 13 ∨ b = 14 ∨ b = 15 ∨ b = 16 ∨ (182 ≤ b ∧ b < 210)) hL (fun b hb => (by have hb : b = 10 ∨ b = 13 ∨ b = 14 ∨ b = 15 ∨ b = 16 ∨ (182 ≤ b ∧ b < 210) := hb; show b = 10 ∨ b = 13 ∨ b = 14 ∨ b = 15 ∨ b = 16 ∨ (182 ≤ b ∧ b < 210); omega)))
    obtain ⟨rfl, rfl⟩ := am_inj2 H
    exact hF_tt10
  · dsimp only at H
    obtain ⟨rfl, rfl⟩ := am_inj2 H
    exact hF_t.tr (Sm.mono (S' := fun b => b = 10 ∨ b = 13 ∨ b = 14 ∨ b = 15 ∨ b = 16 ∨ (182 ≤ b ∧ b < 210)) hL (fun b hb => (by have hb : b = 10 ∨ b = 13 ∨ b = 14 ∨ b = 15 ∨ b = 16 ∨ (182 ≤ b ∧ b < 210) := hb; show b = 10 ∨ b = 13 ∨ b = 14 ∨ b = 15 ∨ b = 16 ∨ (182 ≤ b ∧ b < 210); omega)))
set_option maxHeartbeats 4000000 in
theorem wX9_fewestBeds_L43 : ∀ (n : Nat) (v1 : Int32) (v2 : Int32) (v3 : Int32) (v4 : Int32) (t : tS) (o : (tS) ⊕ (Int32 × tS)), Dy t → tX9_fewestBeds_L43 n v1 v2 v3 v4 t = some o → (match o with
    | .inl t1 => Sm (fun b => b = 10 ∨ b = 11 ∨ b = 12 ∨ b = 13 ∨ b = 14 ∨ b = 15 ∨ b = 16 ∨ b = 179 ∨ (182 ≤ b ∧ b < 210)) t t1
    | .inr (_, t2) => Sm (fun b => b = 10 ∨ b = 11 ∨ b = 12 ∨ b = 13 ∨ b = 14 ∨ b = 15 ∨ b = 16 ∨ b = 179 ∨ (182 ≤ b ∧ b < 210)) t t2) := by
  intro n
  induction n with
  | zero => intro _ _ _ _ _ _ _ H; cases H
  | succ n ih =>
    intro v1 v2 v3 v4 t o hD_t H
    rw [tX9_fewestBeds_L43] at H
    have hF_t : Sm (fun b => b = 10 ∨ b = 11 ∨ b = 12 ∨ b = 13 ∨ b = 14 ∨ b = 15 ∨ b = 16 ∨ b = 179 ∨ (182 ≤ b ∧ b < 210)) t t := Sm.rf
    split at H
    · obtain rfl := Option.some.inj H
      exact hF_t
    · obtain ⟨x6, tt7, e5, H⟩ := am_bd2 H
      have hF_tt7 := hF_t.tr ((wX9_layRow (hD_t.sm hF_t (show ¬ (0 = 10 ∨ 0 = 11 ∨ 0 = 12 ∨ 0 = 13 ∨ 0 = 14 ∨ 0 = 15 ∨ 0 = 16 ∨ 0 = 179 ∨ (182 ≤ 0 ∧ 0 < 210)) by omega)) e5).mono (S' := fun b => b = 10 ∨ b = 11 ∨ b = 12 ∨ b = 13 ∨ b = 14 ∨ b = 15 ∨ b = 16 ∨ b = 179 ∨ (182 ≤ b ∧ b < 210)) (fun b hb => (by have hb : b = 179 := hb; show b = 10 ∨ b = 11 ∨ b = 12 ∨ b = 13 ∨ b = 14 ∨ b = 15 ∨ b = 16 ∨ b = 179 ∨ (182 ≤ b ∧ b < 210); omega)))
      split at H
      · have hI := ih _ _ _ _ _ _ (hD_t.sm hF_tt7 (show ¬ (0 = 10 ∨ 0 = 11 ∨ 0 = 12 ∨ 0 = 13 ∨ 0 = 14 ∨ 0 = 15 ∨ 0 = 16 ∨ 0 = 179 ∨ (182 ≤ 0 ∧ 0 < 210)) by omega)) H
        rcases o with _ | _
        · exact hF_tt7.tr hI
        · exact hF_tt7.tr hI
      · obtain ⟨x10, tt11, e9, H⟩ := am_bd2 H
        have hF_tt11 := hF_tt7.tr ((wX9_buildRow (hD_t.sm hF_tt7 (show ¬ (0 = 10 ∨ 0 = 11 ∨ 0 = 12 ∨ 0 = 13 ∨ 0 = 14 ∨ 0 = 15 ∨ 0 = 16 ∨ 0 = 179 ∨ (182 ≤ 0 ∧ 0 < 210)) by omega)) e9).mono (S' := fun b => b = 10 ∨ b = 11 ∨ b = 12 ∨ b = 13 ∨ b = 14 ∨ b = 15 ∨ b = 16 ∨ b = 179 ∨ (182 ≤ b ∧ b < 210)) (fun b hb => (by have hb : b = 10 ∨ b = 11 ∨ b = 12 ∨ b = 13 ∨ b = 14 ∨ b = 15 ∨ b = 16 := hb; show b = 10 ∨ b = 11 ∨ b = 12 ∨ b = 13 ∨ b = 14 ∨ b = 15 ∨ b = 16 ∨ b = 179 ∨ (182 ≤ b ∧ b < 210); omega)))
        split at H
        · have hI := ih _ _ _ _ _ _ (hD_t.sm hF_tt11 (show ¬ (0 = 10 ∨ 0 = 11 ∨ 0 = 12 ∨ 0 = 13 ∨ 0 = 14 ∨ 0 = 15 ∨ 0 = 16 ∨ 0 = 179 ∨ (182 ≤ 0 ∧ 0 < 210)) by omega)) H
          rcases o with _ | _
          · exact hF_tt11.tr hI
          · exact hF_tt11.tr hI
        · obtain ⟨x14, tt15, e13, H⟩ := am_bd2 H
          have hF_tt15 := hF_tt11.tr ((wX9_noneTurnedOff (hD_t.sm hF_tt11 (show ¬ (0 = 10 ∨ 0 = 11 ∨ 0 = 12 ∨ 0 = 13 ∨ 0 = 14 ∨ 0 = 15 ∨ 0 = 16 ∨ 0 = 179 ∨ (182 ≤ 0 ∧ 0 < 210)) by omega)) e13).mono (S' := fun b => b = 10 ∨ b = 11 ∨ b = 12 ∨ b = 13 ∨ b = 14 ∨ b = 15 ∨ b = 16 ∨ b = 179 ∨ (182 ≤ b ∧ b < 210)) (fun b hb => (by have hb : b = 10 ∨ b = 13 ∨ b = 14 ∨ b = 15 ∨ b = 16 ∨ (182 ≤ b ∧ b < 210) := hb; show b = 10 ∨ b = 11 ∨ b = 12 ∨ b = 13 ∨ b = 14 ∨ b = 15 ∨ b = 16 ∨ b = 179 ∨ (182 ≤ b ∧ b < 210); omega)))
          split at H
          · have hI := ih _ _ _ _ _ _ (hD_t.sm hF_tt15 (show ¬ (0 = 10 ∨ 0 = 11 ∨ 0 = 12 ∨ 0 = 13 ∨ 0 = 14 ∨ 0 = 15 ∨ 0 = 16 ∨ 0 = 179 ∨ (182 ≤ 0 ∧ 0 < 210)) by omega)) H
            rcases o with _ | _
            · exact hF_tt15.tr hI
            · exact hF_tt15.tr hI
          · obtain rfl := Option.some.inj H
            exact hF_tt15
set_option maxHeartbeats 4000000 in
theorem wX9_fewestBeds_L27 : ∀ (n : Nat) (v1 : Int32) (v2 : Int32) (v3 : Int32) (t : tS) (o : (tS) ⊕ (Int32 × tS)), Dy t → tX9_fewestBeds_L27 n v1 v2 v3 t = some o → (match o with
    | .inl t1 => Sm (fun b => b = 10 ∨ b = 11 ∨ b = 12 ∨ b = 13 ∨ b = 14 ∨ b = 15 ∨ b = 16 ∨ b = 179 ∨ (182 ≤ b ∧ b < 210)) t t1
    | .inr (_, t2) => Sm (fun b => b = 10 ∨ b = 11 ∨ b = 12 ∨ b = 13 ∨ b = 14 ∨ b = 15 ∨ b = 16 ∨ b = 179 ∨ (182 ≤ b ∧ b < 210)) t t2) := by
  intro n
  induction n with
  | zero => intro _ _ _ _ _ _ H; cases H
  | succ n ih =>
    intro v1 v2 v3 t o hD_t H
    rw [tX9_fewestBeds_L27] at H
    have hF_t : Sm (fun b => b = 10 ∨ b = 11 ∨ b = 12 ∨ b = 13 ∨ b = 14 ∨ b = 15 ∨ b = 16 ∨ b = 179 ∨ (182 ≤ b ∧ b < 210)) t t := Sm.rf
    have hd_told3 := dy_9 (hD_t.sm hF_t (show ¬ (0 = 10 ∨ 0 = 11 ∨ 0 = 12 ∨ 0 = 13 ∨ 0 = 14 ∨ 0 = 15 ∨ 0 = 16 ∨ 0 = 179 ∨ (182 ≤ 0 ∧ 0 < 210)) by omega))
    split at H
    · obtain rfl := Option.some.inj H
      exact hF_t
    · obtain ⟨o20, E17, H⟩ := am_bd H
      have hL := wX9_fewestBeds_L43 _ _ _ _ _ _ _ (hD_t.sm hF_t (show ¬ (0 = 10 ∨ 0 = 11 ∨ 0 = 12 ∨ 0 = 13 ∨ 0 = 14 ∨ 0 = 15 ∨ 0 = 16 ∨ 0 = 179 ∨ (182 ≤ 0 ∧ 0 < 210)) by omega)) E17
      rcases o20 with tt19 | ⟨_, y21⟩
      · dsimp only at H
        have hF_tt19 := hF_t.tr (Sm.mono (S' := fun b => b = 10 ∨ b = 11 ∨ b = 12 ∨ b = 13 ∨ b = 14 ∨ b = 15 ∨ b = 16 ∨ b = 179 ∨ (182 ≤ b ∧ b < 210)) hL (fun b hb => (by have hb : b = 10 ∨ b = 11 ∨ b = 12 ∨ b = 13 ∨ b = 14 ∨ b = 15 ∨ b = 16 ∨ b = 179 ∨ (182 ≤ b ∧ b < 210) := hb; show b = 10 ∨ b = 11 ∨ b = 12 ∨ b = 13 ∨ b = 14 ∨ b = 15 ∨ b = 16 ∨ b = 179 ∨ (182 ≤ b ∧ b < 210); omega)))
        have hI := ih _ _ _ _ _ (hD_t.sm hF_tt19 (show ¬ (0 = 10 ∨ 0 = 11 ∨ 0 = 12 ∨ 0 = 13 ∨ 0 = 14 ∨ 0 = 15 ∨ 0 = 16 ∨ 0 = 179 ∨ (182 ≤ 0 ∧ 0 < 210)) by omega)) H
        rcases o with _ | _
        · exact hF_tt19.tr hI
        · exact hF_tt19.tr hI
      · dsimp only at H
        obtain rfl := Option.some.inj H
        exact hF_t.tr (Sm.mono (S' := fun b => b = 10 ∨ b = 11 ∨ b = 12 ∨ b = 13 ∨ b = 14 ∨ b = 15 ∨ b = 16 ∨ b = 179 ∨ (182 ≤ b ∧ b < 210)) hL (fun b hb => (by have hb : b = 10 ∨ b = 11 ∨ b = 12 ∨ b = 13 ∨ b = 14 ∨ b = 15 ∨ b = 16 ∨ b = 179 ∨ (182 ≤ b ∧ b < 210) := hb; show b = 10 ∨ b = 11 ∨ b = 12 ∨ b = 13 ∨ b = 14 ∨ b = 15 ∨ b = 16 ∨ b = 179 ∨ (182 ≤ b ∧ b < 210); omega)))
set_option maxHeartbeats 4000000 in
theorem wX9_fewestBeds {a1 : Int32} {t : tS} {r : Int32} {t1 : tS} (hD_t : Dy t) (H : tX9_fewestBeds a1 t = some (r, t1)) : Sm (fun b => b = 10 ∨ b = 11 ∨ b = 12 ∨ b = 13 ∨ b = 14 ∨ b = 15 ∨ b = 16 ∨ b = 179 ∨ (182 ≤ b ∧ b < 210)) t t1 := by
  unfold tX9_fewestBeds at H
  have hF_t : Sm (fun b => b = 10 ∨ b = 11 ∨ b = 12 ∨ b = 13 ∨ b = 14 ∨ b = 15 ∨ b = 16 ∨ b = 179 ∨ (182 ≤ b ∧ b < 210)) t t := Sm.rf
  obtain ⟨lw1, E2, H⟩ := am_bd H
  clear E2
  obtain ⟨o25, E22, H⟩ := am_bd H
  have hL := wX9_fewestBeds_L27 _ _ _ _ _ _ (hD_t.sm hF_t (show ¬ (0 = 10 ∨ 0 = 11 ∨ 0 = 12 ∨ 0 = 13 ∨ 0 = 14 ∨ 0 = 15 ∨ 0 = 16 ∨ 0 = 179 ∨ (182 ≤ 0 ∧ 0 < 210)) by omega)) E22
  rcases o25 with tt24 | ⟨_, y26⟩
  · dsimp only at H
    have hF_tt24 := hF_t.tr (Sm.mono (S' := fun b => b = 10 ∨ b = 11 ∨ b = 12 ∨ b = 13 ∨ b = 14 ∨ b = 15 ∨ b = 16 ∨ b = 179 ∨ (182 ≤ b ∧ b < 210)) hL (fun b hb => (by have hb : b = 10 ∨ b = 11 ∨ b = 12 ∨ b = 13 ∨ b = 14 ∨ b = 15 ∨ b = 16 ∨ b = 179 ∨ (182 ≤ b ∧ b < 210) := hb; show b = 10 ∨ b = 11 ∨ b = 12 ∨ b = 13 ∨ b = 14 ∨ b = 15 ∨ b = 16 ∨ b = 179 ∨ (182 ≤ b ∧ b < 210); omega)))
    obtain ⟨rfl, rfl⟩ := am_inj2 H
    exact hF_tt24
  · dsimp only at H
    obtain ⟨rfl, rfl⟩ := am_inj2 H
    exact hF_t.tr (Sm.mono (S' := fun b => b = 10 ∨ b = 11 ∨ b = 12 ∨ b = 13 ∨ b = 14 ∨ b = 15 ∨ b = 16 ∨ b = 179 ∨ (182 ≤ b ∧ b < 210)) hL (fun b hb => (by have hb : b = 10 ∨ b = 11 ∨ b = 12 ∨ b = 13 ∨ b = 14 ∨ b = 15 ∨ b = 16 ∨ b = 179 ∨ (182 ≤ b ∧ b < 210) := hb; show b = 10 ∨ b = 11 ∨ b = 12 ∨ b = 13 ∨ b = 14 ∨ b = 15 ∨ b = 16 ∨ b = 179 ∨ (182 ≤ b ∧ b < 210); omega)))
set_option maxHeartbeats 4000000 in
theorem wX9_beds {a1 : Int32} {a2 : Int32} {t : tS} {r : Int32} {t1 : tS} (hD_t : Dy t) (H : tX9_beds a1 a2 t = some (r, t1)) : Sm (fun b => b = 10 ∨ b = 11 ∨ b = 12 ∨ b = 13 ∨ b = 14 ∨ b = 15 ∨ b = 16 ∨ b = 179 ∨ (182 ≤ b ∧ b < 210)) t t1 := by
  unfold tX9_beds at H
  have hF_t : Sm (fun b => b = 10 ∨ b = 11 ∨ b = 12 ∨ b = 13 ∨ b = 14 ∨ b = 15 ∨ b = 16 ∨ b = 179 ∨ (182 ≤ b ∧ b < 210)) t t := Sm.rf
  obtain ⟨x2, _, H⟩ := am_bd H
  split at H
  · obtain ⟨rfl, rfl⟩ := am_inj2 H
    exact hF_t
  · split at H
    · obtain ⟨x4, tt5, e3, H⟩ := am_bd2 H
      have hF_tt5 := hF_t.tr ((wX9_fewestBeds (hD_t.sm hF_t (show ¬ (0 = 10 ∨ 0 = 11 ∨ 0 = 12 ∨ 0 = 13 ∨ 0 = 14 ∨ 0 = 15 ∨ 0 = 16 ∨ 0 = 179 ∨ (182 ≤ 0 ∧ 0 < 210)) by omega)) e3).mono (S' := fun b => b = 10 ∨ b = 11 ∨ b = 12 ∨ b = 13 ∨ b = 14 ∨ b = 15 ∨ b = 16 ∨ b = 179 ∨ (182 ≤ b ∧ b < 210)) (fun b hb => (by have hb : b = 10 ∨ b = 11 ∨ b = 12 ∨ b = 13 ∨ b = 14 ∨ b = 15 ∨ b = 16 ∨ b = 179 ∨ (182 ≤ b ∧ b < 210) := hb; show b = 10 ∨ b = 11 ∨ b = 12 ∨ b = 13 ∨ b = 14 ∨ b = 15 ∨ b = 16 ∨ b = 179 ∨ (182 ≤ b ∧ b < 210); omega)))
      split at H
      · obtain ⟨js7, E8, H⟩ := am_bd H
        clear E8
        obtain ⟨rfl, rfl⟩ := am_inj2 H
        exact hF_tt5
      · obtain ⟨rfl, rfl⟩ := am_inj2 H
        exact hF_tt5
    · obtain ⟨x10, _, H⟩ := am_bd H
      split at H
      · obtain ⟨x12, tt13, e11, H⟩ := am_bd2 H
        have hF_tt13 := hF_t.tr ((wX9_fewestBeds (hD_t.sm hF_t (show ¬ (0 = 10 ∨ 0 = 11 ∨ 0 = 12 ∨ 0 = 13 ∨ 0 = 14 ∨ 0 = 15 ∨ 0 = 16 ∨ 0 = 179 ∨ (182 ≤ 0 ∧ 0 < 210)) by omega)) e11).mono (S' := fun b => b = 10 ∨ b = 11 ∨ b = 12 ∨ b = 13 ∨ b = 14 ∨ b = 15 ∨ b = 16 ∨ b = 179 ∨ (182 ≤ b ∧ b < 210)) (fun b hb => (by have hb : b = 10 ∨ b = 11 ∨ b = 12 ∨ b = 13 ∨ b = 14 ∨ b = 15 ∨ b = 16 ∨ b = 179 ∨ (182 ≤ b ∧ b < 210) := hb; show b = 10 ∨ b = 11 ∨ b = 12 ∨ b = 13 ∨ b = 14 ∨ b = 15 ∨ b = 16 ∨ b = 179 ∨ (182 ≤ b ∧ b < 210); omega)))
        split at H
        · obtain ⟨js15, E16, H⟩ := am_bd H
          clear E16
          obtain ⟨rfl, rfl⟩ := am_inj2 H
          exact hF_tt13
        · obtain ⟨rfl, rfl⟩ := am_inj2 H
          exact hF_tt13
      · obtain ⟨rfl, rfl⟩ := am_inj2 H
        exact hF_t
set_option maxHeartbeats 4000000 in
theorem wX9_apart_L19 : ∀ (n : Nat) (v1 : Int32) (v2 : Int32) (t : tS) (t1 : tS), Dy t → tX9_apart_L19 n v1 v2 t = some t1 → Sm (fun b => b = 181) t t1 := by
  intro n
  induction n with
  | zero => intro _ _ _ _ _ H; cases H
  | succ n ih =>
    intro v1 v2 t t1 hD_t H
    rw [tX9_apart_L19] at H
    have hF_t : Sm (fun b => b = 181) t t := Sm.rf
    split at H
    · obtain rfl := Option.some.inj H
      exact hF_t
    · obtain ⟨x9, _, H⟩ := am_bd H
      obtain ⟨tt11, e12, H⟩ := am_bd H
      have hF_tt11 := hF_t.tr (sm_WA (S := fun b => b = 181) e12 (show 181 = 181 by omega))
      exact hF_tt11.tr (ih _ _ _ _ (hD_t.sm hF_tt11 (show ¬ (0 = 181) by omega)) H)
set_option maxHeartbeats 4000000 in
theorem wX9_apart  {t : tS} {r : Int32} {t1 : tS} (hD_t : Dy t) (H : tX9_apart  t = some (r, t1)) : Sm (fun b => b = 181) t t1 := by
  unfold tX9_apart at H
  have hF_t : Sm (fun b => b = 181) t t := Sm.rf
  have hd_told1 := dy_9 (hD_t.sm hF_t (show ¬ (0 = 181) by omega))
  obtain ⟨tt5, e6, H⟩ := am_bd H
  have hF_tt5 := hF_t.tr (sm_WA (S := fun b => b = 181) e6 (show 181 = 181 by omega))
  obtain ⟨tt15, E13, H⟩ := am_bd H
  have hF_tt15 := hF_tt5.tr (Sm.mono (S' := fun b => b = 181) (wX9_apart_L19 _ _ _ _ _ (hD_t.sm hF_tt5 (show ¬ (0 = 181) by omega)) E13) (fun b hb => (by have hb : b = 181 := hb; show b = 181; omega)))
  clear E13
  obtain ⟨x17, _, H⟩ := am_bd H
  obtain ⟨rfl, rfl⟩ := am_inj2 H
  exact hF_tt15
set_option maxHeartbeats 4000000 in
theorem wX9_mostAtOnce_L4 : ∀ (n : Nat) (v1 : Int32) (v2 : Int32) (v3 : Int32) (t : tS) (w2 : Int32) (t1 : tS), Dy t → tX9_mostAtOnce_L4 n v1 v2 v3 t = some (w2, t1) → Sm (fun b => b = 10 ∨ b = 13 ∨ b = 14 ∨ b = 15 ∨ b = 16 ∨ (182 ≤ b ∧ b < 210)) t t1 := by
  intro n
  induction n with
  | zero => intro _ _ _ _ _ _ _ H; cases H
  | succ n ih =>
    intro v1 v2 v3 t w2 t1 hD_t H
    rw [tX9_mostAtOnce_L4] at H
    have hF_t : Sm (fun b => b = 10 ∨ b = 13 ∨ b = 14 ∨ b = 15 ∨ b = 16 ∨ (182 ≤ b ∧ b < 210)) t t := Sm.rf
    split at H
    · obtain ⟨rfl, rfl⟩ := am_inj2 H
      exact hF_t
    · have hd_told2 := dy_9 (hD_t.sm hF_t (show ¬ (0 = 10 ∨ 0 = 13 ∨ 0 = 14 ∨ 0 = 15 ∨ 0 = 16 ∨ (182 ≤ 0 ∧ 0 < 210)) by omega))
      obtain ⟨tt4, e3, H⟩ := am_bd H
      have hF_tt4 := hF_t.tr ((wX6_passDate e3).mono (S' := fun b => b = 10 ∨ b = 13 ∨ b = 14 ∨ b = 15 ∨ b = 16 ∨ (182 ≤ b ∧ b < 210)) (fun b hb => (by have hb : b = 10 ∨ b = 10 + 3 ∨ b = 10 + 4 ∨ b = 10 + 5 ∨ b = 10 + 6 ∨ b = (t.2.2.2.2 0 9) + 13 := hb; show b = 10 ∨ b = 13 ∨ b = 14 ∨ b = 15 ∨ b = 16 ∨ (182 ≤ b ∧ b < 210); omega)))
      have hd_told7 := dy_9 (hD_t.sm hF_tt4 (show ¬ (0 = 10 ∨ 0 = 13 ∨ 0 = 14 ∨ 0 = 15 ∨ 0 = 16 ∨ (182 ≤ 0 ∧ 0 < 210)) by omega))
      obtain ⟨x9, _, H⟩ := am_bd H
      obtain ⟨x11, _, H⟩ := am_bd H
      obtain ⟨x13, _, H⟩ := am_bd H
      exact hF_tt4.tr (ih _ _ _ _ _ _ (hD_t.sm hF_tt4 (show ¬ (0 = 10 ∨ 0 = 13 ∨ 0 = 14 ∨ 0 = 15 ∨ 0 = 16 ∨ (182 ≤ 0 ∧ 0 < 210)) by omega)) H)
set_option maxHeartbeats 4000000 in
theorem wX9_mostAtOnce {a1 : Int32} {t : tS} {r : Int32} {t1 : tS} (hD_t : Dy t) (H : tX9_mostAtOnce a1 t = some (r, t1)) : Sm (fun b => b = 10 ∨ b = 13 ∨ b = 14 ∨ b = 15 ∨ b = 16 ∨ (182 ≤ b ∧ b < 210)) t t1 := by
  unfold tX9_mostAtOnce at H
  have hF_t : Sm (fun b => b = 10 ∨ b = 13 ∨ b = 14 ∨ b = 15 ∨ b = 16 ∨ (182 ≤ b ∧ b < 210)) t t := Sm.rf
  obtain ⟨lw14, tt17, E15, H⟩ := am_bd2 H
  have hF_tt17 := hF_t.tr (Sm.mono (S' := fun b => b = 10 ∨ b = 13 ∨ b = 14 ∨ b = 15 ∨ b = 16 ∨ (182 ≤ b ∧ b < 210)) (wX9_mostAtOnce_L4 _ _ _ _ _ _ _ (hD_t.sm hF_t (show ¬ (0 = 10 ∨ 0 = 13 ∨ 0 = 14 ∨ 0 = 15 ∨ 0 = 16 ∨ (182 ≤ 0 ∧ 0 < 210)) by omega)) E15) (fun b hb => (by have hb : b = 10 ∨ b = 13 ∨ b = 14 ∨ b = 15 ∨ b = 16 ∨ (182 ≤ b ∧ b < 210) := hb; show b = 10 ∨ b = 13 ∨ b = 14 ∨ b = 15 ∨ b = 16 ∨ (182 ≤ b ∧ b < 210); omega)))
  clear E15
  obtain ⟨rfl, rfl⟩ := am_inj2 H
  exact hF_tt17
set_option maxHeartbeats 4000000 in
theorem wX9_defer_L18 : ∀ (n : Nat) (v1 : Int32) (v2 : Int32) (v3 : Int32) (v4 : Int32) (t : tS) (w2 : Int32) (t1 : tS), Dy t → tX9_defer_L18 n v1 v2 v3 v4 t = some (w2, t1) → Sm (fun b => b = 10 ∨ b = 11 ∨ b = 12 ∨ b = 13 ∨ b = 14 ∨ b = 15 ∨ b = 16 ∨ (182 ≤ b ∧ b < 210)) t t1 := by
  intro n
  induction n with
  | zero => intro _ _ _ _ _ _ _ _ H; cases H
  | succ n ih =>
    intro v1 v2 v3 v4 t w2 t1 hD_t H
    rw [tX9_defer_L18] at H
    have hF_t : Sm (fun b => b = 10 ∨ b = 11 ∨ b = 12 ∨ b = 13 ∨ b = 14 ∨ b = 15 ∨ b = 16 ∨ (182 ≤ b ∧ b < 210)) t t := Sm.rf
    split at H
    · obtain ⟨rfl, rfl⟩ := am_inj2 H
      exact hF_t
    · obtain ⟨tt6, e5, H⟩ := am_bd H
      have hF_tt6 := hF_t.tr ((wX6_copyFrom e5).mono (S' := fun b => b = 10 ∨ b = 11 ∨ b = 12 ∨ b = 13 ∨ b = 14 ∨ b = 15 ∨ b = 16 ∨ (182 ≤ b ∧ b < 210)) (fun b hb => (by have hb : b = 10 ∨ b = 10 + 1 ∨ b = 10 + 2 ∨ b = 10 + 3 ∨ b = 10 + 4 ∨ b = 10 + 5 ∨ b = 10 + 6 := hb; show b = 10 ∨ b = 11 ∨ b = 12 ∨ b = 13 ∨ b = 14 ∨ b = 15 ∨ b = 16 ∨ (182 ≤ b ∧ b < 210); omega)))
      obtain ⟨tt11, e12, H⟩ := am_bd H
      have hF_tt11 := hF_tt6.tr (sm_WA (S := fun b => b = 10 ∨ b = 11 ∨ b = 12 ∨ b = 13 ∨ b = 14 ∨ b = 15 ∨ b = 16 ∨ (182 ≤ b ∧ b < 210)) e12 (show 12 = 10 ∨ 12 = 11 ∨ 12 = 12 ∨ 12 = 13 ∨ 12 = 14 ∨ 12 = 15 ∨ 12 = 16 ∨ (182 ≤ 12 ∧ 12 < 210) by omega))
      obtain ⟨x14, tt15, e13, H⟩ := am_bd2 H
      have hF_tt15 := hF_tt11.tr ((wX9_mostAtOnce (hD_t.sm hF_tt11 (show ¬ (0 = 10 ∨ 0 = 11 ∨ 0 = 12 ∨ 0 = 13 ∨ 0 = 14 ∨ 0 = 15 ∨ 0 = 16 ∨ (182 ≤ 0 ∧ 0 < 210)) by omega)) e13).mono (S' := fun b => b = 10 ∨ b = 11 ∨ b = 12 ∨ b = 13 ∨ b = 14 ∨ b = 15 ∨ b = 16 ∨ (182 ≤ b ∧ b < 210)) (fun b hb => (by have hb : b = 10 ∨ b = 13 ∨ b = 14 ∨ b = 15 ∨ b = 16 ∨ (182 ≤ b ∧ b < 210) := hb; show b = 10 ∨ b = 11 ∨ b = 12 ∨ b = 13 ∨ b = 14 ∨ b = 15 ∨ b = 16 ∨ (182 ≤ b ∧ b < 210); omega)))
      obtain ⟨jv17, jv18, E19, H⟩ := am_bd2 H
      clear E19
      exact hF_tt15.tr (ih _ _ _ _ _ _ _ (hD_t.sm hF_tt15 (show ¬ (0 = 10 ∨ 0 = 11 ∨ 0 = 12 ∨ 0 = 13 ∨ 0 = 14 ∨ 0 = 15 ∨ 0 = 16 ∨ (182 ≤ 0 ∧ 0 < 210)) by omega)) H)
set_option maxHeartbeats 4000000 in
theorem wX9_defer {a1 : Int32} {t : tS} {r : Int32} {t1 : tS} (hD_t : Dy t) (H : tX9_defer a1 t = some (r, t1)) : Sm (fun b => b = 10 ∨ b = 11 ∨ b = 12 ∨ b = 13 ∨ b = 14 ∨ b = 15 ∨ b = 16 ∨ (182 ≤ b ∧ b < 210)) t t1 := by
  unfold tX9_defer at H
  have hF_t : Sm (fun b => b = 10 ∨ b = 11 ∨ b = 12 ∨ b = 13 ∨ b = 14 ∨ b = 15 ∨ b = 16 ∨ (182 ≤ b ∧ b < 210)) t t := Sm.rf
  obtain ⟨x2, _, H⟩ := am_bd H
  split at H
  · obtain ⟨lw20, tt23, E21, H⟩ := am_bd2 H
    have hF_tt23 := hF_t.tr (Sm.mono (S' := fun b => b = 10 ∨ b = 11 ∨ b = 12 ∨ b = 13 ∨ b = 14 ∨ b = 15 ∨ b = 16 ∨ (182 ≤ b ∧ b < 210)) (wX9_defer_L18 _ _ _ _ _ _ _ _ (hD_t.sm hF_t (show ¬ (0 = 10 ∨ 0 = 11 ∨ 0 = 12 ∨ 0 = 13 ∨ 0 = 14 ∨ 0 = 15 ∨ 0 = 16 ∨ (182 ≤ 0 ∧ 0 < 210)) by omega)) E21) (fun b hb => (by have hb : b = 10 ∨ b = 11 ∨ b = 12 ∨ b = 13 ∨ b = 14 ∨ b = 15 ∨ b = 16 ∨ (182 ≤ b ∧ b < 210) := hb; show b = 10 ∨ b = 11 ∨ b = 12 ∨ b = 13 ∨ b = 14 ∨ b = 15 ∨ b = 16 ∨ (182 ≤ b ∧ b < 210); omega)))
    clear E21
    obtain ⟨rfl, rfl⟩ := am_inj2 H
    exact hF_tt23
  · obtain ⟨rfl, rfl⟩ := am_inj2 H
    exact hF_t
set_option maxHeartbeats 4000000 in
theorem wX9_see {a1 : Int32} {a2 : Int32} {t : tS} {r : Int32} {t1 : tS} (hD_t : Dy t) (H : tX9_see a1 a2 t = some (r, t1)) : Sm (fun b => b = 176 ∨ b = 177 ∨ b = 178) t t1 := by
  unfold tX9_see at H
  have hF_t : Sm (fun b => b = 176 ∨ b = 177 ∨ b = 178) t t := Sm.rf
  split at H
  · obtain ⟨x2, _, H⟩ := am_bd H
    split at H
    · obtain ⟨x5, tt6, e4, H⟩ := am_bd2 H
      have hF_tt6 := hF_t.tr ((wX5_add e4).mono (S' := fun b => b = 176 ∨ b = 177 ∨ b = 178) (fun b hb => (by have hb : b = 176 ∨ b = 176 + 1 ∨ b = 176 + 2 := hb; show b = 176 ∨ b = 177 ∨ b = 178; omega)))
      obtain ⟨_, _, H⟩ := am_bd H
      obtain ⟨rfl, rfl⟩ := am_inj2 H
      exact hF_tt6
    · obtain ⟨rfl, rfl⟩ := am_inj2 H
      exact hF_t
  · obtain ⟨x9, _, H⟩ := am_bd H
    split at H
    · obtain ⟨rfl, rfl⟩ := am_inj2 H
      exact hF_t
    · obtain ⟨x11, _, H⟩ := am_bd H
      split at H
      · obtain ⟨x14, tt15, e13, H⟩ := am_bd2 H
        have hF_tt15 := hF_t.tr ((wX5_add e13).mono (S' := fun b => b = 176 ∨ b = 177 ∨ b = 178) (fun b hb => (by have hb : b = 176 ∨ b = 176 + 1 ∨ b = 176 + 2 := hb; show b = 176 ∨ b = 177 ∨ b = 178; omega)))
        obtain ⟨_, _, H⟩ := am_bd H
        obtain ⟨rfl, rfl⟩ := am_inj2 H
        exact hF_tt15
      · obtain ⟨rfl, rfl⟩ := am_inj2 H
        exact hF_t
set_option maxHeartbeats 4000000 in
theorem wX9_who_L25 : ∀ (n : Nat) (v1 : Int32) (v2 : Int32) (t : tS) (w1 : Int32) (t1 : tS), Dy t → tX9_who_L25 n v1 v2 t = some (w1, t1) → Sm (fun b => b = 10 ∨ b = 13 ∨ b = 14 ∨ b = 15 ∨ b = 16 ∨ (182 ≤ b ∧ b < 210)) t t1 := by
  intro n
  induction n with
  | zero => intro _ _ _ _ _ _ H; cases H
  | succ n ih =>
    intro v1 v2 t w1 t1 hD_t H
    rw [tX9_who_L25] at H
    have hF_t : Sm (fun b => b = 10 ∨ b = 13 ∨ b = 14 ∨ b = 15 ∨ b = 16 ∨ (182 ≤ b ∧ b < 210)) t t := Sm.rf
    split at H
    · obtain ⟨rfl, rfl⟩ := am_inj2 H
      exact hF_t
    · obtain ⟨lw8, E9, H⟩ := am_bd H
      clear E9
      have hd_told11 := dy_9 (hD_t.sm hF_t (show ¬ (0 = 10 ∨ 0 = 13 ∨ 0 = 14 ∨ 0 = 15 ∨ 0 = 16 ∨ (182 ≤ 0 ∧ 0 < 210)) by omega))
      obtain ⟨tt13, e12, H⟩ := am_bd H
      have hF_tt13 := hF_t.tr ((wX6_passDate e12).mono (S' := fun b => b = 10 ∨ b = 13 ∨ b = 14 ∨ b = 15 ∨ b = 16 ∨ (182 ≤ b ∧ b < 210)) (fun b hb => (by have hb : b = 10 ∨ b = 10 + 3 ∨ b = 10 + 4 ∨ b = 10 + 5 ∨ b = 10 + 6 ∨ b = (t.2.2.2.2 0 9) + 13 := hb; show b = 10 ∨ b = 13 ∨ b = 14 ∨ b = 15 ∨ b = 16 ∨ (182 ≤ b ∧ b < 210); omega)))
      exact hF_tt13.tr (ih _ _ _ _ _ (hD_t.sm hF_tt13 (show ¬ (0 = 10 ∨ 0 = 13 ∨ 0 = 14 ∨ 0 = 15 ∨ 0 = 16 ∨ (182 ≤ 0 ∧ 0 < 210)) by omega)) H)
set_option maxHeartbeats 4000000 in
theorem wX9_who  {t : tS} {r : Int32} {t1 : tS} (hD_t : Dy t) (H : tX9_who  t = some (r, t1)) : Sm (fun b => b = 10 ∨ b = 11 ∨ b = 12 ∨ b = 13 ∨ b = 14 ∨ b = 15 ∨ b = 16 ∨ (182 ≤ b ∧ b < 210)) t t1 := by
  unfold tX9_who at H
  have hF_t : Sm (fun b => b = 10 ∨ b = 11 ∨ b = 12 ∨ b = 13 ∨ b = 14 ∨ b = 15 ∨ b = 16 ∨ (182 ≤ b ∧ b < 210)) t t := Sm.rf
  have hd_told1 := dy_9 (hD_t.sm hF_t (show ¬ (0 = 10 ∨ 0 = 11 ∨ 0 = 12 ∨ 0 = 13 ∨ 0 = 14 ∨ 0 = 15 ∨ 0 = 16 ∨ (182 ≤ 0 ∧ 0 < 210)) by omega))
  obtain ⟨tt6, e5, H⟩ := am_bd H
  have hF_tt6 := hF_t.tr ((wX6_copyFrom e5).mono (S' := fun b => b = 10 ∨ b = 11 ∨ b = 12 ∨ b = 13 ∨ b = 14 ∨ b = 15 ∨ b = 16 ∨ (182 ≤ b ∧ b < 210)) (fun b hb => (by have hb : b = 10 ∨ b = 10 + 1 ∨ b = 10 + 2 ∨ b = 10 + 3 ∨ b = 10 + 4 ∨ b = 10 + 5 ∨ b = 10 + 6 := hb; show b = 10 ∨ b = 11 ∨ b = 12 ∨ b = 13 ∨ b = 14 ∨ b = 15 ∨ b = 16 ∨ (182 ≤ b ∧ b < 210); omega)))
  obtain ⟨lw15, tt18, E16, H⟩ := am_bd2 H
  have hF_tt18 := hF_tt6.tr (Sm.mono (S' := fun b => b = 10 ∨ b = 11 ∨ b = 12 ∨ b = 13 ∨ b = 14 ∨ b = 15 ∨ b = 16 ∨ (182 ≤ b ∧ b < 210)) (wX9_who_L25 _ _ _ _ _ _ (hD_t.sm hF_tt6 (show ¬ (0 = 10 ∨ 0 = 11 ∨ 0 = 12 ∨ 0 = 13 ∨ 0 = 14 ∨ 0 = 15 ∨ 0 = 16 ∨ (182 ≤ 0 ∧ 0 < 210)) by omega)) E16) (fun b hb => (by have hb : b = 10 ∨ b = 13 ∨ b = 14 ∨ b = 15 ∨ b = 16 ∨ (182 ≤ b ∧ b < 210) := hb; show b = 10 ∨ b = 11 ∨ b = 12 ∨ b = 13 ∨ b = 14 ∨ b = 15 ∨ b = 16 ∨ (182 ≤ b ∧ b < 210); omega)))
  clear E16
  obtain ⟨rfl, rfl⟩ := am_inj2 H
  exact hF_tt18
set_option maxHeartbeats 4000000 in
theorem wX9_look_L26 : ∀ (n : Nat) (v1 : Int32) (v2 : Int32) (v3 : Int32) (v4 : Int32) (t : tS) (w2 : Int32) (t1 : tS), Dy t → tX9_look_L26 n v1 v2 v3 v4 t = some (w2, t1) → Sm (fun b => b = 10 ∨ b = 13 ∨ b = 14 ∨ b = 15 ∨ b = 16 ∨ (182 ≤ b ∧ b < 210)) t t1 := by
  intro n
  induction n with
  | zero => intro _ _ _ _ _ _ _ _ H; cases H
  | succ n ih =>
    intro v1 v2 v3 v4 t w2 t1 hD_t H
    rw [tX9_look_L26] at H
    have hF_t : Sm (fun b => b = 10 ∨ b = 13 ∨ b = 14 ∨ b = 15 ∨ b = 16 ∨ (182 ≤ b ∧ b < 210)) t t := Sm.rf
    split at H
    · obtain ⟨rfl, rfl⟩ := am_inj2 H
      exact hF_t
    · obtain ⟨x13, _, H⟩ := am_bd H
      obtain ⟨jv14, jv15, E16, H⟩ := am_bd2 H
      clear E16
      have hd_told18 := dy_9 (hD_t.sm hF_t (show ¬ (0 = 10 ∨ 0 = 13 ∨ 0 = 14 ∨ 0 = 15 ∨ 0 = 16 ∨ (182 ≤ 0 ∧ 0 < 210)) by omega))
      obtain ⟨tt20, e19, H⟩ := am_bd H
      have hF_tt20 := hF_t.tr ((wX6_passDate e19).mono (S' := fun b => b = 10 ∨ b = 13 ∨ b = 14 ∨ b = 15 ∨ b = 16 ∨ (182 ≤ b ∧ b < 210)) (fun b hb => (by have hb : b = 10 ∨ b = 10 + 3 ∨ b = 10 + 4 ∨ b = 10 + 5 ∨ b = 10 + 6 ∨ b = (t.2.2.2.2 0 9) + 13 := hb; show b = 10 ∨ b = 13 ∨ b = 14 ∨ b = 15 ∨ b = 16 ∨ (182 ≤ b ∧ b < 210); omega)))
      exact hF_tt20.tr (ih _ _ _ _ _ _ _ (hD_t.sm hF_tt20 (show ¬ (0 = 10 ∨ 0 = 13 ∨ 0 = 14 ∨ 0 = 15 ∨ 0 = 16 ∨ (182 ≤ 0 ∧ 0 < 210)) by omega)) H)
set_option maxHeartbeats 4000000 in
theorem wX9_look  {t : tS} {r : Int32} {t1 : tS} (hD_t : Dy t) (H : tX9_look  t = some (r, t1)) : Sm (fun b => b = 10 ∨ b = 11 ∨ b = 12 ∨ b = 13 ∨ b = 14 ∨ b = 15 ∨ b = 16 ∨ (182 ≤ b ∧ b < 210)) t t1 := by
  unfold tX9_look at H
  have hF_t : Sm (fun b => b = 10 ∨ b = 11 ∨ b = 12 ∨ b = 13 ∨ b = 14 ∨ b = 15 ∨ b = 16 ∨ (182 ≤ b ∧ b < 210)) t t := Sm.rf
  obtain ⟨x2, tt3, e1, H⟩ := am_bd2 H
  have hF_tt3 := hF_t.tr ((wX9_who (hD_t.sm hF_t (show ¬ (0 = 10 ∨ 0 = 11 ∨ 0 = 12 ∨ 0 = 13 ∨ 0 = 14 ∨ 0 = 15 ∨ 0 = 16 ∨ (182 ≤ 0 ∧ 0 < 210)) by omega)) e1).mono (S' := fun b => b = 10 ∨ b = 11 ∨ b = 12 ∨ b = 13 ∨ b = 14 ∨ b = 15 ∨ b = 16 ∨ (182 ≤ b ∧ b < 210)) (fun b hb => (by have hb : b = 10 ∨ b = 11 ∨ b = 12 ∨ b = 13 ∨ b = 14 ∨ b = 15 ∨ b = 16 ∨ (182 ≤ b ∧ b < 210) := hb; show b = 10 ∨ b = 11 ∨ b = 12 ∨ b = 13 ∨ b = 14 ∨ b = 15 ∨ b = 16 ∨ (182 ≤ b ∧ b < 210); omega)))
  obtain ⟨x6, _, H⟩ := am_bd H
  obtain ⟨tt10, e9, H⟩ := am_bd H
  have hF_tt10 := hF_tt3.tr ((wX6_copyFrom e9).mono (S' := fun b => b = 10 ∨ b = 11 ∨ b = 12 ∨ b = 13 ∨ b = 14 ∨ b = 15 ∨ b = 16 ∨ (182 ≤ b ∧ b < 210)) (fun b hb => (by have hb : b = 10 ∨ b = 10 + 1 ∨ b = 10 + 2 ∨ b = 10 + 3 ∨ b = 10 + 4 ∨ b = 10 + 5 ∨ b = 10 + 6 := hb; show b = 10 ∨ b = 11 ∨ b = 12 ∨ b = 13 ∨ b = 14 ∨ b = 15 ∨ b = 16 ∨ (182 ≤ b ∧ b < 210); omega)))
  obtain ⟨lw22, tt25, E23, H⟩ := am_bd2 H
  have hF_tt25 := hF_tt10.tr (Sm.mono (S' := fun b => b = 10 ∨ b = 11 ∨ b = 12 ∨ b = 13 ∨ b = 14 ∨ b = 15 ∨ b = 16 ∨ (182 ≤ b ∧ b < 210)) (wX9_look_L26 _ _ _ _ _ _ _ _ (hD_t.sm hF_tt10 (show ¬ (0 = 10 ∨ 0 = 11 ∨ 0 = 12 ∨ 0 = 13 ∨ 0 = 14 ∨ 0 = 15 ∨ 0 = 16 ∨ (182 ≤ 0 ∧ 0 < 210)) by omega)) E23) (fun b hb => (by have hb : b = 10 ∨ b = 13 ∨ b = 14 ∨ b = 15 ∨ b = 16 ∨ (182 ≤ b ∧ b < 210) := hb; show b = 10 ∨ b = 11 ∨ b = 12 ∨ b = 13 ∨ b = 14 ∨ b = 15 ∨ b = 16 ∨ (182 ≤ b ∧ b < 210); omega)))
  clear E23
  obtain ⟨rfl, rfl⟩ := am_inj2 H
  exact hF_tt25
set_option maxHeartbeats 4000000 in
theorem wX9_spare_L4 : ∀ (n : Nat) (v1 : Int32) (v2 : Int32) (t : tS) (w1 : Int32) (t1 : tS), Dy t → tX9_spare_L4 n v1 v2 t = some (w1, t1) → Sm (fun b => b = 10 ∨ b = 11 ∨ b = 12 ∨ b = 13 ∨ b = 14 ∨ b = 15 ∨ b = 16 ∨ (182 ≤ b ∧ b < 210)) t t1 := by
  intro n
  induction n with
  | zero => intro _ _ _ _ _ _ H; cases H
  | succ n ih =>
    intro v1 v2 t w1 t1 hD_t H
    rw [tX9_spare_L4] at H
    have hF_t : Sm (fun b => b = 10 ∨ b = 11 ∨ b = 12 ∨ b = 13 ∨ b = 14 ∨ b = 15 ∨ b = 16 ∨ (182 ≤ b ∧ b < 210)) t t := Sm.rf
    have hd_told1 := dy_9 (hD_t.sm hF_t (show ¬ (0 = 10 ∨ 0 = 11 ∨ 0 = 12 ∨ 0 = 13 ∨ 0 = 14 ∨ 0 = 15 ∨ 0 = 16 ∨ (182 ≤ 0 ∧ 0 < 210)) by omega))
    split at H
    · obtain ⟨rfl, rfl⟩ := am_inj2 H
      exact hF_t
    · obtain ⟨x5, _, H⟩ := am_bd H
      obtain ⟨jv6, tt8, E9, H⟩ := am_bd2 H
      have hF_tt8 : Sm (fun b => b = 10 ∨ b = 11 ∨ b = 12 ∨ b = 13 ∨ b = 14 ∨ b = 15 ∨ b = 16 ∨ (182 ≤ b ∧ b < 210)) t tt8 := by
        clear H
        have H := E9
        clear E9
        split at H
        · obtain ⟨rfl, rfl⟩ := am_inj2 H
          exact hF_t
        · obtain ⟨tt13, e12, H⟩ := am_bd H
          have hF_tt13 := hF_t.tr ((wX6_copyFrom e12).mono (S' := fun b => b = 10 ∨ b = 11 ∨ b = 12 ∨ b = 13 ∨ b = 14 ∨ b = 15 ∨ b = 16 ∨ (182 ≤ b ∧ b < 210)) (fun b hb => (by have hb : b = 10 ∨ b = 10 + 1 ∨ b = 10 + 2 ∨ b = 10 + 3 ∨ b = 10 + 4 ∨ b = 10 + 5 ∨ b = 10 + 6 := hb; show b = 10 ∨ b = 11 ∨ b = 12 ∨ b = 13 ∨ b = 14 ∨ b = 15 ∨ b = 16 ∨ (182 ≤ b ∧ b < 210); omega)))
          obtain ⟨x17, _, H⟩ := am_bd H
          obtain ⟨tt19, e20, H⟩ := am_bd H
          have hF_tt19 := hF_tt13.tr (sm_WA (S := fun b => b = 10 ∨ b = 11 ∨ b = 12 ∨ b = 13 ∨ b = 14 ∨ b = 15 ∨ b = 16 ∨ (182 ≤ b ∧ b < 210)) e20 (show 11 = 10 ∨ 11 = 11 ∨ 11 = 12 ∨ 11 = 13 ∨ 11 = 14 ∨ 11 = 15 ∨ 11 = 16 ∨ (182 ≤ 11 ∧ 11 < 210) by omega))
          obtain ⟨x22, tt23, e21, H⟩ := am_bd2 H
          have hF_tt23 := hF_tt19.tr ((wX9_noneTurnedOff (hD_t.sm hF_tt19 (show ¬ (0 = 10 ∨ 0 = 11 ∨ 0 = 12 ∨ 0 = 13 ∨ 0 = 14 ∨ 0 = 15 ∨ 0 = 16 ∨ (182 ≤ 0 ∧ 0 < 210)) by omega)) e21).mono (S' := fun b => b = 10 ∨ b = 11 ∨ b = 12 ∨ b = 13 ∨ b = 14 ∨ b = 15 ∨ b = 16 ∨ (182 ≤ b ∧ b < 210)) (fun b hb => (by have hb : b = 10 ∨ b = 13 ∨ b = 14 ∨ b = 15 ∨ b = 16 ∨ (182 ≤ b ∧ b < 210) := hb; show b = 10 ∨ b = 11 ∨ b = 12 ∨ b = 13 ∨ b = 14 ∨ b = 15 ∨ b = 16 ∨ (182 ≤ b ∧ b < 210); omega)))
          split at H
          · obtain ⟨rfl, rfl⟩ := am_inj2 H
            exact hF_tt23
          · obtain ⟨rfl, rfl⟩ := am_inj2 H
            exact hF_tt23
      clear E9
      exact hF_tt8.tr (ih _ _ _ _ _ (hD_t.sm hF_tt8 (show ¬ (0 = 10 ∨ 0 = 11 ∨ 0 = 12 ∨ 0 = 13 ∨ 0 = 14 ∨ 0 = 15 ∨ 0 = 16 ∨ (182 ≤ 0 ∧ 0 < 210)) by omega)) H)
set_option maxHeartbeats 4000000 in
theorem wX9_spare  {t : tS} {r : Int32} {t1 : tS} (hD_t : Dy t) (H : tX9_spare  t = some (r, t1)) : Sm (fun b => b = 10 ∨ b = 11 ∨ b = 12 ∨ b = 13 ∨ b = 14 ∨ b = 15 ∨ b = 16 ∨ (182 ≤ b ∧ b < 210)) t t1 := by
  unfold tX9_spare at H
  have hF_t : Sm (fun b => b = 10 ∨ b = 11 ∨ b = 12 ∨ b = 13 ∨ b = 14 ∨ b = 15 ∨ b = 16 ∨ (182 ≤ b ∧ b < 210)) t t := Sm.rf
  obtain ⟨lw25, tt28, E26, H⟩ := am_bd2 H
  have hF_tt28 := hF_t.tr (Sm.mono (S' := fun b => b = 10 ∨ b = 11 ∨ b = 12 ∨ b = 13 ∨ b = 14 ∨ b = 15 ∨ b = 16 ∨ (182 ≤ b ∧ b < 210)) (wX9_spare_L4 _ _ _ _ _ _ (hD_t.sm hF_t (show ¬ (0 = 10 ∨ 0 = 11 ∨ 0 = 12 ∨ 0 = 13 ∨ 0 = 14 ∨ 0 = 15 ∨ 0 = 16 ∨ (182 ≤ 0 ∧ 0 < 210)) by omega)) E26) (fun b hb => (by have hb : b = 10 ∨ b = 11 ∨ b = 12 ∨ b = 13 ∨ b = 14 ∨ b = 15 ∨ b = 16 ∨ (182 ≤ b ∧ b < 210) := hb; show b = 10 ∨ b = 11 ∨ b = 12 ∨ b = 13 ∨ b = 14 ∨ b = 15 ∨ b = 16 ∨ (182 ≤ b ∧ b < 210); omega)))
  clear E26
  obtain ⟨rfl, rfl⟩ := am_inj2 H
  exact hF_tt28
set_option maxHeartbeats 4000000 in
theorem wX9_isTurnedOffBy_L14 : ∀ (n : Nat) (v1 : Int32) (v2 : Int32) (v3 : Int32) (v4 : Int32) (t : tS) (o : (tS) ⊕ (Int32 × tS)), Dy t → tX9_isTurnedOffBy_L14 n v1 v2 v3 v4 t = some o → (match o with
    | .inl t1 => Sm (fun b => b = 10 ∨ b = 13 ∨ b = 14 ∨ b = 15 ∨ b = 16 ∨ (182 ≤ b ∧ b < 210)) t t1
    | .inr (_, t2) => Sm (fun b => b = 10 ∨ b = 13 ∨ b = 14 ∨ b = 15 ∨ b = 16 ∨ (182 ≤ b ∧ b < 210)) t t2) := by
  intro n
  induction n with
  | zero => intro _ _ _ _ _ _ _ H; cases H
  | succ n ih =>
    intro v1 v2 v3 v4 t o hD_t H
    rw [tX9_isTurnedOffBy_L14] at H
    have hF_t : Sm (fun b => b = 10 ∨ b = 13 ∨ b = 14 ∨ b = 15 ∨ b = 16 ∨ (182 ≤ b ∧ b < 210)) t t := Sm.rf
    split at H
    · obtain rfl := Option.some.inj H
      exact hF_t
    · obtain ⟨x7, _, H⟩ := am_bd H
      obtain ⟨tt9, E10, H⟩ := am_bd H
      have hF_tt9 : Sm (fun b => b = 10 ∨ b = 13 ∨ b = 14 ∨ b = 15 ∨ b = 16 ∨ (182 ≤ b ∧ b < 210)) t tt9 := by
        clear H
        have H := E10
        clear E10
        split at H
        · obtain rfl := Option.some.inj H
          exact hF_t
        · obtain ⟨tt13, e12, H⟩ := am_bd H
          have hF_tt13 := hF_t.tr ((wX6_flood e12).mono (S' := fun b => b = 10 ∨ b = 13 ∨ b = 14 ∨ b = 15 ∨ b = 16 ∨ (182 ≤ b ∧ b < 210)) (fun b hb => (by have hb : b = 10 + 4 ∨ b = 10 + 5 := hb; show b = 10 ∨ b = 13 ∨ b = 14 ∨ b = 15 ∨ b = 16 ∨ (182 ≤ b ∧ b < 210); omega)))
          obtain rfl := Option.some.inj H
          exact hF_tt13
      clear E10
      have hd_told16 := dy_9 (hD_t.sm hF_tt9 (show ¬ (0 = 10 ∨ 0 = 13 ∨ 0 = 14 ∨ 0 = 15 ∨ 0 = 16 ∨ (182 ≤ 0 ∧ 0 < 210)) by omega))
      obtain ⟨tt18, e17, H⟩ := am_bd H
      have hF_tt18 := hF_tt9.tr ((wX6_passDate e17).mono (S' := fun b => b = 10 ∨ b = 13 ∨ b = 14 ∨ b = 15 ∨ b = 16 ∨ (182 ≤ b ∧ b < 210)) (fun b hb => (by have hb : b = 10 ∨ b = 10 + 3 ∨ b = 10 + 4 ∨ b = 10 + 5 ∨ b = 10 + 6 ∨ b = (tt9.2.2.2.2 0 9) + 13 := hb; show b = 10 ∨ b = 13 ∨ b = 14 ∨ b = 15 ∨ b = 16 ∨ (182 ≤ b ∧ b < 210); omega)))
      obtain ⟨x23, _, H⟩ := am_bd H
      split at H
      · have hI := ih _ _ _ _ _ _ (hD_t.sm hF_tt18 (show ¬ (0 = 10 ∨ 0 = 13 ∨ 0 = 14 ∨ 0 = 15 ∨ 0 = 16 ∨ (182 ≤ 0 ∧ 0 < 210)) by omega)) H
        rcases o with _ | _
        · exact hF_tt18.tr hI
        · exact hF_tt18.tr hI
      · obtain rfl := Option.some.inj H
        exact hF_tt18
set_option maxHeartbeats 4000000 in
theorem wX9_isTurnedOffBy {a1 : Int32} {a2 : Int32} {a3 : Int32} {t : tS} {r : Int32} {t1 : tS} (hD_t : Dy t) (H : tX9_isTurnedOffBy a1 a2 a3 t = some (r, t1)) : Sm (fun b => b = 10 ∨ b = 11 ∨ b = 12 ∨ b = 13 ∨ b = 14 ∨ b = 15 ∨ b = 16 ∨ (182 ≤ b ∧ b < 210)) t t1 := by
  unfold tX9_isTurnedOffBy at H
  have hF_t : Sm (fun b => b = 10 ∨ b = 11 ∨ b = 12 ∨ b = 13 ∨ b = 14 ∨ b = 15 ∨ b = 16 ∨ (182 ≤ b ∧ b < 210)) t t := Sm.rf
  obtain ⟨tt4, e3, H⟩ := am_bd H
  have hF_tt4 := hF_t.tr ((wX6_copyFrom e3).mono (S' := fun b => b = 10 ∨ b = 11 ∨ b = 12 ∨ b = 13 ∨ b = 14 ∨ b = 15 ∨ b = 16 ∨ (182 ≤ b ∧ b < 210)) (fun b hb => (by have hb : b = 10 ∨ b = 10 + 1 ∨ b = 10 + 2 ∨ b = 10 + 3 ∨ b = 10 + 4 ∨ b = 10 + 5 ∨ b = 10 + 6 := hb; show b = 10 ∨ b = 11 ∨ b = 12 ∨ b = 13 ∨ b = 14 ∨ b = 15 ∨ b = 16 ∨ (182 ≤ b ∧ b < 210); omega)))
  obtain ⟨o27, E24, H⟩ := am_bd H
  have hL := wX9_isTurnedOffBy_L14 _ _ _ _ _ _ _ (hD_t.sm hF_tt4 (show ¬ (0 = 10 ∨ 0 = 11 ∨ 0 = 12 ∨ 0 = 13 ∨ 0 = 14 ∨ 0 = 15 ∨ 0 = 16 ∨ (182 ≤ 0 ∧ 0 < 210)) by omega)) E24
  rcases o27 with tt26 | ⟨_, y28⟩
  · dsimp only at H
    have hF_tt26 := hF_tt4.tr (Sm.mono (S' := fun b => b = 10 ∨ b = 11 ∨ b = 12 ∨ b = 13 ∨ b = 14 ∨ b = 15 ∨ b = 16 ∨ (182 ≤ b ∧ b < 210)) hL (fun b hb => (by have hb : b = 10 ∨ b = 13 ∨ b = 14 ∨ b = 15 ∨ b = 16 ∨ (182 ≤ b ∧ b < 210) := hb; show b = 10 ∨ b = 11 ∨ b = 12 ∨ b = 13 ∨ b = 14 ∨ b = 15 ∨ b = 16 ∨ (182 ≤ b ∧ b < 210); omega)))
    obtain ⟨rfl, rfl⟩ := am_inj2 H
    exact hF_tt26
  · dsimp only at H
    obtain ⟨rfl, rfl⟩ := am_inj2 H
    exact hF_tt4.tr (Sm.mono (S' := fun b => b = 10 ∨ b = 11 ∨ b = 12 ∨ b = 13 ∨ b = 14 ∨ b = 15 ∨ b = 16 ∨ (182 ≤ b ∧ b < 210)) hL (fun b hb => (by have hb : b = 10 ∨ b = 13 ∨ b = 14 ∨ b = 15 ∨ b = 16 ∨ (182 ≤ b ∧ b < 210) := hb; show b = 10 ∨ b = 11 ∨ b = 12 ∨ b = 13 ∨ b = 14 ∨ b = 15 ∨ b = 16 ∨ (182 ≤ b ∧ b < 210); omega)))
set_option maxHeartbeats 4000000 in
theorem wX9_chance_L36 : ∀ (n : Nat) (v1 : Int32) (v2 : Int32) (v3 : Int32) (v4 : Int32) (v5 : Int32) (t : tS) (w4 : Int32) (t1 : tS), Dy t → tX9_chance_L36 n v1 v2 v3 v4 v5 t = some (w4, t1) → Sm (fun b => b = 10 ∨ b = 11 ∨ b = 12 ∨ b = 13 ∨ b = 14 ∨ b = 15 ∨ b = 16 ∨ (182 ≤ b ∧ b < 210)) t t1 := by
  intro n
  induction n with
  | zero => intro _ _ _ _ _ _ _ _ _ H; cases H
  | succ n ih =>
    intro v1 v2 v3 v4 v5 t w4 t1 hD_t H
    rw [tX9_chance_L36] at H
    have hF_t : Sm (fun b => b = 10 ∨ b = 11 ∨ b = 12 ∨ b = 13 ∨ b = 14 ∨ b = 15 ∨ b = 16 ∨ (182 ≤ b ∧ b < 210)) t t := Sm.rf
    split at H
    · obtain ⟨rfl, rfl⟩ := am_inj2 H
      exact hF_t
    · obtain ⟨x8, _, H⟩ := am_bd H
      obtain ⟨jv9, tt11, E12, H⟩ := am_bd2 H
      have hF_tt11 : Sm (fun b => b = 10 ∨ b = 11 ∨ b = 12 ∨ b = 13 ∨ b = 14 ∨ b = 15 ∨ b = 16 ∨ (182 ≤ b ∧ b < 210)) t tt11 := by
        clear H
        have H := E12
        clear E12
        split at H
        · obtain ⟨rfl, rfl⟩ := am_inj2 H
          exact hF_t
        · obtain ⟨x14, tt15, e13, H⟩ := am_bd2 H
          have hF_tt15 := hF_t.tr ((wX9_isTurnedOffBy (hD_t.sm hF_t (show ¬ (0 = 10 ∨ 0 = 11 ∨ 0 = 12 ∨ 0 = 13 ∨ 0 = 14 ∨ 0 = 15 ∨ 0 = 16 ∨ (182 ≤ 0 ∧ 0 < 210)) by omega)) e13).mono (S' := fun b => b = 10 ∨ b = 11 ∨ b = 12 ∨ b = 13 ∨ b = 14 ∨ b = 15 ∨ b = 16 ∨ (182 ≤ b ∧ b < 210)) (fun b hb => (by have hb : b = 10 ∨ b = 11 ∨ b = 12 ∨ b = 13 ∨ b = 14 ∨ b = 15 ∨ b = 16 ∨ (182 ≤ b ∧ b < 210) := hb; show b = 10 ∨ b = 11 ∨ b = 12 ∨ b = 13 ∨ b = 14 ∨ b = 15 ∨ b = 16 ∨ (182 ≤ b ∧ b < 210); omega)))
          split at H
          · obtain ⟨rfl, rfl⟩ := am_inj2 H
            exact hF_tt15
          · obtain ⟨rfl, rfl⟩ := am_inj2 H
            exact hF_tt15
      clear E12
      exact hF_tt11.tr (ih _ _ _ _ _ _ _ _ (hD_t.sm hF_tt11 (show ¬ (0 = 10 ∨ 0 = 11 ∨ 0 = 12 ∨ 0 = 13 ∨ 0 = 14 ∨ 0 = 15 ∨ 0 = 16 ∨ (182 ≤ 0 ∧ 0 < 210)) by omega)) H)
set_option maxHeartbeats 4000000 in
theorem wX9_chance {a1 : Int32} {a2 : Int32} {a3 : Int32} {t : tS} {r : Int32} {t1 : tS} (hD_t : Dy t) (H : tX9_chance a1 a2 a3 t = some (r, t1)) : Sm (fun b => b = 10 ∨ b = 11 ∨ b = 12 ∨ b = 13 ∨ b = 14 ∨ b = 15 ∨ b = 16 ∨ (182 ≤ b ∧ b < 210)) t t1 := by
  unfold tX9_chance at H
  have hF_t : Sm (fun b => b = 10 ∨ b = 11 ∨ b = 12 ∨ b = 13 ∨ b = 14 ∨ b = 15 ∨ b = 16 ∨ (182 ≤ b ∧ b < 210)) t t := Sm.rf
  obtain ⟨x2, _, H⟩ := am_bd H
  split at H
  · obtain ⟨rfl, rfl⟩ := am_inj2 H
    exact hF_t
  · obtain ⟨x4, _, H⟩ := am_bd H
    split at H
    · obtain ⟨rfl, rfl⟩ := am_inj2 H
      exact hF_t
    · obtain ⟨x6, _, H⟩ := am_bd H
      split at H
      · obtain ⟨lw17, tt20, E18, H⟩ := am_bd2 H
        have hF_tt20 := hF_t.tr (Sm.mono (S' := fun b => b = 10 ∨ b = 11 ∨ b = 12 ∨ b = 13 ∨ b = 14 ∨ b = 15 ∨ b = 16 ∨ (182 ≤ b ∧ b < 210)) (wX9_chance_L36 _ _ _ _ _ _ _ _ _ (hD_t.sm hF_t (show ¬ (0 = 10 ∨ 0 = 11 ∨ 0 = 12 ∨ 0 = 13 ∨ 0 = 14 ∨ 0 = 15 ∨ 0 = 16 ∨ (182 ≤ 0 ∧ 0 < 210)) by omega)) E18) (fun b hb => (by have hb : b = 10 ∨ b = 11 ∨ b = 12 ∨ b = 13 ∨ b = 14 ∨ b = 15 ∨ b = 16 ∨ (182 ≤ b ∧ b < 210) := hb; show b = 10 ∨ b = 11 ∨ b = 12 ∨ b = 13 ∨ b = 14 ∨ b = 15 ∨ b = 16 ∨ (182 ≤ b ∧ b < 210); omega)))
        clear E18
        obtain ⟨rfl, rfl⟩ := am_inj2 H
        exact hF_tt20
      · obtain ⟨rfl, rfl⟩ := am_inj2 H
        exact hF_t
set_option maxHeartbeats 4000000 in
theorem wX9_drawBelow {a1 : Int32} {t : tS} {r : Int32} {t1 : tS} (hD_t : Dy t) (H : tX9_drawBelow a1 t = some (r, t1)) : Sm (fun b => b = 0) t t1 := by
  unfold tX9_drawBelow at H
  have hF_t : Sm (fun b => b = 0) t t := Sm.rf
  obtain ⟨q2, _, H⟩ := am_bd H
  obtain ⟨tt4, et5, H⟩ := am_bd H
  have hF_tt4 := hF_t.tr (sm_J (S := fun b => b = 0) et5 (show 0 = 0 by omega))
  obtain ⟨js6, E7, H⟩ := am_bd H
  clear E7
  obtain ⟨rfl, rfl⟩ := am_inj2 H
  exact hF_tt4
set_option maxHeartbeats 4000000 in
theorem wX9_mark {a1 : Int32} {a2 : Int32} {t : tS} {r : Int32} {t1 : tS} (hD_t : Dy t) (H : tX9_mark a1 a2 t = some (r, t1)) : Sm (fun b => b = 17 ∨ b = 176 ∨ b = 177 ∨ b = 178 ∨ b = 3 ∨ b = 4 ∨ b = 5 ∨ b = 6 ∨ b = 7 ∨ b = 8 ∨ b = 9 ∨ (132 ≤ b ∧ b < 176)) t t1 := by
  unfold tX9_mark at H
  have hF_t : Sm (fun b => b = 17 ∨ b = 176 ∨ b = 177 ∨ b = 178 ∨ b = 3 ∨ b = 4 ∨ b = 5 ∨ b = 6 ∨ b = 7 ∨ b = 8 ∨ b = 9 ∨ (132 ≤ b ∧ b < 176)) t t := Sm.rf
  obtain ⟨x2, _, H⟩ := am_bd H
  split at H
  · split at H
    · obtain ⟨r4, e5, H⟩ := am_bd H
      have hq_r4 := tQ_m e5
      split at H
      · obtain ⟨r9, e10, H⟩ := am_bd H
        have hq_r9 := tQ_m e10
        obtain ⟨tt13, e12, H⟩ := am_bd H
        have hF_tt13 := hF_t.tr ((wX6_copyFrom e12).mono (S' := fun b => b = 17 ∨ b = 176 ∨ b = 177 ∨ b = 178 ∨ b = 3 ∨ b = 4 ∨ b = 5 ∨ b = 6 ∨ b = 7 ∨ b = 8 ∨ b = 9 ∨ (132 ≤ b ∧ b < 176)) (fun b hb => (by have hb : b = 3 ∨ b = 3 + 1 ∨ b = 3 + 2 ∨ b = 3 + 3 ∨ b = 3 + 4 ∨ b = 3 + 5 ∨ b = 3 + 6 := hb; show b = 17 ∨ b = 176 ∨ b = 177 ∨ b = 178 ∨ b = 3 ∨ b = 4 ∨ b = 5 ∨ b = 6 ∨ b = 7 ∨ b = 8 ∨ b = 9 ∨ (132 ≤ b ∧ b < 176); omega)))
        obtain ⟨r17, e18, H⟩ := am_bd H
        have hq_r17 := tQ_m e18
        obtain ⟨tt21, e20, H⟩ := am_bd H
        have hF_tt21 := hF_tt13.tr ((wX5_copyFrom e20).mono (S' := fun b => b = 17 ∨ b = 176 ∨ b = 177 ∨ b = 178 ∨ b = 3 ∨ b = 4 ∨ b = 5 ∨ b = 6 ∨ b = 7 ∨ b = 8 ∨ b = 9 ∨ (132 ≤ b ∧ b < 176)) (fun b hb => (by have hb : b = 176 ∨ b = 176 + 1 ∨ b = 176 + 2 := hb; show b = 17 ∨ b = 176 ∨ b = 177 ∨ b = 178 ∨ b = 3 ∨ b = 4 ∨ b = 5 ∨ b = 6 ∨ b = 7 ∨ b = 8 ∨ b = 9 ∨ (132 ≤ b ∧ b < 176); omega)))
        obtain ⟨tt25, et26, H⟩ := am_bd H
        have hF_tt25 := hF_tt21.tr (sm_I (S := fun b => b = 17 ∨ b = 176 ∨ b = 177 ∨ b = 178 ∨ b = 3 ∨ b = 4 ∨ b = 5 ∨ b = 6 ∨ b = 7 ∨ b = 8 ∨ b = 9 ∨ (132 ≤ b ∧ b < 176)) et26 (show 17 = 17 ∨ 17 = 176 ∨ 17 = 177 ∨ 17 = 178 ∨ 17 = 3 ∨ 17 = 4 ∨ 17 = 5 ∨ 17 = 6 ∨ 17 = 7 ∨ 17 = 8 ∨ 17 = 9 ∨ (132 ≤ 17 ∧ 17 < 176) by omega))
        obtain ⟨rfl, rfl⟩ := am_inj2 H
        exact hF_tt25
      · obtain ⟨rfl, rfl⟩ := am_inj2 H
        exact hF_t
    · obtain ⟨r28, e29, H⟩ := am_bd H
      have hq_r28 := tQ_m e29
      obtain ⟨tt33, e32, H⟩ := am_bd H
      have hF_tt33 := hF_t.tr ((wX2_lay e32).mono (S' := fun b => b = 17 ∨ b = 176 ∨ b = 177 ∨ b = 178 ∨ b = 3 ∨ b = 4 ∨ b = 5 ∨ b = 6 ∨ b = 7 ∨ b = 8 ∨ b = 9 ∨ (132 ≤ b ∧ b < 176)) (fun b hb => (by have hb : b = r28 ∨ b = r28 + 1 ∨ b = r28 + 10 ∨ b = r28 + 2 ∨ b = r28 + 3 ∨ b = r28 + 4 ∨ b = r28 + 5 ∨ b = r28 + 6 ∨ b = r28 + 7 ∨ b = r28 + 8 ∨ b = r28 + 9 := hb; show b = 17 ∨ b = 176 ∨ b = 177 ∨ b = 178 ∨ b = 3 ∨ b = 4 ∨ b = 5 ∨ b = 6 ∨ b = 7 ∨ b = 8 ∨ b = 9 ∨ (132 ≤ b ∧ b < 176); omega)))
      obtain ⟨rfl, rfl⟩ := am_inj2 H
      exact hF_tt33
  · obtain ⟨rfl, rfl⟩ := am_inj2 H
    exact hF_t
set_option maxHeartbeats 4000000 in
theorem wX10_lay_L3 : ∀ (n : Nat) (v1 : Int64) (v3 : Int32) (t : tS) (t1 : tS), tX10_lay_L3 n v1 v3 t = some t1 → Sm (fun b => b = 218 ∨ b = 219) t t1 := by
  intro n
  induction n with
  | zero => intro _ _ _ _ H; cases H
  | succ n ih =>
    intro v1 v3 t t1 H
    rw [tX10_lay_L3] at H
    have hF_t : Sm (fun b => b = 218 ∨ b = 219) t t := Sm.rf
    split at H
    · obtain rfl := Option.some.inj H
      exact hF_t
    · obtain ⟨tt2, E3, H⟩ := am_bd H
      have hF_tt2 : Sm (fun b => b = 218 ∨ b = 219) t tt2 := by
        clear H
        have H := E3
        clear E3
        split at H
        · split at H
          · obtain rfl := Option.some.inj H
            exact hF_t
          · obtain ⟨tt8, e9, H⟩ := am_bd H
            have hF_tt8 := hF_t.tr (sm_WA (S := fun b => b = 218 ∨ b = 219) e9 (show 219 = 218 ∨ 219 = 219 by omega))
            obtain ⟨tt12, et13, H⟩ := am_bd H
            have hF_tt12 := hF_tt8.tr (sm_I (S := fun b => b = 218 ∨ b = 219) et13 (show 218 = 218 ∨ 218 = 219 by omega))
            obtain rfl := Option.some.inj H
            exact hF_tt12
        · split at H
          · obtain rfl := Option.some.inj H
            exact hF_t
          · split at H
            · obtain rfl := Option.some.inj H
              exact hF_t
            · split at H
              · obtain rfl := Option.some.inj H
                exact hF_t
              · obtain ⟨tt18, e19, H⟩ := am_bd H
                have hF_tt18 := hF_t.tr (sm_WA (S := fun b => b = 218 ∨ b = 219) e19 (show 219 = 218 ∨ 219 = 219 by omega))
                obtain ⟨tt22, et23, H⟩ := am_bd H
                have hF_tt22 := hF_tt18.tr (sm_I (S := fun b => b = 218 ∨ b = 219) et23 (show 218 = 218 ∨ 218 = 219 by omega))
                obtain rfl := Option.some.inj H
                exact hF_tt22
      clear E3
      exact hF_tt2.tr (ih _ _ _ _ H)
set_option maxHeartbeats 4000000 in
theorem wX10_lay {a1 : Int64} {t : tS} {t1 : tS} (H : tX10_lay a1 t = some t1) : Sm (fun b => b = 218 ∨ b = 219) t t1 := by
  unfold tX10_lay at H
  have hF_t : Sm (fun b => b = 218 ∨ b = 219) t t := Sm.rf
  obtain ⟨tt26, E24, H⟩ := am_bd H
  have hF_tt26 := hF_t.tr (Sm.mono (S' := fun b => b = 218 ∨ b = 219) (wX10_lay_L3 _ _ _ _ _ E24) (fun b hb => (by have hb : b = 218 ∨ b = 219 := hb; show b = 218 ∨ b = 219; omega)))
  clear E24
  obtain rfl := Option.some.inj H
  exact hF_tt26
set_option maxHeartbeats 4000000 in
theorem wX10_feed {a1 : Int64} {a2 : Int64} {a3 : Int64} {t : tS} {r : Int32} {t1 : tS} (H : tX10_feed a1 a2 a3 t = some (r, t1)) : Sm (fun b => b = 218 ∨ b = 219) t t1 := by
  unfold tX10_feed at H
  have hF_t : Sm (fun b => b = 218 ∨ b = 219) t t := Sm.rf
  obtain ⟨tt2, et3, H⟩ := am_bd H
  have hF_tt2 := hF_t.tr (sm_I (S := fun b => b = 218 ∨ b = 219) et3 (show 218 = 218 ∨ 218 = 219 by omega))
  obtain ⟨tt5, e4, H⟩ := am_bd H
  have hF_tt5 := hF_tt2.tr ((wX10_lay e4).mono (S' := fun b => b = 218 ∨ b = 219) (fun b hb => (by have hb : b = 218 ∨ b = 219 := hb; show b = 218 ∨ b = 219; omega)))
  obtain ⟨tt8, e7, H⟩ := am_bd H
  have hF_tt8 := hF_tt5.tr ((wX10_lay e7).mono (S' := fun b => b = 218 ∨ b = 219) (fun b hb => (by have hb : b = 218 ∨ b = 219 := hb; show b = 218 ∨ b = 219; omega)))
  obtain ⟨tt11, e10, H⟩ := am_bd H
  have hF_tt11 := hF_tt8.tr ((wX10_lay e10).mono (S' := fun b => b = 218 ∨ b = 219) (fun b hb => (by have hb : b = 218 ∨ b = 219 := hb; show b = 218 ∨ b = 219; omega)))
  obtain ⟨rfl, rfl⟩ := am_inj2 H
  exact hF_tt11
set_option maxHeartbeats 4000000 in
theorem wX10_datesAsTold_L2 : ∀ (n : Nat) (v1 : Int32) (t : tS) (t1 : tS), tX10_datesAsTold_L2 n v1 t = some t1 → Sm (fun b => b = 236) t t1 := by
  intro n
  induction n with
  | zero => intro _ _ _ H; cases H
  | succ n ih =>
    intro v1 t t1 H
    rw [tX10_datesAsTold_L2] at H
    have hF_t : Sm (fun b => b = 236) t t := Sm.rf
    obtain ⟨x2, _, H⟩ := am_bd H
    split at H
    · obtain rfl := Option.some.inj H
      exact hF_t
    · obtain ⟨x5, _, H⟩ := am_bd H
      obtain ⟨tt7, e8, H⟩ := am_bd H
      have hF_tt7 := hF_t.tr (sm_WA (S := fun b => b = 236) e8 (show 236 = 236 by omega))
      exact hF_tt7.tr (ih _ _ _ H)
set_option maxHeartbeats 4000000 in
theorem wX10_datesAsTold  {t : tS} {t1 : tS} (H : tX10_datesAsTold  t = some t1) : Sm (fun b => b = 236) t t1 := by
  unfold tX10_datesAsTold at H
  have hF_t : Sm (fun b => b = 236) t t := Sm.rf
  obtain ⟨tt11, E9, H⟩ := am_bd H
  have hF_tt11 := hF_t.tr (Sm.mono (S' := fun b => b = 236) (wX10_datesAsTold_L2 _ _ _ _ E9) (fun b hb => (by have hb : b = 236 := hb; show b = 236; omega)))
  clear E9
  obtain rfl := Option.some.inj H
  exact hF_tt11
set_option maxHeartbeats 4000000 in
theorem wX10_starts_L2 : ∀ (n : Nat) (v1 : Int32) (v2 : Int32) (t : tS) (t1 : tS), tX10_starts_L2 n v1 v2 t = some t1 → Sm (fun b => b = 234) t t1 := by
  intro n
  induction n with
  | zero => intro _ _ _ _ H; cases H
  | succ n ih =>
    intro v1 v2 t t1 H
    rw [tX10_starts_L2] at H
    have hF_t : Sm (fun b => b = 234) t t := Sm.rf
    split at H
    · obtain rfl := Option.some.inj H
      exact hF_t
    · obtain ⟨tt3, e4, H⟩ := am_bd H
      have hF_tt3 := hF_t.tr (sm_WA (S := fun b => b = 234) e4 (show 234 = 234 by omega))
      exact hF_tt3.tr (ih _ _ _ _ H)
set_option maxHeartbeats 4000000 in
theorem wX10_starts_L25 : ∀ (n : Nat) (v1 : Int32) (v2 : Int32) (t : tS) (t1 : tS), tX10_starts_L25 n v1 v2 t = some t1 → Sm (fun b => b = 234) t t1 := by
  intro n
  induction n with
  | zero => intro _ _ _ _ H; cases H
  | succ n ih =>
    intro v1 v2 t t1 H
    rw [tX10_starts_L25] at H
    have hF_t : Sm (fun b => b = 234) t t := Sm.rf
    obtain ⟨x9, _, H⟩ := am_bd H
    split at H
    · obtain rfl := Option.some.inj H
      exact hF_t
    · obtain ⟨x12, _, H⟩ := am_bd H
      obtain ⟨tt14, e15, H⟩ := am_bd H
      have hF_tt14 := hF_t.tr (sm_WA (S := fun b => b = 234) e15 (show 234 = 234 by omega))
      exact hF_tt14.tr (ih _ _ _ _ H)
set_option maxHeartbeats 4000000 in
theorem wX10_starts_L57 : ∀ (n : Nat) (v1 : Int32) (v2 : Int32) (t : tS) (t1 : tS), tX10_starts_L57 n v1 v2 t = some t1 → Sm (fun b => b = 234) t t1 := by
  intro n
  induction n with
  | zero => intro _ _ _ _ H; cases H
  | succ n ih =>
    intro v1 v2 t t1 H
    rw [tX10_starts_L57] at H
    have hF_t : Sm (fun b => b = 234) t t := Sm.rf
    split at H
    · obtain rfl := Option.some.inj H
      exact hF_t
    · obtain ⟨tt21, e22, H⟩ := am_bd H
      have hF_tt21 := hF_t.tr (sm_WA (S := fun b => b = 234) e22 (show 234 = 234 by omega))
      obtain ⟨x25, _, H⟩ := am_bd H
      obtain ⟨js26, E27, H⟩ := am_bd H
      clear E27
      obtain ⟨tt29, e30, H⟩ := am_bd H
      have hF_tt29 := hF_tt21.tr (sm_WA (S := fun b => b = 234) e30 (show 234 = 234 by omega))
      exact hF_tt29.tr (ih _ _ _ _ H)
set_option maxHeartbeats 4000000 in
theorem wX10_starts {a1 : Int32} {t : tS} {t1 : tS} (H : tX10_starts a1 t = some t1) : Sm (fun b => b = 234) t t1 := by
  unfold tX10_starts at H
  have hF_t : Sm (fun b => b = 234) t t := Sm.rf
  obtain ⟨tt7, E5, H⟩ := am_bd H
  have hF_tt7 := hF_t.tr (Sm.mono (S' := fun b => b = 234) (wX10_starts_L2 _ _ _ _ _ E5) (fun b hb => (by have hb : b = 234 := hb; show b = 234; omega)))
  clear E5
  obtain ⟨tt18, E16, H⟩ := am_bd H
  have hF_tt18 := hF_tt7.tr (Sm.mono (S' := fun b => b = 234) (wX10_starts_L25 _ _ _ _ _ E16) (fun b hb => (by have hb : b = 234 := hb; show b = 234; omega)))
  clear E16
  obtain ⟨tt33, E31, H⟩ := am_bd H
  have hF_tt33 := hF_tt18.tr (Sm.mono (S' := fun b => b = 234) (wX10_starts_L57 _ _ _ _ _ E31) (fun b hb => (by have hb : b = 234 := hb; show b = 234; omega)))
  clear E31
  obtain rfl := Option.some.inj H
  exact hF_tt33
set_option maxHeartbeats 4000000 in
theorem wX10_begins_L31 : ∀ (n : Nat) (v1 : Int32) (t : tS) (t1 : tS), tX10_begins_L31 n v1 t = some t1 → Sm (fun b => b = 235) t t1 := by
  intro n
  induction n with
  | zero => intro _ _ _ H; cases H
  | succ n ih =>
    intro v1 t t1 H
    rw [tX10_begins_L31] at H
    have hF_t : Sm (fun b => b = 235) t t := Sm.rf
    split at H
    · obtain rfl := Option.some.inj H
      exact hF_t
    · obtain ⟨tt20, e21, H⟩ := am_bd H
      have hF_tt20 := hF_t.tr (sm_WA (S := fun b => b = 235) e21 (show 235 = 235 by omega))
      exact hF_tt20.tr (ih _ _ _ H)
set_option maxHeartbeats 4000000 in
theorem wX10_begins  {t : tS} {t1 : tS} (H : tX10_begins  t = some t1) : Sm (fun b => b = 218 ∨ b = 231 ∨ b = 234 ∨ b = 235 ∨ b = 236) t t1 := by
  unfold tX10_begins at H
  have hF_t : Sm (fun b => b = 218 ∨ b = 231 ∨ b = 234 ∨ b = 235 ∨ b = 236) t t := Sm.rf
  obtain ⟨tt2, e1, H⟩ := am_bd H
  have hF_tt2 := hF_t.tr ((wX10_datesAsTold e1).mono (S' := fun b => b = 218 ∨ b = 231 ∨ b = 234 ∨ b = 235 ∨ b = 236) (fun b hb => (by have hb : b = 236 := hb; show b = 218 ∨ b = 231 ∨ b = 234 ∨ b = 235 ∨ b = 236; omega)))
  obtain ⟨tt5, e4, H⟩ := am_bd H
  have hF_tt5 := hF_tt2.tr ((wX10_starts e4).mono (S' := fun b => b = 218 ∨ b = 231 ∨ b = 234 ∨ b = 235 ∨ b = 236) (fun b hb => (by have hb : b = 234 := hb; show b = 218 ∨ b = 231 ∨ b = 234 ∨ b = 235 ∨ b = 236; omega)))
  obtain ⟨tt9, e10, H⟩ := am_bd H
  have hF_tt9 := hF_tt5.tr (sm_WA (S := fun b => b = 218 ∨ b = 231 ∨ b = 234 ∨ b = 235 ∨ b = 236) e10 (show 234 = 218 ∨ 234 = 231 ∨ 234 = 234 ∨ 234 = 235 ∨ 234 = 236 by omega))
  obtain ⟨tt13, e14, H⟩ := am_bd H
  have hF_tt13 := hF_tt9.tr (sm_WA (S := fun b => b = 218 ∨ b = 231 ∨ b = 234 ∨ b = 235 ∨ b = 236) e14 (show 231 = 218 ∨ 231 = 231 ∨ 231 = 234 ∨ 231 = 235 ∨ 231 = 236 by omega))
  obtain ⟨tt16, et17, H⟩ := am_bd H
  have hF_tt16 := hF_tt13.tr (sm_I (S := fun b => b = 218 ∨ b = 231 ∨ b = 234 ∨ b = 235 ∨ b = 236) et17 (show 218 = 218 ∨ 218 = 231 ∨ 218 = 234 ∨ 218 = 235 ∨ 218 = 236 by omega))
  obtain ⟨tt24, E22, H⟩ := am_bd H
  have hF_tt24 := hF_tt16.tr (Sm.mono (S' := fun b => b = 218 ∨ b = 231 ∨ b = 234 ∨ b = 235 ∨ b = 236) (wX10_begins_L31 _ _ _ _ E22) (fun b hb => (by have hb : b = 235 := hb; show b = 218 ∨ b = 231 ∨ b = 234 ∨ b = 235 ∨ b = 236; omega)))
  clear E22
  obtain rfl := Option.some.inj H
  exact hF_tt24
set_option maxHeartbeats 4000000 in
theorem wX10_standsAsAlways_L2 : ∀ (n : Nat) (v1 : Int32) (v2 : Int32) (t : tS) (t1 : tS), tX10_standsAsAlways_L2 n v1 v2 t = some t1 → Sm (fun b => b = 224) t t1 := by
  intro n
  induction n with
  | zero => intro _ _ _ _ H; cases H
  | succ n ih =>
    intro v1 v2 t t1 H
    rw [tX10_standsAsAlways_L2] at H
    have hF_t : Sm (fun b => b = 224) t t := Sm.rf
    split at H
    · obtain rfl := Option.some.inj H
      exact hF_t
    · obtain ⟨tt3, e4, H⟩ := am_bd H
      have hF_tt3 := hF_t.tr (sm_WA (S := fun b => b = 224) e4 (show 224 = 224 by omega))
      exact hF_tt3.tr (ih _ _ _ _ H)
set_option maxHeartbeats 4000000 in
theorem wX10_standsAsAlways {a1 : Int32} {t : tS} {t1 : tS} (H : tX10_standsAsAlways a1 t = some t1) : Sm (fun b => b = 224) t t1 := by
  unfold tX10_standsAsAlways at H
  have hF_t : Sm (fun b => b = 224) t t := Sm.rf
  obtain ⟨tt7, E5, H⟩ := am_bd H
  have hF_tt7 := hF_t.tr (Sm.mono (S' := fun b => b = 224) (wX10_standsAsAlways_L2 _ _ _ _ _ E5) (fun b hb => (by have hb : b = 224 := hb; show b = 224; omega)))
  clear E5
  obtain ⟨tt10, e11, H⟩ := am_bd H
  have hF_tt10 := hF_tt7.tr (sm_WA (S := fun b => b = 224) e11 (show 224 = 224 by omega))
  obtain ⟨tt14, e15, H⟩ := am_bd H
  have hF_tt14 := hF_tt10.tr (sm_WA (S := fun b => b = 224) e15 (show 224 = 224 by omega))
  obtain rfl := Option.some.inj H
  exact hF_tt14
set_option maxHeartbeats 4000000 in
theorem wX10_cutAll_L17 : ∀ (n : Nat) (v1 : Int32) (v2 : Int32) (t : tS) (w1 : Int32) (t1 : tS), tX10_cutAll_L17 n v1 v2 t = some (w1, t1) → Sm (fun b => b = 220 ∨ b = 221 ∨ b = 222) t t1 := by
  intro n
  induction n with
  | zero => intro _ _ _ _ _ H; cases H
  | succ n ih =>
    intro v1 v2 t w1 t1 H
    rw [tX10_cutAll_L17] at H
    have hF_t : Sm (fun b => b = 220 ∨ b = 221 ∨ b = 222) t t := Sm.rf
    split at H
    · obtain ⟨rfl, rfl⟩ := am_inj2 H
      exact hF_t
    · obtain ⟨x10, _, H⟩ := am_bd H
      split at H
      · exact hF_t.tr (ih _ _ _ _ _ H)
      · split at H
        · obtain ⟨tt13, e14, H⟩ := am_bd H
          have hF_tt13 := hF_t.tr (sm_WA (S := fun b => b = 220 ∨ b = 221 ∨ b = 222) e14 (show 221 = 220 ∨ 221 = 221 ∨ 221 = 222 by omega))
          obtain ⟨x16, _, H⟩ := am_bd H
          obtain ⟨jv17, jv18, tt20, E21, H⟩ := am_bd3 H
          have hF_tt20 : Sm (fun b => b = 220 ∨ b = 221 ∨ b = 222) t tt20 := by
            clear H
            have H := E21
            clear E21
            split at H
            · obtain ⟨x23, _, H⟩ := am_bd H
              split at H
              · obtain ⟨x26, _, H⟩ := am_bd H
                obtain ⟨js27, E28, H⟩ := am_bd H
                clear E28
                obtain ⟨tt30, e31, H⟩ := am_bd H
                have hF_tt30 := hF_tt13.tr (sm_WA (S := fun b => b = 220 ∨ b = 221 ∨ b = 222) e31 (show 220 = 220 ∨ 220 = 221 ∨ 220 = 222 by omega))
                obtain ⟨rfl, rfl, rfl⟩ := am_inj3 H
                exact hF_tt30
              · obtain ⟨lw32, lw33, E34, H⟩ := am_bd2 H
                clear E34
                obtain ⟨js36, E37, H⟩ := am_bd H
                clear E37
                obtain ⟨tt39, e40, H⟩ := am_bd H
                have hF_tt39 := hF_tt13.tr (sm_WA (S := fun b => b = 220 ∨ b = 221 ∨ b = 222) e40 (show 220 = 220 ∨ 220 = 221 ∨ 220 = 222 by omega))
                obtain ⟨rfl, rfl, rfl⟩ := am_inj3 H
                exact hF_tt39
            · obtain ⟨lw41, lw42, E43, H⟩ := am_bd2 H
              clear E43
              obtain ⟨js45, E46, H⟩ := am_bd H
              clear E46
              obtain ⟨tt48, e49, H⟩ := am_bd H
              have hF_tt48 := hF_tt13.tr (sm_WA (S := fun b => b = 220 ∨ b = 221 ∨ b = 222) e49 (show 220 = 220 ∨ 220 = 221 ∨ 220 = 222 by omega))
              obtain ⟨rfl, rfl, rfl⟩ := am_inj3 H
              exact hF_tt48
          clear E21
          obtain ⟨tt52, e53, H⟩ := am_bd H
          have hF_tt52 := hF_tt20.tr (sm_WB (S := fun b => b = 220 ∨ b = 221 ∨ b = 222) e53 (show 222 = 220 ∨ 222 = 221 ∨ 222 = 222 by omega))
          exact hF_tt52.tr (ih _ _ _ _ _ H)
        · exact hF_t.tr (ih _ _ _ _ _ H)
set_option maxHeartbeats 4000000 in
theorem wX10_cutAll  {t : tS} {t1 : tS} (H : tX10_cutAll  t = some t1) : Sm (fun b => b = 218 ∨ b = 220 ∨ b = 221 ∨ b = 222) t t1 := by
  unfold tX10_cutAll at H
  have hF_t : Sm (fun b => b = 218 ∨ b = 220 ∨ b = 221 ∨ b = 222) t t := Sm.rf
  obtain ⟨tt3, et4, H⟩ := am_bd H
  have hF_tt3 := hF_t.tr (sm_I (S := fun b => b = 218 ∨ b = 220 ∨ b = 221 ∨ b = 222) et4 (show 218 = 218 ∨ 218 = 220 ∨ 218 = 221 ∨ 218 = 222 by omega))
  obtain ⟨tt6, et7, H⟩ := am_bd H
  have hF_tt6 := hF_tt3.tr (sm_I (S := fun b => b = 218 ∨ b = 220 ∨ b = 221 ∨ b = 222) et7 (show 218 = 218 ∨ 218 = 220 ∨ 218 = 221 ∨ 218 = 222 by omega))
  obtain ⟨lw54, tt57, E55, H⟩ := am_bd2 H
  have hF_tt57 := hF_tt6.tr (Sm.mono (S' := fun b => b = 218 ∨ b = 220 ∨ b = 221 ∨ b = 222) (wX10_cutAll_L17 _ _ _ _ _ _ E55) (fun b hb => (by have hb : b = 220 ∨ b = 221 ∨ b = 222 := hb; show b = 218 ∨ b = 220 ∨ b = 221 ∨ b = 222; omega)))
  clear E55
  obtain ⟨tt60, e61, H⟩ := am_bd H
  have hF_tt60 := hF_tt57.tr (sm_WA (S := fun b => b = 218 ∨ b = 220 ∨ b = 221 ∨ b = 222) e61 (show 220 = 218 ∨ 220 = 220 ∨ 220 = 221 ∨ 220 = 222 by omega))
  obtain ⟨tt65, e66, H⟩ := am_bd H
  have hF_tt65 := hF_tt60.tr (sm_WA (S := fun b => b = 218 ∨ b = 220 ∨ b = 221 ∨ b = 222) e66 (show 221 = 218 ∨ 221 = 220 ∨ 221 = 221 ∨ 221 = 222 by omega))
  obtain ⟨tt68, et69, H⟩ := am_bd H
  have hF_tt68 := hF_tt65.tr (sm_I (S := fun b => b = 218 ∨ b = 220 ∨ b = 221 ∨ b = 222) et69 (show 218 = 218 ∨ 218 = 220 ∨ 218 = 221 ∨ 218 = 222 by omega))
  obtain ⟨tt71, et72, H⟩ := am_bd H
  have hF_tt71 := hF_tt68.tr (sm_I (S := fun b => b = 218 ∨ b = 220 ∨ b = 221 ∨ b = 222) et72 (show 218 = 218 ∨ 218 = 220 ∨ 218 = 221 ∨ 218 = 222 by omega))
  obtain rfl := Option.some.inj H
  exact hF_tt71
set_option maxHeartbeats 4000000 in
theorem wX10_wrong {a1 : Int32} {t : tS} {t1 : tS} (H : tX10_wrong a1 t = some t1) : Sm (fun b => b = 218) t t1 := by
  unfold tX10_wrong at H
  have hF_t : Sm (fun b => b = 218) t t := Sm.rf
  obtain ⟨tt3, E4, H⟩ := am_bd H
  have hF_tt3 : Sm (fun b => b = 218) t tt3 := by
    clear H
    have H := E4
    clear E4
    split at H
    · obtain rfl := Option.some.inj H
      exact hF_t
    · obtain ⟨x7, _, H⟩ := am_bd H
      obtain ⟨tt9, et10, H⟩ := am_bd H
      have hF_tt9 := hF_t.tr (sm_I (S := fun b => b = 218) et10 (show 218 = 218 by omega))
      obtain rfl := Option.some.inj H
      exact hF_tt9
  clear E4
  obtain rfl := Option.some.inj H
  exact hF_tt3
set_option maxHeartbeats 4000000 in
theorem wX10_takeSign {a1 : Int32} {t : tS} {t1 : tS} (H : tX10_takeSign a1 t = some t1) : Sm (fun b => b = 218) t t1 := by
  unfold tX10_takeSign at H
  have hF_t : Sm (fun b => b = 218) t t := Sm.rf
  obtain ⟨x2, _, H⟩ := am_bd H
  obtain ⟨tt4, E5, H⟩ := am_bd H
  have hF_tt4 : Sm (fun b => b = 218) t tt4 := by
    clear H
    have H := E5
    clear E5
    split at H
    · obtain ⟨tt7, e6, H⟩ := am_bd H
      have hF_tt7 := hF_t.tr ((wX10_wrong e6).mono (S' := fun b => b = 218) (fun b hb => (by have hb : b = 218 := hb; show b = 218; omega)))
      obtain rfl := Option.some.inj H
      exact hF_tt7
    · obtain ⟨tt11, et12, H⟩ := am_bd H
      have hF_tt11 := hF_t.tr (sm_I (S := fun b => b = 218) et12 (show 218 = 218 by omega))
      obtain rfl := Option.some.inj H
      exact hF_tt11
  clear E5
  obtain rfl := Option.some.inj H
  exact hF_tt4
set_option maxHeartbeats 4000000 in
theorem wX10_hasSign {a1 : Int32} {t : tS} {r : Int32} {t1 : tS} (H : tX10_hasSign a1 t = some (r, t1)) : Sm (fun b => b = 218) t t1 := by
  unfold tX10_hasSign at H
  have hF_t : Sm (fun b => b = 218) t t := Sm.rf
  obtain ⟨x2, _, H⟩ := am_bd H
  obtain ⟨js4, E5, H⟩ := am_bd H
  clear E5
  obtain ⟨tt7, et8, H⟩ := am_bd H
  have hF_tt7 := hF_t.tr (sm_I (S := fun b => b = 218) et8 (show 218 = 218 by omega))
  obtain ⟨_, _, H⟩ := am_bd H
  obtain ⟨rfl, rfl⟩ := am_inj2 H
  exact hF_tt7
set_option maxHeartbeats 4000000 in
theorem wX10_hasWord {a1 : Int32} {t : tS} {r : Int32} {t1 : tS} (H : tX10_hasWord a1 t = some (r, t1)) : Sm (fun b => b = 218) t t1 := by
  unfold tX10_hasWord at H
  have hF_t : Sm (fun b => b = 218) t t := Sm.rf
  obtain ⟨x2, _, H⟩ := am_bd H
  obtain ⟨js4, E5, H⟩ := am_bd H
  clear E5
  obtain ⟨tt7, et8, H⟩ := am_bd H
  have hF_tt7 := hF_t.tr (sm_I (S := fun b => b = 218) et8 (show 218 = 218 by omega))
  obtain ⟨_, _, H⟩ := am_bd H
  obtain ⟨rfl, rfl⟩ := am_inj2 H
  exact hF_tt7
set_option maxHeartbeats 4000000 in
theorem wX10_takeWord {a1 : Int32} {t : tS} {t1 : tS} (H : tX10_takeWord a1 t = some t1) : Sm (fun b => b = 218) t t1 := by
  unfold tX10_takeWord at H
  have hF_t : Sm (fun b => b = 218) t t := Sm.rf
  obtain ⟨x2, tt3, e1, H⟩ := am_bd2 H
  have hF_tt3 := hF_t.tr ((wX10_hasWord e1).mono (S' := fun b => b = 218) (fun b hb => (by have hb : b = 218 := hb; show b = 218; omega)))
  obtain ⟨tt6, E7, H⟩ := am_bd H
  have hF_tt6 : Sm (fun b => b = 218) t tt6 := by
    clear H
    have H := E7
    clear E7
    split at H
    · obtain rfl := Option.some.inj H
      exact hF_tt3
    · obtain ⟨tt9, e8, H⟩ := am_bd H
      have hF_tt9 := hF_tt3.tr ((wX10_wrong e8).mono (S' := fun b => b = 218) (fun b hb => (by have hb : b = 218 := hb; show b = 218; omega)))
      obtain rfl := Option.some.inj H
      exact hF_tt9
  clear E7
  obtain rfl := Option.some.inj H
  exact hF_tt6
set_option maxHeartbeats 4000000 in
theorem wX10_takeOne {a1 : Int32} {a2 : Int32} {t : tS} {r : Int32} {t1 : tS} (H : tX10_takeOne a1 a2 t = some (r, t1)) : Sm (fun b => b = 218) t t1 := by
  unfold tX10_takeOne at H
  have hF_t : Sm (fun b => b = 218) t t := Sm.rf
  obtain ⟨js2, E3, H⟩ := am_bd H
  clear E3
  obtain ⟨tt6, E7, H⟩ := am_bd H
  have hF_tt6 : Sm (fun b => b = 218) t tt6 := by
    clear H
    have H := E7
    clear E7
    split at H
    · obtain rfl := Option.some.inj H
      exact hF_t
    · split at H
      · obtain rfl := Option.some.inj H
        exact hF_t
      · obtain ⟨tt9, e8, H⟩ := am_bd H
        have hF_tt9 := hF_t.tr ((wX10_wrong e8).mono (S' := fun b => b = 218) (fun b hb => (by have hb : b = 218 := hb; show b = 218; omega)))
        obtain rfl := Option.some.inj H
        exact hF_tt9
  clear E7
  obtain ⟨js13, E14, H⟩ := am_bd H
  clear E14
  obtain ⟨tt16, et17, H⟩ := am_bd H
  have hF_tt16 := hF_tt6.tr (sm_I (S := fun b => b = 218) et17 (show 218 = 218 by omega))
  obtain ⟨js19, E20, H⟩ := am_bd H
  clear E20
  obtain ⟨rfl, rfl⟩ := am_inj2 H
  exact hF_tt16
set_option maxHeartbeats 4000000 in
theorem wX10_readName {a1 : Int32} {a2 : Int32} {a3 : Int32} {t : tS} {t1 : tS} (H : tX10_readName a1 a2 a3 t = some t1) : Sm (fun b => b = 218 ∨ b = 224 ∨ b = 228 ∨ b = 230) t t1 := by
  unfold tX10_readName at H
  have hF_t : Sm (fun b => b = 218 ∨ b = 224 ∨ b = 228 ∨ b = 230) t t := Sm.rf
  obtain ⟨x2, _, H⟩ := am_bd H
  split at H
  · obtain ⟨tt5, et6, H⟩ := am_bd H
    have hF_tt5 := hF_t.tr (sm_I (S := fun b => b = 218 ∨ b = 224 ∨ b = 228 ∨ b = 230) et6 (show 218 = 218 ∨ 218 = 224 ∨ 218 = 228 ∨ 218 = 230 by omega))
    obtain ⟨x8, _, H⟩ := am_bd H
    obtain ⟨tt10, E11, H⟩ := am_bd H
    have hF_tt10 : Sm (fun b => b = 218 ∨ b = 224 ∨ b = 228 ∨ b = 230) t tt10 := by
      clear H
      have H := E11
      clear E11
      split at H
      · obtain ⟨x13, _, H⟩ := am_bd H
        split at H
        · obtain rfl := Option.some.inj H
          exact hF_tt5
        · obtain ⟨tt15, e14, H⟩ := am_bd H
          have hF_tt15 := hF_tt5.tr ((wX10_wrong e14).mono (S' := fun b => b = 218 ∨ b = 224 ∨ b = 228 ∨ b = 230) (fun b hb => (by have hb : b = 218 := hb; show b = 218 ∨ b = 224 ∨ b = 228 ∨ b = 230; omega)))
          obtain rfl := Option.some.inj H
          exact hF_tt15
      · obtain ⟨tt18, e17, H⟩ := am_bd H
        have hF_tt18 := hF_tt5.tr ((wX10_wrong e17).mono (S' := fun b => b = 218 ∨ b = 224 ∨ b = 228 ∨ b = 230) (fun b hb => (by have hb : b = 218 := hb; show b = 218 ∨ b = 224 ∨ b = 228 ∨ b = 230; omega)))
        obtain rfl := Option.some.inj H
        exact hF_tt18
    clear E11
    obtain ⟨tt22, E23, H⟩ := am_bd H
    have hF_tt22 : Sm (fun b => b = 218 ∨ b = 224 ∨ b = 228 ∨ b = 230) t tt22 := by
      clear H
      have H := E23
      clear E23
      split at H
      · obtain rfl := Option.some.inj H
        exact hF_tt10
      · obtain ⟨x28, _, H⟩ := am_bd H
        obtain ⟨tt30, e31, H⟩ := am_bd H
        have hF_tt30 := hF_tt10.tr (sm_WB (S := fun b => b = 218 ∨ b = 224 ∨ b = 228 ∨ b = 230) e31 (show 228 = 218 ∨ 228 = 224 ∨ 228 = 228 ∨ 228 = 230 by omega))
        obtain ⟨tt35, e36, H⟩ := am_bd H
        have hF_tt35 := hF_tt30.tr (sm_WA (S := fun b => b = 218 ∨ b = 224 ∨ b = 228 ∨ b = 230) e36 (show 230 = 218 ∨ 230 = 224 ∨ 230 = 228 ∨ 230 = 230 by omega))
        obtain ⟨tt39, et40, H⟩ := am_bd H
        have hF_tt39 := hF_tt35.tr (sm_I (S := fun b => b = 218 ∨ b = 224 ∨ b = 228 ∨ b = 230) et40 (show 218 = 218 ∨ 218 = 224 ∨ 218 = 228 ∨ 218 = 230 by omega))
        obtain ⟨tt43, et44, H⟩ := am_bd H
        have hF_tt43 := hF_tt39.tr (sm_I (S := fun b => b = 218 ∨ b = 224 ∨ b = 228 ∨ b = 230) et44 (show 218 = 218 ∨ 218 = 224 ∨ 218 = 228 ∨ 218 = 230 by omega))
        obtain ⟨x46, _, H⟩ := am_bd H
        obtain ⟨tt48, e49, H⟩ := am_bd H
        have hF_tt48 := hF_tt43.tr (sm_WA (S := fun b => b = 218 ∨ b = 224 ∨ b = 228 ∨ b = 230) e49 (show 224 = 218 ∨ 224 = 224 ∨ 224 = 228 ∨ 224 = 230 by omega))
        obtain rfl := Option.some.inj H
        exact hF_tt48
    clear E23
    obtain rfl := Option.some.inj H
    exact hF_tt22
  · obtain ⟨tt51, e50, H⟩ := am_bd H
    have hF_tt51 := hF_t.tr ((wX10_wrong e50).mono (S' := fun b => b = 218 ∨ b = 224 ∨ b = 228 ∨ b = 230) (fun b hb => (by have hb : b = 218 := hb; show b = 218 ∨ b = 224 ∨ b = 228 ∨ b = 230; omega)))
    obtain rfl := Option.some.inj H
    exact hF_tt51
set_option maxHeartbeats 4000000 in
theorem wX10_emit {a1 : Int32} {a2 : Int32} {t : tS} {t1 : tS} (H : tX10_emit a1 a2 t = some t1) : Sm (fun b => b = 218 ∨ b = 225 ∨ b = 226) t t1 := by
  unfold tX10_emit at H
  have hF_t : Sm (fun b => b = 218 ∨ b = 225 ∨ b = 226) t t := Sm.rf
  obtain ⟨tt4, e5, H⟩ := am_bd H
  have hF_tt4 := hF_t.tr (sm_WA (S := fun b => b = 218 ∨ b = 225 ∨ b = 226) e5 (show 225 = 218 ∨ 225 = 225 ∨ 225 = 226 by omega))
  obtain ⟨tt9, e10, H⟩ := am_bd H
  have hF_tt9 := hF_tt4.tr (sm_WA (S := fun b => b = 218 ∨ b = 225 ∨ b = 226) e10 (show 226 = 218 ∨ 226 = 225 ∨ 226 = 226 by omega))
  obtain ⟨tt13, et14, H⟩ := am_bd H
  have hF_tt13 := hF_tt9.tr (sm_I (S := fun b => b = 218 ∨ b = 225 ∨ b = 226) et14 (show 218 = 218 ∨ 218 = 225 ∨ 218 = 226 by omega))
  obtain rfl := Option.some.inj H
  exact hF_tt13
set_option maxHeartbeats 4000000 in
theorem wX10_worthAt_L4 : ∀ (n : Nat) (v2 : Int32) (v3 : Int32) (t : tS) (t1 : tS), tX10_worthAt_L4 n v2 v3 t = some t1 → Sm (fun b => b = 233) t t1 := by
  intro n
  induction n with
  | zero => intro _ _ _ _ H; cases H
  | succ n ih =>
    intro v2 v3 t t1 H
    rw [tX10_worthAt_L4] at H
    have hF_t : Sm (fun b => b = 233) t t := Sm.rf
    obtain ⟨x2, _, H⟩ := am_bd H
    split at H
    · obtain rfl := Option.some.inj H
      exact hF_t
    · obtain ⟨x4, _, H⟩ := am_bd H
      obtain ⟨jv5, tt7, E8, H⟩ := am_bd2 H
      have hF_tt7 : Sm (fun b => b = 233) t tt7 := by
        clear H
        have H := E8
        clear E8
        split at H
        · obtain ⟨js10, E11, H⟩ := am_bd H
          clear E11
          obtain ⟨tt13, e14, H⟩ := am_bd H
          have hF_tt13 := hF_t.tr (sm_WA (S := fun b => b = 233) e14 (show 233 = 233 by omega))
          obtain ⟨rfl, rfl⟩ := am_inj2 H
          exact hF_tt13
        · split at H
          · split at H
            · obtain ⟨x17, _, H⟩ := am_bd H
              obtain ⟨x19, _, H⟩ := am_bd H
              obtain ⟨x21, _, H⟩ := am_bd H
              obtain ⟨tt23, e24, H⟩ := am_bd H
              have hF_tt23 := hF_t.tr (sm_WA (S := fun b => b = 233) e24 (show 233 = 233 by omega))
              obtain ⟨rfl, rfl⟩ := am_inj2 H
              exact hF_tt23
            · obtain ⟨x27, _, H⟩ := am_bd H
              obtain ⟨js28, E29, H⟩ := am_bd H
              clear E29
              obtain ⟨tt31, e32, H⟩ := am_bd H
              have hF_tt31 := hF_t.tr (sm_WA (S := fun b => b = 233) e32 (show 233 = 233 by omega))
              obtain ⟨rfl, rfl⟩ := am_inj2 H
              exact hF_tt31
          · obtain ⟨js34, E35, H⟩ := am_bd H
            clear E35
            obtain ⟨tt37, e38, H⟩ := am_bd H
            have hF_tt37 := hF_t.tr (sm_WA (S := fun b => b = 233) e38 (show 233 = 233 by omega))
            obtain ⟨rfl, rfl⟩ := am_inj2 H
            exact hF_tt37
      clear E8
      exact hF_tt7.tr (ih _ _ _ _ H)
set_option maxHeartbeats 4000000 in
theorem wX10_worthAt {a1 : Int32} {t : tS} {r : Int32} {t1 : tS} (H : tX10_worthAt a1 t = some (r, t1)) : Sm (fun b => b = 233) t t1 := by
  unfold tX10_worthAt at H
  have hF_t : Sm (fun b => b = 233) t t := Sm.rf
  obtain ⟨tt41, E39, H⟩ := am_bd H
  have hF_tt41 := hF_t.tr (Sm.mono (S' := fun b => b = 233) (wX10_worthAt_L4 _ _ _ _ _ E39) (fun b hb => (by have hb : b = 233 := hb; show b = 233; omega)))
  clear E39
  obtain ⟨x43, _, H⟩ := am_bd H
  obtain ⟨rfl, rfl⟩ := am_inj2 H
  exact hF_tt41
set_option maxHeartbeats 4000000 in
theorem wX10_copies_L3 : ∀ (n : Nat) (v1 : Int32) (v2 : Int32) (v3 : Int32) (v4 : Int32) (t : tS) (t1 : tS), tX10_copies_L3 n v1 v2 v3 v4 t = some t1 → Sm (fun b => b = 234) t t1 := by
  intro n
  induction n with
  | zero => intro _ _ _ _ _ _ H; cases H
  | succ n ih =>
    intro v1 v2 v3 v4 t t1 H
    rw [tX10_copies_L3] at H
    have hF_t : Sm (fun b => b = 234) t t := Sm.rf
    split at H
    · obtain rfl := Option.some.inj H
      exact hF_t
    · obtain ⟨x3, _, H⟩ := am_bd H
      obtain ⟨tt5, e6, H⟩ := am_bd H
      have hF_tt5 := hF_t.tr (sm_WA (S := fun b => b = 234) e6 (show 234 = 234 by omega))
      exact hF_tt5.tr (ih _ _ _ _ _ _ H)
set_option maxHeartbeats 4000000 in
theorem wX10_copies {a1 : Int32} {a2 : Int32} {a3 : Int32} {t : tS} {t1 : tS} (H : tX10_copies a1 a2 a3 t = some t1) : Sm (fun b => b = 234) t t1 := by
  unfold tX10_copies at H
  have hF_t : Sm (fun b => b = 234) t t := Sm.rf
  obtain ⟨tt9, E7, H⟩ := am_bd H
  have hF_tt9 := hF_t.tr (Sm.mono (S' := fun b => b = 234) (wX10_copies_L3 _ _ _ _ _ _ _ E7) (fun b hb => (by have hb : b = 234 := hb; show b = 234; omega)))
  clear E7
  obtain rfl := Option.some.inj H
  exact hF_tt9
set_option maxHeartbeats 4000000 in
theorem wX10_keeps_L11 : ∀ (n : Nat) (v1 : Int32) (t : tS) (t1 : tS), tX10_keeps_L11 n v1 t = some t1 → Sm (fun b => b = 234) t t1 := by
  intro n
  induction n with
  | zero => intro _ _ _ H; cases H
  | succ n ih =>
    intro v1 t t1 H
    rw [tX10_keeps_L11] at H
    have hF_t : Sm (fun b => b = 234) t t := Sm.rf
    split at H
    · obtain rfl := Option.some.inj H
      exact hF_t
    · obtain ⟨tt6, e5, H⟩ := am_bd H
      have hF_tt6 := hF_t.tr ((wX10_copies e5).mono (S' := fun b => b = 234) (fun b hb => (by have hb : b = 234 := hb; show b = 234; omega)))
      exact hF_tt6.tr (ih _ _ _ H)
set_option maxHeartbeats 4000000 in
theorem wX10_keeps  {t : tS} {t1 : tS} (H : tX10_keeps  t = some t1) : Sm (fun b => b = 218 ∨ b = 234) t t1 := by
  unfold tX10_keeps at H
  have hF_t : Sm (fun b => b = 218 ∨ b = 234) t t := Sm.rf
  obtain ⟨tt3, E4, H⟩ := am_bd H
  have hF_tt3 : Sm (fun b => b = 218 ∨ b = 234) t tt3 := by
    clear H
    have H := E4
    clear E4
    split at H
    · obtain rfl := Option.some.inj H
      exact hF_t
    · obtain ⟨tt10, E8, H⟩ := am_bd H
      have hF_tt10 := hF_t.tr (Sm.mono (S' := fun b => b = 218 ∨ b = 234) (wX10_keeps_L11 _ _ _ _ E8) (fun b hb => (by have hb : b = 234 := hb; show b = 218 ∨ b = 234; omega)))
      clear E8
      obtain ⟨tt13, et14, H⟩ := am_bd H
      have hF_tt13 := hF_tt10.tr (sm_I (S := fun b => b = 218 ∨ b = 234) et14 (show 218 = 218 ∨ 218 = 234 by omega))
      obtain rfl := Option.some.inj H
      exact hF_tt13
  clear E4
  obtain ⟨tt17, e16, H⟩ := am_bd H
  have hF_tt17 := hF_tt3.tr ((wX10_copies e16).mono (S' := fun b => b = 218 ∨ b = 234) (fun b hb => (by have hb : b = 234 := hb; show b = 218 ∨ b = 234; omega)))
  obtain ⟨tt21, et22, H⟩ := am_bd H
  have hF_tt21 := hF_tt17.tr (sm_I (S := fun b => b = 218 ∨ b = 234) et22 (show 218 = 218 ∨ 218 = 234 by omega))
  obtain rfl := Option.some.inj H
  exact hF_tt21
set_option maxHeartbeats 4000000 in
theorem wX10_leaves {a1 : Int32} {a2 : Int32} {t : tS} {t1 : tS} (H : tX10_leaves a1 a2 t = some t1) : Sm (fun b => b = 234) t t1 := by
  unfold tX10_leaves at H
  have hF_t : Sm (fun b => b = 234) t t := Sm.rf
  obtain ⟨tt3, e4, H⟩ := am_bd H
  have hF_tt3 := hF_t.tr (sm_WA (S := fun b => b = 234) e4 (show 234 = 234 by omega))
  obtain ⟨tt7, e8, H⟩ := am_bd H
  have hF_tt7 := hF_tt3.tr (sm_WA (S := fun b => b = 234) e8 (show 234 = 234 by omega))
  obtain rfl := Option.some.inj H
  exact hF_tt7
set_option maxHeartbeats 4000000 in
theorem wX10_comes {a1 : Int32} {a2 : Int32} {t : tS} {t1 : tS} (H : tX10_comes a1 a2 t = some t1) : Sm (fun b => b = 218 ∨ b = 232 ∨ b = 233 ∨ b = 234) t t1 := by
  unfold tX10_comes at H
  have hF_t : Sm (fun b => b = 218 ∨ b = 232 ∨ b = 233 ∨ b = 234) t t := Sm.rf
  obtain ⟨x2, _, H⟩ := am_bd H
  split at H
  · obtain ⟨tt5, et6, H⟩ := am_bd H
    have hF_tt5 := hF_t.tr (sm_I (S := fun b => b = 218 ∨ b = 232 ∨ b = 233 ∨ b = 234) et6 (show 218 = 218 ∨ 218 = 232 ∨ 218 = 233 ∨ 218 = 234 by omega))
    obtain ⟨tt9, e10, H⟩ := am_bd H
    have hF_tt9 := hF_tt5.tr (sm_WA (S := fun b => b = 218 ∨ b = 232 ∨ b = 233 ∨ b = 234) e10 (show 234 = 218 ∨ 234 = 232 ∨ 234 = 233 ∨ 234 = 234 by omega))
    obtain ⟨tt13, e14, H⟩ := am_bd H
    have hF_tt13 := hF_tt9.tr (sm_WA (S := fun b => b = 218 ∨ b = 232 ∨ b = 233 ∨ b = 234) e14 (show 234 = 218 ∨ 234 = 232 ∨ 234 = 233 ∨ 234 = 234 by omega))
    obtain ⟨x16, _, H⟩ := am_bd H
    obtain ⟨tt18, e19, H⟩ := am_bd H
    have hF_tt18 := hF_tt13.tr (sm_WA (S := fun b => b = 218 ∨ b = 232 ∨ b = 233 ∨ b = 234) e19 (show 234 = 218 ∨ 234 = 232 ∨ 234 = 233 ∨ 234 = 234 by omega))
    obtain ⟨x21, _, H⟩ := am_bd H
    obtain ⟨tt24, e25, H⟩ := am_bd H
    have hF_tt24 := hF_tt18.tr (sm_WA (S := fun b => b = 218 ∨ b = 232 ∨ b = 233 ∨ b = 234) e25 (show 232 = 218 ∨ 232 = 232 ∨ 232 = 233 ∨ 232 = 234 by omega))
    obtain ⟨x28, _, H⟩ := am_bd H
    obtain ⟨x30, _, H⟩ := am_bd H
    obtain ⟨tt32, e33, H⟩ := am_bd H
    have hF_tt32 := hF_tt24.tr (sm_WA (S := fun b => b = 218 ∨ b = 232 ∨ b = 233 ∨ b = 234) e33 (show 232 = 218 ∨ 232 = 232 ∨ 232 = 233 ∨ 232 = 234 by omega))
    obtain ⟨x36, _, H⟩ := am_bd H
    obtain ⟨q37, _, H⟩ := am_bd H
    obtain ⟨tt39, e40, H⟩ := am_bd H
    have hF_tt39 := hF_tt32.tr (sm_WA (S := fun b => b = 218 ∨ b = 232 ∨ b = 233 ∨ b = 234) e40 (show 232 = 218 ∨ 232 = 232 ∨ 232 = 233 ∨ 232 = 234 by omega))
    obtain ⟨x43, _, H⟩ := am_bd H
    obtain ⟨tt45, e46, H⟩ := am_bd H
    have hF_tt45 := hF_tt39.tr (sm_WA (S := fun b => b = 218 ∨ b = 232 ∨ b = 233 ∨ b = 234) e46 (show 232 = 218 ∨ 232 = 232 ∨ 232 = 233 ∨ 232 = 234 by omega))
    obtain ⟨x48, _, H⟩ := am_bd H
    obtain ⟨js49, tt51, E52, H⟩ := am_bd2 H
    have hF_tt51 : Sm (fun b => b = 218 ∨ b = 232 ∨ b = 233 ∨ b = 234) t tt51 := by
      clear H
      have H := E52
      clear E52
      split at H
      · obtain ⟨x54, _, H⟩ := am_bd H
        obtain ⟨x56, tt57, e55, H⟩ := am_bd2 H
        have hF_tt57 := hF_tt45.tr ((wX10_worthAt e55).mono (S' := fun b => b = 218 ∨ b = 232 ∨ b = 233 ∨ b = 234) (fun b hb => (by have hb : b = 233 := hb; show b = 218 ∨ b = 232 ∨ b = 233 ∨ b = 234; omega)))
        obtain ⟨rfl, rfl⟩ := am_inj2 H
        exact hF_tt57
      · obtain ⟨rfl, rfl⟩ := am_inj2 H
        exact hF_tt45
    clear E52
    obtain ⟨js59, E60, H⟩ := am_bd H
    clear E60
    obtain ⟨js62, E63, H⟩ := am_bd H
    clear E63
    obtain ⟨tt65, e66, H⟩ := am_bd H
    have hF_tt65 := hF_tt51.tr (sm_WA (S := fun b => b = 218 ∨ b = 232 ∨ b = 233 ∨ b = 234) e66 (show 234 = 218 ∨ 234 = 232 ∨ 234 = 233 ∨ 234 = 234 by omega))
    obtain rfl := Option.some.inj H
    exact hF_tt65
  · obtain ⟨tt69, et70, H⟩ := am_bd H
    have hF_tt69 := hF_t.tr (sm_I (S := fun b => b = 218 ∨ b = 232 ∨ b = 233 ∨ b = 234) et70 (show 218 = 218 ∨ 218 = 232 ∨ 218 = 233 ∨ 218 = 234 by omega))
    obtain ⟨x72, _, H⟩ := am_bd H
    obtain ⟨tt74, e75, H⟩ := am_bd H
    have hF_tt74 := hF_tt69.tr (sm_WA (S := fun b => b = 218 ∨ b = 232 ∨ b = 233 ∨ b = 234) e75 (show 234 = 218 ∨ 234 = 232 ∨ 234 = 233 ∨ 234 = 234 by omega))
    obtain rfl := Option.some.inj H
    exact hF_tt74
set_option maxHeartbeats 4000000 in
theorem wX10_passes_L24 : ∀ (n : Nat) (v1 : Int32) (v2 : Int32) (t : tS) (t1 : tS), tX10_passes_L24 n v1 v2 t = some t1 → Sm (fun b => b = 234) t t1 := by
  intro n
  induction n with
  | zero => intro _ _ _ _ H; cases H
  | succ n ih =>
    intro v1 v2 t t1 H
    rw [tX10_passes_L24] at H
    have hF_t : Sm (fun b => b = 234) t t := Sm.rf
    obtain ⟨x13, _, H⟩ := am_bd H
    split at H
    · obtain rfl := Option.some.inj H
      exact hF_t
    · obtain ⟨x15, _, H⟩ := am_bd H
      obtain ⟨tt17, E18, H⟩ := am_bd H
      have hF_tt17 : Sm (fun b => b = 234) t tt17 := by
        clear H
        have H := E18
        clear E18
        split at H
        · obtain rfl := Option.some.inj H
          exact hF_t
        · obtain ⟨x20, _, H⟩ := am_bd H
          obtain ⟨tt22, e23, H⟩ := am_bd H
          have hF_tt22 := hF_t.tr (sm_WA (S := fun b => b = 234) e23 (show 234 = 234 by omega))
          obtain ⟨x25, _, H⟩ := am_bd H
          obtain ⟨x27, _, H⟩ := am_bd H
          split at H
          · obtain rfl := Option.some.inj H
            exact hF_tt22
          · obtain ⟨tt29, e28, H⟩ := am_bd H
            have hF_tt29 := hF_tt22.tr ((wX10_leaves e28).mono (S' := fun b => b = 234) (fun b hb => (by have hb : b = 234 := hb; show b = 234; omega)))
            obtain rfl := Option.some.inj H
            exact hF_tt29
      clear E18
      exact hF_tt17.tr (ih _ _ _ _ H)
set_option maxHeartbeats 4000000 in
theorem wX10_passes_L95 : ∀ (n : Nat) (v1 : Int32) (v2 : Int32) (t : tS) (t1 : tS), tX10_passes_L95 n v1 v2 t = some t1 → Sm (fun b => b = 218 ∨ b = 232 ∨ b = 233 ∨ b = 234) t t1 := by
  intro n
  induction n with
  | zero => intro _ _ _ _ H; cases H
  | succ n ih =>
    intro v1 v2 t t1 H
    rw [tX10_passes_L95] at H
    have hF_t : Sm (fun b => b = 218 ∨ b = 232 ∨ b = 233 ∨ b = 234) t t := Sm.rf
    obtain ⟨x35, _, H⟩ := am_bd H
    split at H
    · obtain rfl := Option.some.inj H
      exact hF_t
    · obtain ⟨x37, _, H⟩ := am_bd H
      obtain ⟨tt39, E40, H⟩ := am_bd H
      have hF_tt39 : Sm (fun b => b = 218 ∨ b = 232 ∨ b = 233 ∨ b = 234) t tt39 := by
        clear H
        have H := E40
        clear E40
        split at H
        · obtain rfl := Option.some.inj H
          exact hF_t
        · obtain ⟨x42, _, H⟩ := am_bd H
          split at H
          · obtain rfl := Option.some.inj H
            exact hF_t
          · obtain ⟨x44, _, H⟩ := am_bd H
            split at H
            · obtain rfl := Option.some.inj H
              exact hF_t
            · obtain ⟨tt46, e45, H⟩ := am_bd H
              have hF_tt46 := hF_t.tr ((wX10_comes e45).mono (S' := fun b => b = 218 ∨ b = 232 ∨ b = 233 ∨ b = 234) (fun b hb => (by have hb : b = 218 ∨ b = 232 ∨ b = 233 ∨ b = 234 := hb; show b = 218 ∨ b = 232 ∨ b = 233 ∨ b = 234; omega)))
              obtain rfl := Option.some.inj H
              exact hF_tt46
      clear E40
      exact hF_tt39.tr (ih _ _ _ _ H)
set_option maxHeartbeats 4000000 in
theorem wX10_passes {a1 : Int32} {t : tS} {t1 : tS} (H : tX10_passes a1 t = some t1) : Sm (fun b => b = 218 ∨ b = 232 ∨ b = 233 ∨ b = 234) t t1 := by
  unfold tX10_passes at H
  have hF_t : Sm (fun b => b = 218 ∨ b = 232 ∨ b = 233 ∨ b = 234) t t := Sm.rf
  obtain ⟨x2, _, H⟩ := am_bd H
  obtain ⟨tt4, e5, H⟩ := am_bd H
  have hF_tt4 := hF_t.tr (sm_WA (S := fun b => b = 218 ∨ b = 232 ∨ b = 233 ∨ b = 234) e5 (show 234 = 218 ∨ 234 = 232 ∨ 234 = 233 ∨ 234 = 234 by omega))
  obtain ⟨tt7, et8, H⟩ := am_bd H
  have hF_tt7 := hF_tt4.tr (sm_I (S := fun b => b = 218 ∨ b = 232 ∨ b = 233 ∨ b = 234) et8 (show 218 = 218 ∨ 218 = 232 ∨ 218 = 233 ∨ 218 = 234 by omega))
  obtain ⟨tt10, et11, H⟩ := am_bd H
  have hF_tt10 := hF_tt7.tr (sm_I (S := fun b => b = 218 ∨ b = 232 ∨ b = 233 ∨ b = 234) et11 (show 218 = 218 ∨ 218 = 232 ∨ 218 = 233 ∨ 218 = 234 by omega))
  obtain ⟨tt33, E31, H⟩ := am_bd H
  have hF_tt33 := hF_tt10.tr (Sm.mono (S' := fun b => b = 218 ∨ b = 232 ∨ b = 233 ∨ b = 234) (wX10_passes_L24 _ _ _ _ _ E31) (fun b hb => (by have hb : b = 234 := hb; show b = 218 ∨ b = 232 ∨ b = 233 ∨ b = 234; omega)))
  clear E31
  obtain ⟨tt50, E48, H⟩ := am_bd H
  have hF_tt50 := hF_tt33.tr (Sm.mono (S' := fun b => b = 218 ∨ b = 232 ∨ b = 233 ∨ b = 234) (wX10_passes_L95 _ _ _ _ _ E48) (fun b hb => (by have hb : b = 218 ∨ b = 232 ∨ b = 233 ∨ b = 234 := hb; show b = 218 ∨ b = 232 ∨ b = 233 ∨ b = 234; omega)))
  clear E48
  obtain rfl := Option.some.inj H
  exact hF_tt50
set_option maxHeartbeats 4000000 in
theorem wX10_house {a1 : Int32} {a2 : Int32} {t : tS} {r : Int32} {t1 : tS} (H : tX10_house a1 a2 t = some (r, t1)) : Sm (fun b => b = 218) t t1 := by
  unfold tX10_house at H
  have hF_t : Sm (fun b => b = 218) t t := Sm.rf
  obtain ⟨tt2, et3, H⟩ := am_bd H
  have hF_tt2 := hF_t.tr (sm_I (S := fun b => b = 218) et3 (show 218 = 218 by omega))
  obtain ⟨x5, _, H⟩ := am_bd H
  split at H
  · obtain ⟨rfl, rfl⟩ := am_inj2 H
    exact hF_tt2
  · obtain ⟨x7, _, H⟩ := am_bd H
    split at H
    · split at H
      · obtain ⟨x9, _, H⟩ := am_bd H
        obtain ⟨rfl, rfl⟩ := am_inj2 H
        exact hF_tt2
      · obtain ⟨_, _, H⟩ := am_bd H
        split at H
        · obtain ⟨x11, _, H⟩ := am_bd H
          obtain ⟨rfl, rfl⟩ := am_inj2 H
          exact hF_tt2
        · skip
          split at H
          · obtain ⟨x13, _, H⟩ := am_bd H
            obtain ⟨rfl, rfl⟩ := am_inj2 H
            exact hF_tt2
          · skip
            split at H
            · obtain ⟨x15, _, H⟩ := am_bd H
              obtain ⟨rfl, rfl⟩ := am_inj2 H
              exact hF_tt2
            · skip
              split at H
              · obtain ⟨x17, _, H⟩ := am_bd H
                obtain ⟨rfl, rfl⟩ := am_inj2 H
                exact hF_tt2
              · skip
                cases H
    · obtain ⟨rfl, rfl⟩ := am_inj2 H
      exact hF_tt2
set_option maxHeartbeats 4000000 in
theorem wX10_day {a1 : Int32} {a2 : Int32} {t : tS} {r : Int32} {t1 : tS} (H : tX10_day a1 a2 t = some (r, t1)) : Sm (fun b => b = 218) t t1 := by
  unfold tX10_day at H
  have hF_t : Sm (fun b => b = 218) t t := Sm.rf
  obtain ⟨tt2, et3, H⟩ := am_bd H
  have hF_tt2 := hF_t.tr (sm_I (S := fun b => b = 218) et3 (show 218 = 218 by omega))
  obtain ⟨x5, _, H⟩ := am_bd H
  split at H
  · obtain ⟨rfl, rfl⟩ := am_inj2 H
    exact hF_tt2
  · obtain ⟨x7, _, H⟩ := am_bd H
    split at H
    · split at H
      · obtain ⟨x9, _, H⟩ := am_bd H
        obtain ⟨rfl, rfl⟩ := am_inj2 H
        exact hF_tt2
      · obtain ⟨_, _, H⟩ := am_bd H
        split at H
        · obtain ⟨x11, _, H⟩ := am_bd H
          obtain ⟨rfl, rfl⟩ := am_inj2 H
          exact hF_tt2
        · skip
          split at H
          · obtain ⟨x13, _, H⟩ := am_bd H
            obtain ⟨rfl, rfl⟩ := am_inj2 H
            exact hF_tt2
          · skip
            split at H
            · obtain ⟨x15, _, H⟩ := am_bd H
              obtain ⟨rfl, rfl⟩ := am_inj2 H
              exact hF_tt2
            · skip
              split at H
              · obtain ⟨x17, _, H⟩ := am_bd H
                obtain ⟨rfl, rfl⟩ := am_inj2 H
                exact hF_tt2
              · skip
                split at H
                · obtain ⟨x19, _, H⟩ := am_bd H
                  obtain ⟨rfl, rfl⟩ := am_inj2 H
                  exact hF_tt2
                · skip
                  cases H
    · obtain ⟨rfl, rfl⟩ := am_inj2 H
      exact hF_tt2
set_option maxHeartbeats 4000000 in
theorem wX10_date  {t : tS} {r : Int32} {t1 : tS} (H : tX10_date  t = some (r, t1)) : Sm (fun b => b = 218 ∨ b = 232 ∨ b = 233 ∨ b = 234) t t1 := by
  unfold tX10_date at H
  have hF_t : Sm (fun b => b = 218 ∨ b = 232 ∨ b = 233 ∨ b = 234) t t := Sm.rf
  obtain ⟨tt2, et3, H⟩ := am_bd H
  have hF_tt2 := hF_t.tr (sm_I (S := fun b => b = 218 ∨ b = 232 ∨ b = 233 ∨ b = 234) et3 (show 218 = 218 ∨ 218 = 232 ∨ 218 = 233 ∨ 218 = 234 by omega))
  obtain ⟨tt5, e4, H⟩ := am_bd H
  have hF_tt5 := hF_tt2.tr ((wX10_keeps e4).mono (S' := fun b => b = 218 ∨ b = 232 ∨ b = 233 ∨ b = 234) (fun b hb => (by have hb : b = 218 ∨ b = 234 := hb; show b = 218 ∨ b = 232 ∨ b = 233 ∨ b = 234; omega)))
  obtain ⟨tt8, e7, H⟩ := am_bd H
  have hF_tt8 := hF_tt5.tr ((wX10_passes e7).mono (S' := fun b => b = 218 ∨ b = 232 ∨ b = 233 ∨ b = 234) (fun b hb => (by have hb : b = 218 ∨ b = 232 ∨ b = 233 ∨ b = 234 := hb; show b = 218 ∨ b = 232 ∨ b = 233 ∨ b = 234; omega)))
  obtain ⟨rfl, rfl⟩ := am_inj2 H
  exact hF_tt8
set_option maxHeartbeats 4000000 in
theorem wX10_move {a1 : Int32} {a2 : Int32} {t : tS} {r : Int32} {t1 : tS} (H : tX10_move a1 a2 t = some (r, t1)) : Sm (fun b => b = 218 ∨ b = 234) t t1 := by
  unfold tX10_move at H
  have hF_t : Sm (fun b => b = 218 ∨ b = 234) t t := Sm.rf
  obtain ⟨tt2, et3, H⟩ := am_bd H
  have hF_tt2 := hF_t.tr (sm_I (S := fun b => b = 218 ∨ b = 234) et3 (show 218 = 218 ∨ 218 = 234 by omega))
  obtain ⟨x5, _, H⟩ := am_bd H
  split at H
  · obtain ⟨rfl, rfl⟩ := am_inj2 H
    exact hF_tt2
  · obtain ⟨x7, _, H⟩ := am_bd H
    split at H
    · obtain ⟨rfl, rfl⟩ := am_inj2 H
      exact hF_tt2
    · obtain ⟨x9, _, H⟩ := am_bd H
      split at H
      · obtain ⟨tt11, e10, H⟩ := am_bd H
        have hF_tt11 := hF_tt2.tr ((wX10_keeps e10).mono (S' := fun b => b = 218 ∨ b = 234) (fun b hb => (by have hb : b = 218 ∨ b = 234 := hb; show b = 218 ∨ b = 234; omega)))
        obtain ⟨tt15, e16, H⟩ := am_bd H
        have hF_tt15 := hF_tt11.tr (sm_WA (S := fun b => b = 218 ∨ b = 234) e16 (show 234 = 218 ∨ 234 = 234 by omega))
        obtain ⟨rfl, rfl⟩ := am_inj2 H
        exact hF_tt15
      · obtain ⟨rfl, rfl⟩ := am_inj2 H
        exact hF_tt2
set_option maxHeartbeats 4000000 in
theorem wX10_send {a1 : Int32} {t : tS} {r : Int32} {t1 : tS} (H : tX10_send a1 t = some (r, t1)) : Sm (fun b => b = 218 ∨ b = 234) t t1 := by
  unfold tX10_send at H
  have hF_t : Sm (fun b => b = 218 ∨ b = 234) t t := Sm.rf
  obtain ⟨tt2, et3, H⟩ := am_bd H
  have hF_tt2 := hF_t.tr (sm_I (S := fun b => b = 218 ∨ b = 234) et3 (show 218 = 218 ∨ 218 = 234 by omega))
  obtain ⟨x5, _, H⟩ := am_bd H
  split at H
  · obtain ⟨rfl, rfl⟩ := am_inj2 H
    exact hF_tt2
  · obtain ⟨x7, _, H⟩ := am_bd H
    split at H
    · obtain ⟨tt9, e8, H⟩ := am_bd H
      have hF_tt9 := hF_tt2.tr ((wX10_keeps e8).mono (S' := fun b => b = 218 ∨ b = 234) (fun b hb => (by have hb : b = 218 ∨ b = 234 := hb; show b = 218 ∨ b = 234; omega)))
      obtain ⟨tt12, e11, H⟩ := am_bd H
      have hF_tt12 := hF_tt9.tr ((wX10_leaves e11).mono (S' := fun b => b = 218 ∨ b = 234) (fun b hb => (by have hb : b = 234 := hb; show b = 218 ∨ b = 234; omega)))
      obtain ⟨rfl, rfl⟩ := am_inj2 H
      exact hF_tt12
    · obtain ⟨rfl, rfl⟩ := am_inj2 H
      exact hF_tt2
set_option maxHeartbeats 4000000 in
theorem wX10_build {a1 : Int32} {t : tS} {r : Int32} {t1 : tS} (H : tX10_build a1 t = some (r, t1)) : Sm (fun b => b = 218 ∨ b = 234) t t1 := by
  unfold tX10_build at H
  have hF_t : Sm (fun b => b = 218 ∨ b = 234) t t := Sm.rf
  obtain ⟨tt2, et3, H⟩ := am_bd H
  have hF_tt2 := hF_t.tr (sm_I (S := fun b => b = 218 ∨ b = 234) et3 (show 218 = 218 ∨ 218 = 234 by omega))
  obtain ⟨x5, _, H⟩ := am_bd H
  split at H
  · obtain ⟨rfl, rfl⟩ := am_inj2 H
    exact hF_tt2
  · obtain ⟨x7, _, H⟩ := am_bd H
    split at H
    · obtain ⟨tt9, e8, H⟩ := am_bd H
      have hF_tt9 := hF_tt2.tr ((wX10_keeps e8).mono (S' := fun b => b = 218 ∨ b = 234) (fun b hb => (by have hb : b = 218 ∨ b = 234 := hb; show b = 218 ∨ b = 234; omega)))
      obtain ⟨x12, _, H⟩ := am_bd H
      obtain ⟨tt14, e15, H⟩ := am_bd H
      have hF_tt14 := hF_tt9.tr (sm_WA (S := fun b => b = 218 ∨ b = 234) e15 (show 234 = 218 ∨ 234 = 234 by omega))
      obtain ⟨x17, _, H⟩ := am_bd H
      obtain ⟨rfl, rfl⟩ := am_inj2 H
      exact hF_tt14
    · obtain ⟨rfl, rfl⟩ := am_inj2 H
      exact hF_tt2
set_option maxHeartbeats 4000000 in
theorem wX10_undo  {t : tS} {r : Int32} {t1 : tS} (H : tX10_undo  t = some (r, t1)) : Sm (fun b => b = 218 ∨ b = 234) t t1 := by
  unfold tX10_undo at H
  have hF_t : Sm (fun b => b = 218 ∨ b = 234) t t := Sm.rf
  obtain ⟨tt2, et3, H⟩ := am_bd H
  have hF_tt2 := hF_t.tr (sm_I (S := fun b => b = 218 ∨ b = 234) et3 (show 218 = 218 ∨ 218 = 234 by omega))
  split at H
  · obtain ⟨tt7, et8, H⟩ := am_bd H
    have hF_tt7 := hF_tt2.tr (sm_I (S := fun b => b = 218 ∨ b = 234) et8 (show 218 = 218 ∨ 218 = 234 by omega))
    obtain ⟨tt11, e10, H⟩ := am_bd H
    have hF_tt11 := hF_tt7.tr ((wX10_copies e10).mono (S' := fun b => b = 218 ∨ b = 234) (fun b hb => (by have hb : b = 234 := hb; show b = 218 ∨ b = 234; omega)))
    obtain ⟨rfl, rfl⟩ := am_inj2 H
    exact hF_tt11
  · obtain ⟨rfl, rfl⟩ := am_inj2 H
    exact hF_tt2
set_option maxHeartbeats 4000000 in
theorem wX10_triesNow  {t : tS} {t1 : tS} (H : tX10_triesNow  t = some t1) : Sm (fun b => b = 234) t t1 := by
  unfold tX10_triesNow at H
  have hF_t : Sm (fun b => b = 234) t t := Sm.rf
  obtain ⟨tt2, e1, H⟩ := am_bd H
  have hF_tt2 := hF_t.tr ((wX10_copies e1).mono (S' := fun b => b = 234) (fun b hb => (by have hb : b = 234 := hb; show b = 234; omega)))
  obtain rfl := Option.some.inj H
  exact hF_tt2
set_option maxHeartbeats 4000000 in
theorem wX10_where_L32 : ∀ (n : Nat) (v1 : Int32) (v2 : Int32) (v3 : Int32) (t : tS) (t1 : tS), tX10_where_L32 n v1 v2 v3 t = some t1 → Sm (fun b => b = 218 ∨ b = 232 ∨ b = 233 ∨ b = 234) t t1 := by
  intro n
  induction n with
  | zero => intro _ _ _ _ _ H; cases H
  | succ n ih =>
    intro v1 v2 v3 t t1 H
    rw [tX10_where_L32] at H
    have hF_t : Sm (fun b => b = 218 ∨ b = 232 ∨ b = 233 ∨ b = 234) t t := Sm.rf
    split at H
    · obtain rfl := Option.some.inj H
      exact hF_t
    · obtain ⟨tt12, e11, H⟩ := am_bd H
      have hF_tt12 := hF_t.tr ((wX10_passes e11).mono (S' := fun b => b = 218 ∨ b = 232 ∨ b = 233 ∨ b = 234) (fun b hb => (by have hb : b = 218 ∨ b = 232 ∨ b = 233 ∨ b = 234 := hb; show b = 218 ∨ b = 232 ∨ b = 233 ∨ b = 234; omega)))
      exact hF_tt12.tr (ih _ _ _ _ _ H)
set_option maxHeartbeats 4000000 in
theorem wX10_where {a1 : Int32} {a2 : Int32} {t : tS} {r : Int32} {t1 : tS} (H : tX10_where a1 a2 t = some (r, t1)) : Sm (fun b => b = 218 ∨ b = 232 ∨ b = 233 ∨ b = 234) t t1 := by
  unfold tX10_where at H
  have hF_t : Sm (fun b => b = 218 ∨ b = 232 ∨ b = 233 ∨ b = 234) t t := Sm.rf
  obtain ⟨tt2, et3, H⟩ := am_bd H
  have hF_tt2 := hF_t.tr (sm_I (S := fun b => b = 218 ∨ b = 232 ∨ b = 233 ∨ b = 234) et3 (show 218 = 218 ∨ 218 = 232 ∨ 218 = 233 ∨ 218 = 234 by omega))
  obtain ⟨x5, _, H⟩ := am_bd H
  split at H
  · obtain ⟨rfl, rfl⟩ := am_inj2 H
    exact hF_tt2
  · obtain ⟨x7, _, H⟩ := am_bd H
    split at H
    · obtain ⟨tt9, e8, H⟩ := am_bd H
      have hF_tt9 := hF_tt2.tr ((wX10_triesNow e8).mono (S' := fun b => b = 218 ∨ b = 232 ∨ b = 233 ∨ b = 234) (fun b hb => (by have hb : b = 234 := hb; show b = 218 ∨ b = 232 ∨ b = 233 ∨ b = 234; omega)))
      obtain ⟨tt16, E14, H⟩ := am_bd H
      have hF_tt16 := hF_tt9.tr (Sm.mono (S' := fun b => b = 218 ∨ b = 232 ∨ b = 233 ∨ b = 234) (wX10_where_L32 _ _ _ _ _ _ E14) (fun b hb => (by have hb : b = 218 ∨ b = 232 ∨ b = 233 ∨ b = 234 := hb; show b = 218 ∨ b = 232 ∨ b = 233 ∨ b = 234; omega)))
      clear E14
      obtain ⟨x18, _, H⟩ := am_bd H
      obtain ⟨rfl, rfl⟩ := am_inj2 H
      exact hF_tt16
    · obtain ⟨rfl, rfl⟩ := am_inj2 H
      exact hF_tt2
set_option maxHeartbeats 4000000 in
theorem wX10_next_L11 : ∀ (n : Nat) (v1 : Int32) (v2 : Int32) (t : tS) (o : (tS) ⊕ (Int32 × tS)), tX10_next_L11 n v1 v2 t = some o → (match o with
    | .inl t1 => Sm (fun b => b = 218 ∨ b = 232 ∨ b = 233 ∨ b = 234) t t1
    | .inr (_, t2) => Sm (fun b => b = 218 ∨ b = 232 ∨ b = 233 ∨ b = 234) t t2) := by
  intro n
  induction n with
  | zero => intro _ _ _ _ H; cases H
  | succ n ih =>
    intro v1 v2 t o H
    rw [tX10_next_L11] at H
    have hF_t : Sm (fun b => b = 218 ∨ b = 232 ∨ b = 233 ∨ b = 234) t t := Sm.rf
    split at H
    · obtain rfl := Option.some.inj H
      exact hF_t
    · obtain ⟨x8, _, H⟩ := am_bd H
      split at H
      · obtain rfl := Option.some.inj H
        exact hF_t
      · obtain ⟨tt10, e9, H⟩ := am_bd H
        have hF_tt10 := hF_t.tr ((wX10_passes e9).mono (S' := fun b => b = 218 ∨ b = 232 ∨ b = 233 ∨ b = 234) (fun b hb => (by have hb : b = 218 ∨ b = 232 ∨ b = 233 ∨ b = 234 := hb; show b = 218 ∨ b = 232 ∨ b = 233 ∨ b = 234; omega)))
        split at H
        · have hI := ih _ _ _ _ H
          rcases o with _ | _
          · exact hF_tt10.tr hI
          · exact hF_tt10.tr hI
        · obtain rfl := Option.some.inj H
          exact hF_tt10
set_option maxHeartbeats 4000000 in
theorem wX10_next {a1 : Int32} {t : tS} {r : Int32} {t1 : tS} (H : tX10_next a1 t = some (r, t1)) : Sm (fun b => b = 218 ∨ b = 232 ∨ b = 233 ∨ b = 234) t t1 := by
  unfold tX10_next at H
  have hF_t : Sm (fun b => b = 218 ∨ b = 232 ∨ b = 233 ∨ b = 234) t t := Sm.rf
  obtain ⟨tt2, et3, H⟩ := am_bd H
  have hF_tt2 := hF_t.tr (sm_I (S := fun b => b = 218 ∨ b = 232 ∨ b = 233 ∨ b = 234) et3 (show 218 = 218 ∨ 218 = 232 ∨ 218 = 233 ∨ 218 = 234 by omega))
  obtain ⟨tt5, e4, H⟩ := am_bd H
  have hF_tt5 := hF_tt2.tr ((wX10_triesNow e4).mono (S' := fun b => b = 218 ∨ b = 232 ∨ b = 233 ∨ b = 234) (fun b hb => (by have hb : b = 234 := hb; show b = 218 ∨ b = 232 ∨ b = 233 ∨ b = 234; omega)))
  obtain ⟨o17, E14, H⟩ := am_bd H
  have hL := wX10_next_L11 _ _ _ _ _ E14
  rcases o17 with tt16 | ⟨_, y18⟩
  · dsimp only at H
    have hF_tt16 := hF_tt5.tr (Sm.mono (S' := fun b => b = 218 ∨ b = 232 ∨ b = 233 ∨ b = 234) hL (fun b hb => (by have hb : b = 218 ∨ b = 232 ∨ b = 233 ∨ b = 234 := hb; show b = 218 ∨ b = 232 ∨ b = 233 ∨ b = 234; omega)))
    obtain ⟨rfl, rfl⟩ := am_inj2 H
    exact hF_tt16
  · dsimp only at H
    obtain ⟨rfl, rfl⟩ := am_inj2 H
    exact hF_tt5.tr (Sm.mono (S' := fun b => b = 218 ∨ b = 232 ∨ b = 233 ∨ b = 234) hL (fun b hb => (by have hb : b = 218 ∨ b = 232 ∨ b = 233 ∨ b = 234 := hb; show b = 218 ∨ b = 232 ∨ b = 233 ∨ b = 234; omega)))
set_option maxHeartbeats 4000000 in
theorem wX10_gone_L11 : ∀ (n : Nat) (v1 : Int32) (v2 : Int32) (t : tS) (o : (tS) ⊕ (Int32 × tS)), tX10_gone_L11 n v1 v2 t = some o → (match o with
    | .inl t1 => Sm (fun b => b = 218 ∨ b = 232 ∨ b = 233 ∨ b = 234) t t1
    | .inr (_, t2) => Sm (fun b => b = 218 ∨ b = 232 ∨ b = 233 ∨ b = 234) t t2) := by
  intro n
  induction n with
  | zero => intro _ _ _ _ H; cases H
  | succ n ih =>
    intro v1 v2 t o H
    rw [tX10_gone_L11] at H
    have hF_t : Sm (fun b => b = 218 ∨ b = 232 ∨ b = 233 ∨ b = 234) t t := Sm.rf
    split at H
    · obtain rfl := Option.some.inj H
      exact hF_t
    · obtain ⟨x8, _, H⟩ := am_bd H
      split at H
      · obtain rfl := Option.some.inj H
        exact hF_t
      · obtain ⟨x10, _, H⟩ := am_bd H
        split at H
        · obtain ⟨tt12, e11, H⟩ := am_bd H
          have hF_tt12 := hF_t.tr ((wX10_passes e11).mono (S' := fun b => b = 218 ∨ b = 232 ∨ b = 233 ∨ b = 234) (fun b hb => (by have hb : b = 218 ∨ b = 232 ∨ b = 233 ∨ b = 234 := hb; show b = 218 ∨ b = 232 ∨ b = 233 ∨ b = 234; omega)))
          have hI := ih _ _ _ _ H
          rcases o with _ | _
          · exact hF_tt12.tr hI
          · exact hF_tt12.tr hI
        · obtain rfl := Option.some.inj H
          exact hF_t
set_option maxHeartbeats 4000000 in
theorem wX10_gone {a1 : Int32} {t : tS} {r : Int32} {t1 : tS} (H : tX10_gone a1 t = some (r, t1)) : Sm (fun b => b = 218 ∨ b = 232 ∨ b = 233 ∨ b = 234) t t1 := by
  unfold tX10_gone at H
  have hF_t : Sm (fun b => b = 218 ∨ b = 232 ∨ b = 233 ∨ b = 234) t t := Sm.rf
  obtain ⟨tt2, et3, H⟩ := am_bd H
  have hF_tt2 := hF_t.tr (sm_I (S := fun b => b = 218 ∨ b = 232 ∨ b = 233 ∨ b = 234) et3 (show 218 = 218 ∨ 218 = 232 ∨ 218 = 233 ∨ 218 = 234 by omega))
  obtain ⟨tt5, e4, H⟩ := am_bd H
  have hF_tt5 := hF_tt2.tr ((wX10_triesNow e4).mono (S' := fun b => b = 218 ∨ b = 232 ∨ b = 233 ∨ b = 234) (fun b hb => (by have hb : b = 234 := hb; show b = 218 ∨ b = 232 ∨ b = 233 ∨ b = 234; omega)))
  obtain ⟨o17, E14, H⟩ := am_bd H
  have hL := wX10_gone_L11 _ _ _ _ _ E14
  rcases o17 with tt16 | ⟨_, y18⟩
  · dsimp only at H
    have hF_tt16 := hF_tt5.tr (Sm.mono (S' := fun b => b = 218 ∨ b = 232 ∨ b = 233 ∨ b = 234) hL (fun b hb => (by have hb : b = 218 ∨ b = 232 ∨ b = 233 ∨ b = 234 := hb; show b = 218 ∨ b = 232 ∨ b = 233 ∨ b = 234; omega)))
    obtain ⟨rfl, rfl⟩ := am_inj2 H
    exact hF_tt16
  · dsimp only at H
    obtain ⟨rfl, rfl⟩ := am_inj2 H
    exact hF_tt5.tr (Sm.mono (S' := fun b => b = 218 ∨ b = 232 ∨ b = 233 ∨ b = 234) hL (fun b hb => (by have hb : b = 218 ∨ b = 232 ∨ b = 233 ∨ b = 234 := hb; show b = 218 ∨ b = 232 ∨ b = 233 ∨ b = 234; omega)))
set_option maxHeartbeats 4000000 in
theorem wX10_crowd_L15 : ∀ (n : Nat) (v1 : Int32) (v2 : Int32) (v3 : Int32) (t : tS) (w1 : Int32) (t1 : tS), tX10_crowd_L15 n v1 v2 v3 t = some (w1, t1) → Sm (fun b => b = 218 ∨ b = 232 ∨ b = 233 ∨ b = 234) t t1 := by
  intro n
  induction n with
  | zero => intro _ _ _ _ _ _ H; cases H
  | succ n ih =>
    intro v1 v2 v3 t w1 t1 H
    rw [tX10_crowd_L15] at H
    have hF_t : Sm (fun b => b = 218 ∨ b = 232 ∨ b = 233 ∨ b = 234) t t := Sm.rf
    split at H
    · obtain ⟨rfl, rfl⟩ := am_inj2 H
      exact hF_t
    · obtain ⟨x8, _, H⟩ := am_bd H
      obtain ⟨x10, _, H⟩ := am_bd H
      obtain ⟨js11, E12, H⟩ := am_bd H
      clear E12
      obtain ⟨js13, E14, H⟩ := am_bd H
      clear E14
      obtain ⟨tt16, e15, H⟩ := am_bd H
      have hF_tt16 := hF_t.tr ((wX10_passes e15).mono (S' := fun b => b = 218 ∨ b = 232 ∨ b = 233 ∨ b = 234) (fun b hb => (by have hb : b = 218 ∨ b = 232 ∨ b = 233 ∨ b = 234 := hb; show b = 218 ∨ b = 232 ∨ b = 233 ∨ b = 234; omega)))
      exact hF_tt16.tr (ih _ _ _ _ _ _ H)
set_option maxHeartbeats 4000000 in
theorem wX10_crowd  {t : tS} {r : Int32} {t1 : tS} (H : tX10_crowd  t = some (r, t1)) : Sm (fun b => b = 218 ∨ b = 232 ∨ b = 233 ∨ b = 234) t t1 := by
  unfold tX10_crowd at H
  have hF_t : Sm (fun b => b = 218 ∨ b = 232 ∨ b = 233 ∨ b = 234) t t := Sm.rf
  obtain ⟨tt2, et3, H⟩ := am_bd H
  have hF_tt2 := hF_t.tr (sm_I (S := fun b => b = 218 ∨ b = 232 ∨ b = 233 ∨ b = 234) et3 (show 218 = 218 ∨ 218 = 232 ∨ 218 = 233 ∨ 218 = 234 by omega))
  obtain ⟨tt5, e4, H⟩ := am_bd H
  have hF_tt5 := hF_tt2.tr ((wX10_triesNow e4).mono (S' := fun b => b = 218 ∨ b = 232 ∨ b = 233 ∨ b = 234) (fun b hb => (by have hb : b = 234 := hb; show b = 218 ∨ b = 232 ∨ b = 233 ∨ b = 234; omega)))
  obtain ⟨lw18, tt21, E19, H⟩ := am_bd2 H
  have hF_tt21 := hF_tt5.tr (Sm.mono (S' := fun b => b = 218 ∨ b = 232 ∨ b = 233 ∨ b = 234) (wX10_crowd_L15 _ _ _ _ _ _ _ E19) (fun b hb => (by have hb : b = 218 ∨ b = 232 ∨ b = 233 ∨ b = 234 := hb; show b = 218 ∨ b = 232 ∨ b = 233 ∨ b = 234; omega)))
  clear E19
  obtain ⟨rfl, rfl⟩ := am_inj2 H
  exact hF_tt21
set_option maxHeartbeats 4000000 in
theorem wX10_refused_L11 : ∀ (n : Nat) (v1 : Int32) (v2 : Int32) (t : tS) (o : (tS) ⊕ (Int32 × tS)), tX10_refused_L11 n v1 v2 t = some o → (match o with
    | .inl t1 => Sm (fun b => b = 218 ∨ b = 232 ∨ b = 233 ∨ b = 234) t t1
    | .inr (_, t2) => Sm (fun b => b = 218 ∨ b = 232 ∨ b = 233 ∨ b = 234) t t2) := by
  intro n
  induction n with
  | zero => intro _ _ _ _ H; cases H
  | succ n ih =>
    intro v1 v2 t o H
    rw [tX10_refused_L11] at H
    have hF_t : Sm (fun b => b = 218 ∨ b = 232 ∨ b = 233 ∨ b = 234) t t := Sm.rf
    split at H
    · obtain rfl := Option.some.inj H
      exact hF_t
    · obtain ⟨x8, _, H⟩ := am_bd H
      split at H
      · obtain rfl := Option.some.inj H
        exact hF_t
      · obtain ⟨tt10, e9, H⟩ := am_bd H
        have hF_tt10 := hF_t.tr ((wX10_passes e9).mono (S' := fun b => b = 218 ∨ b = 232 ∨ b = 233 ∨ b = 234) (fun b hb => (by have hb : b = 218 ∨ b = 232 ∨ b = 233 ∨ b = 234 := hb; show b = 218 ∨ b = 232 ∨ b = 233 ∨ b = 234; omega)))
        split at H
        · have hI := ih _ _ _ _ H
          rcases o with _ | _
          · exact hF_tt10.tr hI
          · exact hF_tt10.tr hI
        · obtain ⟨lw13, E14, H⟩ := am_bd H
          clear E14
          obtain ⟨js15, E16, H⟩ := am_bd H
          clear E16
          obtain rfl := Option.some.inj H
          exact hF_tt10
set_option maxHeartbeats 4000000 in
theorem wX10_refused {a1 : Int32} {t : tS} {r : Int32} {t1 : tS} (H : tX10_refused a1 t = some (r, t1)) : Sm (fun b => b = 218 ∨ b = 232 ∨ b = 233 ∨ b = 234) t t1 := by
  unfold tX10_refused at H
  have hF_t : Sm (fun b => b = 218 ∨ b = 232 ∨ b = 233 ∨ b = 234) t t := Sm.rf
  obtain ⟨tt2, et3, H⟩ := am_bd H
  have hF_tt2 := hF_t.tr (sm_I (S := fun b => b = 218 ∨ b = 232 ∨ b = 233 ∨ b = 234) et3 (show 218 = 218 ∨ 218 = 232 ∨ 218 = 233 ∨ 218 = 234 by omega))
  obtain ⟨tt5, e4, H⟩ := am_bd H
  have hF_tt5 := hF_tt2.tr ((wX10_triesNow e4).mono (S' := fun b => b = 218 ∨ b = 232 ∨ b = 233 ∨ b = 234) (fun b hb => (by have hb : b = 234 := hb; show b = 218 ∨ b = 232 ∨ b = 233 ∨ b = 234; omega)))
  obtain ⟨o20, E17, H⟩ := am_bd H
  have hL := wX10_refused_L11 _ _ _ _ _ E17
  rcases o20 with tt19 | ⟨_, y21⟩
  · dsimp only at H
    have hF_tt19 := hF_tt5.tr (Sm.mono (S' := fun b => b = 218 ∨ b = 232 ∨ b = 233 ∨ b = 234) hL (fun b hb => (by have hb : b = 218 ∨ b = 232 ∨ b = 233 ∨ b = 234 := hb; show b = 218 ∨ b = 232 ∨ b = 233 ∨ b = 234; omega)))
    obtain ⟨rfl, rfl⟩ := am_inj2 H
    exact hF_tt19
  · dsimp only at H
    obtain ⟨rfl, rfl⟩ := am_inj2 H
    exact hF_tt5.tr (Sm.mono (S' := fun b => b = 218 ∨ b = 232 ∨ b = 233 ∨ b = 234) hL (fun b hb => (by have hb : b = 218 ∨ b = 232 ∨ b = 233 ∨ b = 234 := hb; show b = 218 ∨ b = 232 ∨ b = 233 ∨ b = 234; omega)))
set_option maxHeartbeats 4000000 in
theorem wX10_meets_L11 : ∀ (n : Nat) (v1 : Int32) (v2 : Int32) (v3 : Int32) (t : tS) (o : (tS) ⊕ (Int32 × tS)), tX10_meets_L11 n v1 v2 v3 t = some o → (match o with
    | .inl t1 => Sm (fun b => b = 218 ∨ b = 232 ∨ b = 233 ∨ b = 234) t t1
    | .inr (_, t2) => Sm (fun b => b = 218 ∨ b = 232 ∨ b = 233 ∨ b = 234) t t2) := by
  intro n
  induction n with
  | zero => intro _ _ _ _ _ H; cases H
  | succ n ih =>
    intro v1 v2 v3 t o H
    rw [tX10_meets_L11] at H
    have hF_t : Sm (fun b => b = 218 ∨ b = 232 ∨ b = 233 ∨ b = 234) t t := Sm.rf
    split at H
    · obtain rfl := Option.some.inj H
      exact hF_t
    · obtain ⟨x8, _, H⟩ := am_bd H
      split at H
      · obtain rfl := Option.some.inj H
        exact hF_t
      · obtain ⟨x10, _, H⟩ := am_bd H
        split at H
        · obtain rfl := Option.some.inj H
          exact hF_t
        · split at H
          · obtain rfl := Option.some.inj H
            exact hF_t
          · obtain ⟨x12, _, H⟩ := am_bd H
            split at H
            · obtain ⟨tt14, e13, H⟩ := am_bd H
              have hF_tt14 := hF_t.tr ((wX10_passes e13).mono (S' := fun b => b = 218 ∨ b = 232 ∨ b = 233 ∨ b = 234) (fun b hb => (by have hb : b = 218 ∨ b = 232 ∨ b = 233 ∨ b = 234 := hb; show b = 218 ∨ b = 232 ∨ b = 233 ∨ b = 234; omega)))
              have hI := ih _ _ _ _ _ H
              rcases o with _ | _
              · exact hF_tt14.tr hI
              · exact hF_tt14.tr hI
            · obtain ⟨x17, _, H⟩ := am_bd H
              obtain ⟨x19, _, H⟩ := am_bd H
              split at H
              · obtain ⟨tt21, e20, H⟩ := am_bd H
                have hF_tt21 := hF_t.tr ((wX10_passes e20).mono (S' := fun b => b = 218 ∨ b = 232 ∨ b = 233 ∨ b = 234) (fun b hb => (by have hb : b = 218 ∨ b = 232 ∨ b = 233 ∨ b = 234 := hb; show b = 218 ∨ b = 232 ∨ b = 233 ∨ b = 234; omega)))
                have hI := ih _ _ _ _ _ H
                rcases o with _ | _
                · exact hF_tt21.tr hI
                · exact hF_tt21.tr hI
              · obtain rfl := Option.some.inj H
                exact hF_t
set_option maxHeartbeats 4000000 in
theorem wX10_meets {a1 : Int32} {a2 : Int32} {t : tS} {r : Int32} {t1 : tS} (H : tX10_meets a1 a2 t = some (r, t1)) : Sm (fun b => b = 218 ∨ b = 232 ∨ b = 233 ∨ b = 234) t t1 := by
  unfold tX10_meets at H
  have hF_t : Sm (fun b => b = 218 ∨ b = 232 ∨ b = 233 ∨ b = 234) t t := Sm.rf
  obtain ⟨tt2, et3, H⟩ := am_bd H
  have hF_tt2 := hF_t.tr (sm_I (S := fun b => b = 218 ∨ b = 232 ∨ b = 233 ∨ b = 234) et3 (show 218 = 218 ∨ 218 = 232 ∨ 218 = 233 ∨ 218 = 234 by omega))
  obtain ⟨tt5, e4, H⟩ := am_bd H
  have hF_tt5 := hF_tt2.tr ((wX10_triesNow e4).mono (S' := fun b => b = 218 ∨ b = 232 ∨ b = 233 ∨ b = 234) (fun b hb => (by have hb : b = 234 := hb; show b = 218 ∨ b = 232 ∨ b = 233 ∨ b = 234; omega)))
  obtain ⟨o26, E23, H⟩ := am_bd H
  have hL := wX10_meets_L11 _ _ _ _ _ _ E23
  rcases o26 with tt25 | ⟨_, y27⟩
  · dsimp only at H
    have hF_tt25 := hF_tt5.tr (Sm.mono (S' := fun b => b = 218 ∨ b = 232 ∨ b = 233 ∨ b = 234) hL (fun b hb => (by have hb : b = 218 ∨ b = 232 ∨ b = 233 ∨ b = 234 := hb; show b = 218 ∨ b = 232 ∨ b = 233 ∨ b = 234; omega)))
    obtain ⟨rfl, rfl⟩ := am_inj2 H
    exact hF_tt25
  · dsimp only at H
    obtain ⟨rfl, rfl⟩ := am_inj2 H
    exact hF_tt5.tr (Sm.mono (S' := fun b => b = 218 ∨ b = 232 ∨ b = 233 ∨ b = 234) hL (fun b hb => (by have hb : b = 218 ∨ b = 232 ∨ b = 233 ∨ b = 234 := hb; show b = 218 ∨ b = 232 ∨ b = 233 ∨ b = 234; omega)))
set_option maxHeartbeats 4000000 in
theorem wX10_isCalm_L11 : ∀ (n : Nat) (v1 : Int32) (v2 : Int32) (v3 : Int32) (t : tS) (t1 : tS), tX10_isCalm_L11 n v1 v2 v3 t = some t1 → Sm (fun b => b = 218 ∨ b = 232 ∨ b = 233 ∨ b = 234) t t1 := by
  intro n
  induction n with
  | zero => intro _ _ _ _ _ H; cases H
  | succ n ih =>
    intro v1 v2 v3 t t1 H
    rw [tX10_isCalm_L11] at H
    have hF_t : Sm (fun b => b = 218 ∨ b = 232 ∨ b = 233 ∨ b = 234) t t := Sm.rf
    split at H
    · obtain rfl := Option.some.inj H
      exact hF_t
    · obtain ⟨tt4, e3, H⟩ := am_bd H
      have hF_tt4 := hF_t.tr ((wX10_passes e3).mono (S' := fun b => b = 218 ∨ b = 232 ∨ b = 233 ∨ b = 234) (fun b hb => (by have hb : b = 218 ∨ b = 232 ∨ b = 233 ∨ b = 234 := hb; show b = 218 ∨ b = 232 ∨ b = 233 ∨ b = 234; omega)))
      exact hF_tt4.tr (ih _ _ _ _ _ H)
set_option maxHeartbeats 4000000 in
theorem wX10_isCalm {a1 : Int32} {t : tS} {r : Int32} {t1 : tS} (H : tX10_isCalm a1 t = some (r, t1)) : Sm (fun b => b = 218 ∨ b = 232 ∨ b = 233 ∨ b = 234) t t1 := by
  unfold tX10_isCalm at H
  have hF_t : Sm (fun b => b = 218 ∨ b = 232 ∨ b = 233 ∨ b = 234) t t := Sm.rf
  obtain ⟨x2, _, H⟩ := am_bd H
  obtain ⟨tt8, E6, H⟩ := am_bd H
  have hF_tt8 := hF_t.tr (Sm.mono (S' := fun b => b = 218 ∨ b = 232 ∨ b = 233 ∨ b = 234) (wX10_isCalm_L11 _ _ _ _ _ _ E6) (fun b hb => (by have hb : b = 218 ∨ b = 232 ∨ b = 233 ∨ b = 234 := hb; show b = 218 ∨ b = 232 ∨ b = 233 ∨ b = 234; omega)))
  clear E6
  obtain ⟨x10, _, H⟩ := am_bd H
  obtain ⟨js11, E12, H⟩ := am_bd H
  clear E12
  obtain ⟨_, _, H⟩ := am_bd H
  obtain ⟨rfl, rfl⟩ := am_inj2 H
  exact hF_tt8
set_option maxHeartbeats 4000000 in
theorem wX10_beds_L83 : ∀ (n : Nat) (v1 : Int32) (v2 : Int32) (v3 : Int32) (v4 : Int32) (v5 : Int32) (v6 : Int32) (v7 : Int32) (v8 : Int32) (v9 : Int32) (t : tS) (w7 : Int32) (w8 : Int32) (t1 : tS), tX10_beds_L83 n v1 v2 v3 v4 v5 v6 v7 v8 v9 t = some (w7, w8, t1) → Sm (fun b => b = 234) t t1 := by
  intro n
  induction n with
  | zero => intro _ _ _ _ _ _ _ _ _ _ _ _ _ H; cases H
  | succ n ih =>
    intro v1 v2 v3 v4 v5 v6 v7 v8 v9 t w7 w8 t1 H
    rw [tX10_beds_L83] at H
    have hF_t : Sm (fun b => b = 234) t t := Sm.rf
    obtain ⟨x12, _, H⟩ := am_bd H
    split at H
    · obtain ⟨rfl, rfl, rfl⟩ := am_inj3 H
      exact hF_t
    · obtain ⟨x14, _, H⟩ := am_bd H
      obtain ⟨x16, _, H⟩ := am_bd H
      obtain ⟨x18, _, H⟩ := am_bd H
      obtain ⟨tt20, e21, H⟩ := am_bd H
      have hF_tt20 := hF_t.tr (sm_WA (S := fun b => b = 234) e21 (show 234 = 234 by omega))
      obtain ⟨js22, E23, H⟩ := am_bd H
      clear E23
      exact hF_tt20.tr (ih _ _ _ _ _ _ _ _ _ _ _ _ _ H)
set_option maxHeartbeats 4000000 in
theorem wX10_beds_L64 : ∀ (n : Nat) (v1 : Int32) (v2 : Int32) (v3 : Int32) (v4 : Int32) (v5 : Int32) (v6 : Int32) (t : tS) (w4 : Int32) (w5 : Int32) (t1 : tS), tX10_beds_L64 n v1 v2 v3 v4 v5 v6 t = some (w4, w5, t1) → Sm (fun b => b = 218 ∨ b = 232 ∨ b = 233 ∨ b = 234) t t1 := by
  intro n
  induction n with
  | zero => intro _ _ _ _ _ _ _ _ _ _ H; cases H
  | succ n ih =>
    intro v1 v2 v3 v4 v5 v6 t w4 w5 t1 H
    rw [tX10_beds_L64] at H
    have hF_t : Sm (fun b => b = 218 ∨ b = 232 ∨ b = 233 ∨ b = 234) t t := Sm.rf
    split at H
    · obtain ⟨rfl, rfl, rfl⟩ := am_inj3 H
      exact hF_t
    · obtain ⟨tt9, e8, H⟩ := am_bd H
      have hF_tt9 := hF_t.tr ((wX10_triesNow e8).mono (S' := fun b => b = 218 ∨ b = 232 ∨ b = 233 ∨ b = 234) (fun b hb => (by have hb : b = 234 := hb; show b = 218 ∨ b = 232 ∨ b = 233 ∨ b = 234; omega)))
      obtain ⟨lw24, lw25, tt28, E26, H⟩ := am_bd3 H
      have hF_tt28 := hF_tt9.tr (Sm.mono (S' := fun b => b = 218 ∨ b = 232 ∨ b = 233 ∨ b = 234) (wX10_beds_L83 _ _ _ _ _ _ _ _ _ _ _ _ _ _ E26) (fun b hb => (by have hb : b = 234 := hb; show b = 218 ∨ b = 232 ∨ b = 233 ∨ b = 234; omega)))
      clear E26
      obtain ⟨js29, tt31, E32, H⟩ := am_bd2 H
      have hF_tt31 : Sm (fun b => b = 218 ∨ b = 232 ∨ b = 233 ∨ b = 234) t tt31 := by
        clear H
        have H := E32
        clear E32
        split at H
        · obtain ⟨rfl, rfl⟩ := am_inj2 H
          exact hF_tt28
        · split at H
          · obtain ⟨x34, tt35, e33, H⟩ := am_bd2 H
            have hF_tt35 := hF_tt28.tr ((wX10_isCalm e33).mono (S' := fun b => b = 218 ∨ b = 232 ∨ b = 233 ∨ b = 234) (fun b hb => (by have hb : b = 218 ∨ b = 232 ∨ b = 233 ∨ b = 234 := hb; show b = 218 ∨ b = 232 ∨ b = 233 ∨ b = 234; omega)))
            split at H
            · obtain ⟨rfl, rfl⟩ := am_inj2 H
              exact hF_tt35
            · obtain ⟨rfl, rfl⟩ := am_inj2 H
              exact hF_tt35
          · split at H
            · obtain ⟨rfl, rfl⟩ := am_inj2 H
              exact hF_tt28
            · obtain ⟨x38, tt39, e37, H⟩ := am_bd2 H
              have hF_tt39 := hF_tt28.tr ((wX10_isCalm e37).mono (S' := fun b => b = 218 ∨ b = 232 ∨ b = 233 ∨ b = 234) (fun b hb => (by have hb : b = 218 ∨ b = 232 ∨ b = 233 ∨ b = 234 := hb; show b = 218 ∨ b = 232 ∨ b = 233 ∨ b = 234; omega)))
              split at H
              · obtain ⟨rfl, rfl⟩ := am_inj2 H
                exact hF_tt39
              · obtain ⟨rfl, rfl⟩ := am_inj2 H
                exact hF_tt39
      clear E32
      obtain ⟨js41, E42, H⟩ := am_bd H
      clear E42
      obtain ⟨js43, E44, H⟩ := am_bd H
      clear E44
      exact hF_tt31.tr (ih _ _ _ _ _ _ _ _ _ _ H)
set_option maxHeartbeats 4000000 in
theorem wX10_beds {a1 : Int32} {a2 : Int32} {t : tS} {r : Int32} {t1 : tS} (H : tX10_beds a1 a2 t = some (r, t1)) : Sm (fun b => b = 218 ∨ b = 232 ∨ b = 233 ∨ b = 234) t t1 := by
  unfold tX10_beds at H
  have hF_t : Sm (fun b => b = 218 ∨ b = 232 ∨ b = 233 ∨ b = 234) t t := Sm.rf
  obtain ⟨tt2, et3, H⟩ := am_bd H
  have hF_tt2 := hF_t.tr (sm_I (S := fun b => b = 218 ∨ b = 232 ∨ b = 233 ∨ b = 234) et3 (show 218 = 218 ∨ 218 = 232 ∨ 218 = 233 ∨ 218 = 234 by omega))
  obtain ⟨x5, _, H⟩ := am_bd H
  split at H
  · obtain ⟨rfl, rfl⟩ := am_inj2 H
    exact hF_tt2
  · split at H
    · obtain ⟨lw6, E7, H⟩ := am_bd H
      clear E7
      obtain ⟨lw45, lw46, tt49, E47, H⟩ := am_bd3 H
      have hF_tt49 := hF_tt2.tr (Sm.mono (S' := fun b => b = 218 ∨ b = 232 ∨ b = 233 ∨ b = 234) (wX10_beds_L64 _ _ _ _ _ _ _ _ _ _ _ E47) (fun b hb => (by have hb : b = 218 ∨ b = 232 ∨ b = 233 ∨ b = 234 := hb; show b = 218 ∨ b = 232 ∨ b = 233 ∨ b = 234; omega)))
      clear E47
      obtain ⟨js50, E51, H⟩ := am_bd H
      clear E51
      obtain ⟨rfl, rfl⟩ := am_inj2 H
      exact hF_tt49
    · obtain ⟨x53, _, H⟩ := am_bd H
      split at H
      · obtain ⟨lw54, E55, H⟩ := am_bd H
        clear E55
        obtain ⟨lw56, lw57, tt60, E58, H⟩ := am_bd3 H
        have hF_tt60 := hF_tt2.tr (Sm.mono (S' := fun b => b = 218 ∨ b = 232 ∨ b = 233 ∨ b = 234) (wX10_beds_L64 _ _ _ _ _ _ _ _ _ _ _ E58) (fun b hb => (by have hb : b = 218 ∨ b = 232 ∨ b = 233 ∨ b = 234 := hb; show b = 218 ∨ b = 232 ∨ b = 233 ∨ b = 234; omega)))
        clear E58
        obtain ⟨js61, E62, H⟩ := am_bd H
        clear E62
        obtain ⟨rfl, rfl⟩ := am_inj2 H
        exact hF_tt60
      · obtain ⟨rfl, rfl⟩ := am_inj2 H
        exact hF_tt2
set_option maxHeartbeats 4000000 in
theorem wX10_defer_L45 : ∀ (n : Nat) (v1 : Int32) (v2 : Int32) (v3 : Int32) (v4 : Int32) (v5 : Int32) (v6 : Int32) (t : tS) (w5 : Int32) (t1 : tS), tX10_defer_L45 n v1 v2 v3 v4 v5 v6 t = some (w5, t1) → Sm (fun b => b = 218 ∨ b = 232 ∨ b = 233 ∨ b = 234) t t1 := by
  intro n
  induction n with
  | zero => intro _ _ _ _ _ _ _ _ _ H; cases H
  | succ n ih =>
    intro v1 v2 v3 v4 v5 v6 t w5 t1 H
    rw [tX10_defer_L45] at H
    have hF_t : Sm (fun b => b = 218 ∨ b = 232 ∨ b = 233 ∨ b = 234) t t := Sm.rf
    split at H
    · obtain ⟨rfl, rfl⟩ := am_inj2 H
      exact hF_t
    · obtain ⟨tt14, e13, H⟩ := am_bd H
      have hF_tt14 := hF_t.tr ((wX10_passes e13).mono (S' := fun b => b = 218 ∨ b = 232 ∨ b = 233 ∨ b = 234) (fun b hb => (by have hb : b = 218 ∨ b = 232 ∨ b = 233 ∨ b = 234 := hb; show b = 218 ∨ b = 232 ∨ b = 233 ∨ b = 234; omega)))
      obtain ⟨x17, _, H⟩ := am_bd H
      obtain ⟨x19, _, H⟩ := am_bd H
      obtain ⟨js20, E21, H⟩ := am_bd H
      clear E21
      exact hF_tt14.tr (ih _ _ _ _ _ _ _ _ _ H)
set_option maxHeartbeats 4000000 in
theorem wX10_defer_L12 : ∀ (n : Nat) (v1 : Int32) (v2 : Int32) (v3 : Int32) (v4 : Int32) (t : tS) (w2 : Int32) (t1 : tS), tX10_defer_L12 n v1 v2 v3 v4 t = some (w2, t1) → Sm (fun b => b = 218 ∨ b = 232 ∨ b = 233 ∨ b = 234 ∨ b = 236) t t1 := by
  intro n
  induction n with
  | zero => intro _ _ _ _ _ _ _ H; cases H
  | succ n ih =>
    intro v1 v2 v3 v4 t w2 t1 H
    rw [tX10_defer_L12] at H
    have hF_t : Sm (fun b => b = 218 ∨ b = 232 ∨ b = 233 ∨ b = 234 ∨ b = 236) t t := Sm.rf
    split at H
    · obtain ⟨rfl, rfl⟩ := am_inj2 H
      exact hF_t
    · obtain ⟨x5, _, H⟩ := am_bd H
      split at H
      · obtain ⟨rfl, rfl⟩ := am_inj2 H
        exact hF_t
      · obtain ⟨tt8, e9, H⟩ := am_bd H
        have hF_tt8 := hF_t.tr (sm_WA (S := fun b => b = 218 ∨ b = 232 ∨ b = 233 ∨ b = 234 ∨ b = 236) e9 (show 236 = 218 ∨ 236 = 232 ∨ 236 = 233 ∨ 236 = 234 ∨ 236 = 236 by omega))
        obtain ⟨tt11, e10, H⟩ := am_bd H
        have hF_tt11 := hF_tt8.tr ((wX10_triesNow e10).mono (S' := fun b => b = 218 ∨ b = 232 ∨ b = 233 ∨ b = 234 ∨ b = 236) (fun b hb => (by have hb : b = 234 := hb; show b = 218 ∨ b = 232 ∨ b = 233 ∨ b = 234 ∨ b = 236; omega)))
        obtain ⟨lw22, tt25, E23, H⟩ := am_bd2 H
        have hF_tt25 := hF_tt11.tr (Sm.mono (S' := fun b => b = 218 ∨ b = 232 ∨ b = 233 ∨ b = 234 ∨ b = 236) (wX10_defer_L45 _ _ _ _ _ _ _ _ _ _ E23) (fun b hb => (by have hb : b = 218 ∨ b = 232 ∨ b = 233 ∨ b = 234 := hb; show b = 218 ∨ b = 232 ∨ b = 233 ∨ b = 234 ∨ b = 236; omega)))
        clear E23
        obtain ⟨js26, E27, H⟩ := am_bd H
        clear E27
        obtain ⟨js28, E29, H⟩ := am_bd H
        clear E29
        obtain ⟨js30, E31, H⟩ := am_bd H
        clear E31
        exact hF_tt25.tr (ih _ _ _ _ _ _ _ H)
set_option maxHeartbeats 4000000 in
theorem wX10_defer {a1 : Int32} {t : tS} {r : Int32} {t1 : tS} (H : tX10_defer a1 t = some (r, t1)) : Sm (fun b => b = 218 ∨ b = 232 ∨ b = 233 ∨ b = 234 ∨ b = 236) t t1 := by
  unfold tX10_defer at H
  have hF_t : Sm (fun b => b = 218 ∨ b = 232 ∨ b = 233 ∨ b = 234 ∨ b = 236) t t := Sm.rf
  obtain ⟨tt2, et3, H⟩ := am_bd H
  have hF_tt2 := hF_t.tr (sm_I (S := fun b => b = 218 ∨ b = 232 ∨ b = 233 ∨ b = 234 ∨ b = 236) et3 (show 218 = 218 ∨ 218 = 232 ∨ 218 = 233 ∨ 218 = 234 ∨ 218 = 236 by omega))
  obtain ⟨lw32, tt35, E33, H⟩ := am_bd2 H
  have hF_tt35 := hF_tt2.tr (Sm.mono (S' := fun b => b = 218 ∨ b = 232 ∨ b = 233 ∨ b = 234 ∨ b = 236) (wX10_defer_L12 _ _ _ _ _ _ _ _ E33) (fun b hb => (by have hb : b = 218 ∨ b = 232 ∨ b = 233 ∨ b = 234 ∨ b = 236 := hb; show b = 218 ∨ b = 232 ∨ b = 233 ∨ b = 234 ∨ b = 236; omega)))
  clear E33
  obtain ⟨tt37, e36, H⟩ := am_bd H
  have hF_tt37 := hF_tt35.tr ((wX10_datesAsTold e36).mono (S' := fun b => b = 218 ∨ b = 232 ∨ b = 233 ∨ b = 234 ∨ b = 236) (fun b hb => (by have hb : b = 236 := hb; show b = 218 ∨ b = 232 ∨ b = 233 ∨ b = 234 ∨ b = 236; omega)))
  obtain ⟨rfl, rfl⟩ := am_inj2 H
  exact hF_tt37
set_option maxHeartbeats 4000000 in
theorem wX10_spare_L9 : ∀ (n : Nat) (v1 : Int32) (v2 : Int32) (t : tS) (w1 : Int32) (t1 : tS), tX10_spare_L9 n v1 v2 t = some (w1, t1) → Sm (fun b => b = 218 ∨ b = 232 ∨ b = 233 ∨ b = 234) t t1 := by
  intro n
  induction n with
  | zero => intro _ _ _ _ _ H; cases H
  | succ n ih =>
    intro v1 v2 t w1 t1 H
    rw [tX10_spare_L9] at H
    have hF_t : Sm (fun b => b = 218 ∨ b = 232 ∨ b = 233 ∨ b = 234) t t := Sm.rf
    obtain ⟨x5, _, H⟩ := am_bd H
    split at H
    · obtain ⟨rfl, rfl⟩ := am_inj2 H
      exact hF_t
    · obtain ⟨tt7, e6, H⟩ := am_bd H
      have hF_tt7 := hF_t.tr ((wX10_triesNow e6).mono (S' := fun b => b = 218 ∨ b = 232 ∨ b = 233 ∨ b = 234) (fun b hb => (by have hb : b = 234 := hb; show b = 218 ∨ b = 232 ∨ b = 233 ∨ b = 234; omega)))
      obtain ⟨x10, _, H⟩ := am_bd H
      obtain ⟨tt12, e13, H⟩ := am_bd H
      have hF_tt12 := hF_tt7.tr (sm_WA (S := fun b => b = 218 ∨ b = 232 ∨ b = 233 ∨ b = 234) e13 (show 234 = 218 ∨ 234 = 232 ∨ 234 = 233 ∨ 234 = 234 by omega))
      obtain ⟨x15, _, H⟩ := am_bd H
      obtain ⟨js16, tt18, E19, H⟩ := am_bd2 H
      have hF_tt18 : Sm (fun b => b = 218 ∨ b = 232 ∨ b = 233 ∨ b = 234) t tt18 := by
        clear H
        have H := E19
        clear E19
        split at H
        · obtain ⟨rfl, rfl⟩ := am_inj2 H
          exact hF_tt12
        · obtain ⟨x21, tt22, e20, H⟩ := am_bd2 H
          have hF_tt22 := hF_tt12.tr ((wX10_isCalm e20).mono (S' := fun b => b = 218 ∨ b = 232 ∨ b = 233 ∨ b = 234) (fun b hb => (by have hb : b = 218 ∨ b = 232 ∨ b = 233 ∨ b = 234 := hb; show b = 218 ∨ b = 232 ∨ b = 233 ∨ b = 234; omega)))
          split at H
          · obtain ⟨rfl, rfl⟩ := am_inj2 H
            exact hF_tt22
          · obtain ⟨rfl, rfl⟩ := am_inj2 H
            exact hF_tt22
      clear E19
      exact hF_tt18.tr (ih _ _ _ _ _ H)
set_option maxHeartbeats 4000000 in
theorem wX10_spare  {t : tS} {r : Int32} {t1 : tS} (H : tX10_spare  t = some (r, t1)) : Sm (fun b => b = 218 ∨ b = 232 ∨ b = 233 ∨ b = 234) t t1 := by
  unfold tX10_spare at H
  have hF_t : Sm (fun b => b = 218 ∨ b = 232 ∨ b = 233 ∨ b = 234) t t := Sm.rf
  obtain ⟨tt2, et3, H⟩ := am_bd H
  have hF_tt2 := hF_t.tr (sm_I (S := fun b => b = 218 ∨ b = 232 ∨ b = 233 ∨ b = 234) et3 (show 218 = 218 ∨ 218 = 232 ∨ 218 = 233 ∨ 218 = 234 by omega))
  obtain ⟨lw24, tt27, E25, H⟩ := am_bd2 H
  have hF_tt27 := hF_tt2.tr (Sm.mono (S' := fun b => b = 218 ∨ b = 232 ∨ b = 233 ∨ b = 234) (wX10_spare_L9 _ _ _ _ _ _ E25) (fun b hb => (by have hb : b = 218 ∨ b = 232 ∨ b = 233 ∨ b = 234 := hb; show b = 218 ∨ b = 232 ∨ b = 233 ∨ b = 234; omega)))
  clear E25
  obtain ⟨rfl, rfl⟩ := am_inj2 H
  exact hF_tt27
set_option maxHeartbeats 4000000 in
theorem wX10_see {a1 : Int32} {a2 : Int32} {t : tS} {r : Int32} {t1 : tS} (H : tX10_see a1 a2 t = some (r, t1)) : Sm (fun b => b = 218 ∨ b = 234) t t1 := by
  unfold tX10_see at H
  have hF_t : Sm (fun b => b = 218 ∨ b = 234) t t := Sm.rf
  obtain ⟨tt2, et3, H⟩ := am_bd H
  have hF_tt2 := hF_t.tr (sm_I (S := fun b => b = 218 ∨ b = 234) et3 (show 218 = 218 ∨ 218 = 234 by omega))
  split at H
  · obtain ⟨x5, _, H⟩ := am_bd H
    split at H
    · obtain ⟨rfl, rfl⟩ := am_inj2 H
      exact hF_tt2
    · obtain ⟨x7, _, H⟩ := am_bd H
      split at H
      · obtain ⟨x9, _, H⟩ := am_bd H
        obtain ⟨tt12, e13, H⟩ := am_bd H
        have hF_tt12 := hF_tt2.tr (sm_WA (S := fun b => b = 218 ∨ b = 234) e13 (show 234 = 218 ∨ 234 = 234 by omega))
        obtain ⟨tt16, e17, H⟩ := am_bd H
        have hF_tt16 := hF_tt12.tr (sm_WA (S := fun b => b = 218 ∨ b = 234) e17 (show 234 = 218 ∨ 234 = 234 by omega))
        obtain ⟨x19, _, H⟩ := am_bd H
        obtain ⟨tt21, e22, H⟩ := am_bd H
        have hF_tt21 := hF_tt16.tr (sm_WA (S := fun b => b = 218 ∨ b = 234) e22 (show 234 = 218 ∨ 234 = 234 by omega))
        obtain ⟨rfl, rfl⟩ := am_inj2 H
        exact hF_tt21
      · obtain ⟨rfl, rfl⟩ := am_inj2 H
        exact hF_tt2
  · obtain ⟨x24, _, H⟩ := am_bd H
    split at H
    · obtain ⟨rfl, rfl⟩ := am_inj2 H
      exact hF_tt2
    · obtain ⟨x26, _, H⟩ := am_bd H
      split at H
      · obtain ⟨rfl, rfl⟩ := am_inj2 H
        exact hF_tt2
      · obtain ⟨x28, _, H⟩ := am_bd H
        split at H
        · obtain ⟨x30, _, H⟩ := am_bd H
          obtain ⟨tt33, e34, H⟩ := am_bd H
          have hF_tt33 := hF_tt2.tr (sm_WA (S := fun b => b = 218 ∨ b = 234) e34 (show 234 = 218 ∨ 234 = 234 by omega))
          obtain ⟨tt37, e38, H⟩ := am_bd H
          have hF_tt37 := hF_tt33.tr (sm_WA (S := fun b => b = 218 ∨ b = 234) e38 (show 234 = 218 ∨ 234 = 234 by omega))
          obtain ⟨x40, _, H⟩ := am_bd H
          obtain ⟨tt42, e43, H⟩ := am_bd H
          have hF_tt42 := hF_tt37.tr (sm_WA (S := fun b => b = 218 ∨ b = 234) e43 (show 234 = 218 ∨ 234 = 234 by omega))
          obtain ⟨rfl, rfl⟩ := am_inj2 H
          exact hF_tt42
        · obtain ⟨rfl, rfl⟩ := am_inj2 H
          exact hF_tt2
set_option maxHeartbeats 4000000 in
theorem wX10_whoNow_L15 : ∀ (n : Nat) (v1 : Int32) (v2 : Int32) (t : tS) (w1 : Int32) (t1 : tS), tX10_whoNow_L15 n v1 v2 t = some (w1, t1) → Sm (fun b => b = 218 ∨ b = 232 ∨ b = 233 ∨ b = 234) t t1 := by
  intro n
  induction n with
  | zero => intro _ _ _ _ _ H; cases H
  | succ n ih =>
    intro v1 v2 t w1 t1 H
    rw [tX10_whoNow_L15] at H
    have hF_t : Sm (fun b => b = 218 ∨ b = 232 ∨ b = 233 ∨ b = 234) t t := Sm.rf
    split at H
    · obtain ⟨rfl, rfl⟩ := am_inj2 H
      exact hF_t
    · obtain ⟨lw6, E7, H⟩ := am_bd H
      clear E7
      obtain ⟨tt9, e8, H⟩ := am_bd H
      have hF_tt9 := hF_t.tr ((wX10_passes e8).mono (S' := fun b => b = 218 ∨ b = 232 ∨ b = 233 ∨ b = 234) (fun b hb => (by have hb : b = 218 ∨ b = 232 ∨ b = 233 ∨ b = 234 := hb; show b = 218 ∨ b = 232 ∨ b = 233 ∨ b = 234; omega)))
      exact hF_tt9.tr (ih _ _ _ _ _ H)
set_option maxHeartbeats 4000000 in
theorem wX10_whoNow  {t : tS} {r : Int32} {t1 : tS} (H : tX10_whoNow  t = some (r, t1)) : Sm (fun b => b = 218 ∨ b = 232 ∨ b = 233 ∨ b = 234) t t1 := by
  unfold tX10_whoNow at H
  have hF_t : Sm (fun b => b = 218 ∨ b = 232 ∨ b = 233 ∨ b = 234) t t := Sm.rf
  obtain ⟨x2, _, H⟩ := am_bd H
  obtain ⟨tt4, e3, H⟩ := am_bd H
  have hF_tt4 := hF_t.tr ((wX10_triesNow e3).mono (S' := fun b => b = 218 ∨ b = 232 ∨ b = 233 ∨ b = 234) (fun b hb => (by have hb : b = 234 := hb; show b = 218 ∨ b = 232 ∨ b = 233 ∨ b = 234; omega)))
  obtain ⟨lw11, tt14, E12, H⟩ := am_bd2 H
  have hF_tt14 := hF_tt4.tr (Sm.mono (S' := fun b => b = 218 ∨ b = 232 ∨ b = 233 ∨ b = 234) (wX10_whoNow_L15 _ _ _ _ _ _ E12) (fun b hb => (by have hb : b = 218 ∨ b = 232 ∨ b = 233 ∨ b = 234 := hb; show b = 218 ∨ b = 232 ∨ b = 233 ∨ b = 234; omega)))
  clear E12
  obtain ⟨rfl, rfl⟩ := am_inj2 H
  exact hF_tt14
set_option maxHeartbeats 4000000 in
theorem wX10_who  {t : tS} {r : Int32} {t1 : tS} (H : tX10_who  t = some (r, t1)) : Sm (fun b => b = 218 ∨ b = 232 ∨ b = 233 ∨ b = 234) t t1 := by
  unfold tX10_who at H
  have hF_t : Sm (fun b => b = 218 ∨ b = 232 ∨ b = 233 ∨ b = 234) t t := Sm.rf
  obtain ⟨tt2, et3, H⟩ := am_bd H
  have hF_tt2 := hF_t.tr (sm_I (S := fun b => b = 218 ∨ b = 232 ∨ b = 233 ∨ b = 234) et3 (show 218 = 218 ∨ 218 = 232 ∨ 218 = 233 ∨ 218 = 234 by omega))
  obtain ⟨x5, tt6, e4, H⟩ := am_bd2 H
  have hF_tt6 := hF_tt2.tr ((wX10_whoNow e4).mono (S' := fun b => b = 218 ∨ b = 232 ∨ b = 233 ∨ b = 234) (fun b hb => (by have hb : b = 218 ∨ b = 232 ∨ b = 233 ∨ b = 234 := hb; show b = 218 ∨ b = 232 ∨ b = 233 ∨ b = 234; omega)))
  obtain ⟨rfl, rfl⟩ := am_inj2 H
  exact hF_tt6
set_option maxHeartbeats 4000000 in
theorem wX10_look_L24 : ∀ (n : Nat) (v1 : Int32) (v2 : Int32) (v3 : Int32) (v4 : Int32) (t : tS) (w2 : Int32) (t1 : tS), tX10_look_L24 n v1 v2 v3 v4 t = some (w2, t1) → Sm (fun b => b = 218 ∨ b = 232 ∨ b = 233 ∨ b = 234) t t1 := by
  intro n
  induction n with
  | zero => intro _ _ _ _ _ _ _ H; cases H
  | succ n ih =>
    intro v1 v2 v3 v4 t w2 t1 H
    rw [tX10_look_L24] at H
    have hF_t : Sm (fun b => b = 218 ∨ b = 232 ∨ b = 233 ∨ b = 234) t t := Sm.rf
    split at H
    · obtain ⟨rfl, rfl⟩ := am_inj2 H
      exact hF_t
    · obtain ⟨lw13, E14, H⟩ := am_bd H
      clear E14
      obtain ⟨js15, E16, H⟩ := am_bd H
      clear E16
      obtain ⟨js17, E18, H⟩ := am_bd H
      clear E18
      obtain ⟨tt20, e19, H⟩ := am_bd H
      have hF_tt20 := hF_t.tr ((wX10_passes e19).mono (S' := fun b => b = 218 ∨ b = 232 ∨ b = 233 ∨ b = 234) (fun b hb => (by have hb : b = 218 ∨ b = 232 ∨ b = 233 ∨ b = 234 := hb; show b = 218 ∨ b = 232 ∨ b = 233 ∨ b = 234; omega)))
      exact hF_tt20.tr (ih _ _ _ _ _ _ _ H)
set_option maxHeartbeats 4000000 in
theorem wX10_look  {t : tS} {r : Int32} {t1 : tS} (H : tX10_look  t = some (r, t1)) : Sm (fun b => b = 218 ∨ b = 232 ∨ b = 233 ∨ b = 234) t t1 := by
  unfold tX10_look at H
  have hF_t : Sm (fun b => b = 218 ∨ b = 232 ∨ b = 233 ∨ b = 234) t t := Sm.rf
  obtain ⟨tt2, et3, H⟩ := am_bd H
  have hF_tt2 := hF_t.tr (sm_I (S := fun b => b = 218 ∨ b = 232 ∨ b = 233 ∨ b = 234) et3 (show 218 = 218 ∨ 218 = 232 ∨ 218 = 233 ∨ 218 = 234 by omega))
  obtain ⟨x5, tt6, e4, H⟩ := am_bd2 H
  have hF_tt6 := hF_tt2.tr ((wX10_whoNow e4).mono (S' := fun b => b = 218 ∨ b = 232 ∨ b = 233 ∨ b = 234) (fun b hb => (by have hb : b = 218 ∨ b = 232 ∨ b = 233 ∨ b = 234 := hb; show b = 218 ∨ b = 232 ∨ b = 233 ∨ b = 234; omega)))
  obtain ⟨x9, _, H⟩ := am_bd H
  obtain ⟨tt11, e10, H⟩ := am_bd H
  have hF_tt11 := hF_tt6.tr ((wX10_triesNow e10).mono (S' := fun b => b = 218 ∨ b = 232 ∨ b = 233 ∨ b = 234) (fun b hb => (by have hb : b = 234 := hb; show b = 218 ∨ b = 232 ∨ b = 233 ∨ b = 234; omega)))
  obtain ⟨lw22, tt25, E23, H⟩ := am_bd2 H
  have hF_tt25 := hF_tt11.tr (Sm.mono (S' := fun b => b = 218 ∨ b = 232 ∨ b = 233 ∨ b = 234) (wX10_look_L24 _ _ _ _ _ _ _ _ E23) (fun b hb => (by have hb : b = 218 ∨ b = 232 ∨ b = 233 ∨ b = 234 := hb; show b = 218 ∨ b = 232 ∨ b = 233 ∨ b = 234; omega)))
  clear E23
  obtain ⟨rfl, rfl⟩ := am_inj2 H
  exact hF_tt25
set_option maxHeartbeats 4000000 in
theorem wX10_quiet  {t : tS} {r : Int32} {t1 : tS} (H : tX10_quiet  t = some (r, t1)) : Sm (fun b => b = 218) t t1 := by
  unfold tX10_quiet at H
  have hF_t : Sm (fun b => b = 218) t t := Sm.rf
  obtain ⟨tt2, et3, H⟩ := am_bd H
  have hF_tt2 := hF_t.tr (sm_I (S := fun b => b = 218) et3 (show 218 = 218 by omega))
  obtain ⟨lw4, E5, H⟩ := am_bd H
  clear E5
  obtain ⟨rfl, rfl⟩ := am_inj2 H
  exact hF_tt2
set_option maxHeartbeats 4000000 in
theorem wX10_peace  {t : tS} {r : Int32} {t1 : tS} (H : tX10_peace  t = some (r, t1)) : Sm (fun b => b = 218) t t1 := by
  unfold tX10_peace at H
  have hF_t : Sm (fun b => b = 218) t t := Sm.rf
  obtain ⟨tt2, et3, H⟩ := am_bd H
  have hF_tt2 := hF_t.tr (sm_I (S := fun b => b = 218) et3 (show 218 = 218 by omega))
  obtain ⟨lw4, E5, H⟩ := am_bd H
  clear E5
  obtain ⟨rfl, rfl⟩ := am_inj2 H
  exact hF_tt2
set_option maxHeartbeats 4000000 in
theorem wX10_eldest {a1 : Int32} {t : tS} {r : Int32} {t1 : tS} (H : tX10_eldest a1 t = some (r, t1)) : Sm (fun b => b = 218) t t1 := by
  unfold tX10_eldest at H
  have hF_t : Sm (fun b => b = 218) t t := Sm.rf
  obtain ⟨tt2, et3, H⟩ := am_bd H
  have hF_tt2 := hF_t.tr (sm_I (S := fun b => b = 218) et3 (show 218 = 218 by omega))
  obtain ⟨lw4, E5, H⟩ := am_bd H
  clear E5
  obtain ⟨rfl, rfl⟩ := am_inj2 H
  exact hF_tt2
set_option maxHeartbeats 4000000 in
theorem wX10_loudest  {t : tS} {r : Int32} {t1 : tS} (H : tX10_loudest  t = some (r, t1)) : Sm (fun b => b = 218) t t1 := by
  unfold tX10_loudest at H
  have hF_t : Sm (fun b => b = 218) t t := Sm.rf
  obtain ⟨tt2, et3, H⟩ := am_bd H
  have hF_tt2 := hF_t.tr (sm_I (S := fun b => b = 218) et3 (show 218 = 218 by omega))
  obtain ⟨lw4, E5, H⟩ := am_bd H
  clear E5
  obtain ⟨rfl, rfl⟩ := am_inj2 H
  exact hF_tt2
set_option maxHeartbeats 4000000 in
theorem wX10_chance_L135 : ∀ (n : Nat) (v1 : Int32) (v2 : Int32) (v3 : Int32) (v4 : Int64) (v6 : Int64) (v8 : Int32) (v9 : Int64) (v11 : Int32) (v12 : Int32) (v13 : Int32) (v14 : Int32) (t : tS) (t1 : tS), tX10_chance_L135 n v1 v2 v3 v4 v6 v8 v9 v11 v12 v13 v14 t = some t1 → Sm (fun b => b = 234) t t1 := by
  intro n
  induction n with
  | zero => intro _ _ _ _ _ _ _ _ _ _ _ _ _ H; cases H
  | succ n ih =>
    intro v1 v2 v3 v4 v6 v8 v9 v11 v12 v13 v14 t t1 H
    rw [tX10_chance_L135] at H
    have hF_t : Sm (fun b => b = 234) t t := Sm.rf
    obtain ⟨x20, _, H⟩ := am_bd H
    split at H
    · obtain rfl := Option.some.inj H
      exact hF_t
    · split at H
      · obtain rfl := Option.some.inj H
        exact hF_t
      · obtain ⟨tt22, e21, H⟩ := am_bd H
        have hF_tt22 := hF_t.tr ((wX10_leaves e21).mono (S' := fun b => b = 234) (fun b hb => (by have hb : b = 234 := hb; show b = 234; omega)))
        exact hF_tt22.tr (ih _ _ _ _ _ _ _ _ _ _ _ _ _ H)
set_option maxHeartbeats 4000000 in
theorem wX10_chance_L88 : ∀ (n : Nat) (v1 : Int32) (v2 : Int32) (v3 : Int32) (v4 : Int64) (v6 : Int64) (v8 : Int32) (v9 : Int64) (v11 : Int32) (v12 : Int32) (t : tS) (w9 : Int64) (w11 : Int32) (t1 : tS), tX10_chance_L88 n v1 v2 v3 v4 v6 v8 v9 v11 v12 t = some (w9, w11, t1) → Sm (fun b => b = 218 ∨ b = 232 ∨ b = 233 ∨ b = 234) t t1 := by
  intro n
  induction n with
  | zero => intro _ _ _ _ _ _ _ _ _ _ _ _ _ H; cases H
  | succ n ih =>
    intro v1 v2 v3 v4 v6 v8 v9 v11 v12 t w9 w11 t1 H
    rw [tX10_chance_L88] at H
    have hF_t : Sm (fun b => b = 218 ∨ b = 232 ∨ b = 233 ∨ b = 234) t t := Sm.rf
    split at H
    · obtain ⟨rfl, rfl, rfl⟩ := am_inj3 H
      exact hF_t
    · obtain ⟨js15, E16, H⟩ := am_bd H
      clear E16
      obtain ⟨js17, E18, H⟩ := am_bd H
      clear E18
      obtain ⟨tt26, E24, H⟩ := am_bd H
      have hF_tt26 := hF_t.tr (Sm.mono (S' := fun b => b = 218 ∨ b = 232 ∨ b = 233 ∨ b = 234) (wX10_chance_L135 _ _ _ _ _ _ _ _ _ _ _ _ _ _ E24) (fun b hb => (by have hb : b = 234 := hb; show b = 218 ∨ b = 232 ∨ b = 233 ∨ b = 234; omega)))
      clear E24
      obtain ⟨tt28, e27, H⟩ := am_bd H
      have hF_tt28 := hF_tt26.tr ((wX10_passes e27).mono (S' := fun b => b = 218 ∨ b = 232 ∨ b = 233 ∨ b = 234) (fun b hb => (by have hb : b = 218 ∨ b = 232 ∨ b = 233 ∨ b = 234 := hb; show b = 218 ∨ b = 232 ∨ b = 233 ∨ b = 234; omega)))
      exact hF_tt28.tr (ih _ _ _ _ _ _ _ _ _ _ _ _ _ H)
set_option maxHeartbeats 4000000 in
theorem wX10_chance_L67 : ∀ (n : Nat) (v1 : Int32) (v2 : Int32) (v3 : Int32) (v4 : Int64) (v6 : Int64) (v8 : Int32) (t : tS) (w6 : Int64) (t1 : tS), tX10_chance_L67 n v1 v2 v3 v4 v6 v8 t = some (w6, t1) → Sm (fun b => b = 218 ∨ b = 232 ∨ b = 233 ∨ b = 234) t t1 := by
  intro n
  induction n with
  | zero => intro _ _ _ _ _ _ _ _ _ H; cases H
  | succ n ih =>
    intro v1 v2 v3 v4 v6 v8 t w6 t1 H
    rw [tX10_chance_L67] at H
    have hF_t : Sm (fun b => b = 218 ∨ b = 232 ∨ b = 233 ∨ b = 234) t t := Sm.rf
    split at H
    · obtain ⟨rfl, rfl⟩ := am_inj2 H
      exact hF_t
    · obtain ⟨tt13, e12, H⟩ := am_bd H
      have hF_tt13 := hF_t.tr ((wX10_triesNow e12).mono (S' := fun b => b = 218 ∨ b = 232 ∨ b = 233 ∨ b = 234) (fun b hb => (by have hb : b = 234 := hb; show b = 218 ∨ b = 232 ∨ b = 233 ∨ b = 234; omega)))
      obtain ⟨lw31, lw32, tt35, E33, H⟩ := am_bd3 H
      have hF_tt35 := hF_tt13.tr (Sm.mono (S' := fun b => b = 218 ∨ b = 232 ∨ b = 233 ∨ b = 234) (wX10_chance_L88 _ _ _ _ _ _ _ _ _ _ _ _ _ _ E33) (fun b hb => (by have hb : b = 218 ∨ b = 232 ∨ b = 233 ∨ b = 234 := hb; show b = 218 ∨ b = 232 ∨ b = 233 ∨ b = 234; omega)))
      clear E33
      obtain ⟨js36, E37, H⟩ := am_bd H
      clear E37
      exact hF_tt35.tr (ih _ _ _ _ _ _ _ _ _ H)
set_option maxHeartbeats 4000000 in
theorem wX10_chance {a1 : Int32} {a2 : Int32} {a3 : Int32} {t : tS} {r : Int32} {t1 : tS} (H : tX10_chance a1 a2 a3 t = some (r, t1)) : Sm (fun b => b = 218 ∨ b = 232 ∨ b = 233 ∨ b = 234) t t1 := by
  unfold tX10_chance at H
  have hF_t : Sm (fun b => b = 218 ∨ b = 232 ∨ b = 233 ∨ b = 234) t t := Sm.rf
  obtain ⟨tt2, et3, H⟩ := am_bd H
  have hF_tt2 := hF_t.tr (sm_I (S := fun b => b = 218 ∨ b = 232 ∨ b = 233 ∨ b = 234) et3 (show 218 = 218 ∨ 218 = 232 ∨ 218 = 233 ∨ 218 = 234 by omega))
  obtain ⟨x5, _, H⟩ := am_bd H
  split at H
  · obtain ⟨rfl, rfl⟩ := am_inj2 H
    exact hF_tt2
  · obtain ⟨x7, _, H⟩ := am_bd H
    split at H
    · obtain ⟨rfl, rfl⟩ := am_inj2 H
      exact hF_tt2
    · obtain ⟨x9, _, H⟩ := am_bd H
      split at H
      · obtain ⟨lw10, E11, H⟩ := am_bd H
        clear E11
        obtain ⟨lw38, tt41, E39, H⟩ := am_bd2 H
        have hF_tt41 := hF_tt2.tr (Sm.mono (S' := fun b => b = 218 ∨ b = 232 ∨ b = 233 ∨ b = 234) (wX10_chance_L67 _ _ _ _ _ _ _ _ _ _ E39) (fun b hb => (by have hb : b = 218 ∨ b = 232 ∨ b = 233 ∨ b = 234 := hb; show b = 218 ∨ b = 232 ∨ b = 233 ∨ b = 234; omega)))
        clear E39
        obtain ⟨q42, _, H⟩ := am_bd H
        obtain ⟨rfl, rfl⟩ := am_inj2 H
        exact hF_tt41
      · obtain ⟨rfl, rfl⟩ := am_inj2 H
        exact hF_tt2
set_option maxHeartbeats 4000000 in
theorem wX10_rests {a1 : Int32} {a2 : Int32} {a3 : Int32} {a4 : Int32} {t : tS} {r : Int32} {t1 : tS} (H : tX10_rests a1 a2 a3 a4 t = some (r, t1)) : Sm (fun b => b = 218) t t1 := by
  unfold tX10_rests at H
  have hF_t : Sm (fun b => b = 218) t t := Sm.rf
  obtain ⟨x2, _, H⟩ := am_bd H
  obtain ⟨js3, E4, H⟩ := am_bd H
  clear E4
  obtain ⟨lw5, lw6, E7, H⟩ := am_bd2 H
  clear E7
  obtain ⟨js8, E9, H⟩ := am_bd H
  clear E9
  obtain ⟨tt11, et12, H⟩ := am_bd H
  have hF_tt11 := hF_t.tr (sm_I (S := fun b => b = 218) et12 (show 218 = 218 by omega))
  obtain ⟨js14, E15, H⟩ := am_bd H
  clear E15
  obtain ⟨rfl, rfl⟩ := am_inj2 H
  exact hF_tt11
set_option maxHeartbeats 4000000 in
theorem wX10_draw {a1 : Int32} {t : tS} {r : Int32} {t1 : tS} (H : tX10_draw a1 t = some (r, t1)) : Sm (fun b => b = 218) t t1 := by
  unfold tX10_draw at H
  have hF_t : Sm (fun b => b = 218) t t := Sm.rf
  obtain ⟨q2, _, H⟩ := am_bd H
  obtain ⟨tt4, et5, H⟩ := am_bd H
  have hF_tt4 := hF_t.tr (sm_J (S := fun b => b = 218) et5 (show 218 = 218 by omega))
  obtain ⟨q7, _, H⟩ := am_bd H
  obtain ⟨q8, _, H⟩ := am_bd H
  obtain ⟨rfl, rfl⟩ := am_inj2 H
  exact hF_tt4
set_option maxHeartbeats 4000000 in
theorem wX10_drawsDeed  {t : tS} {t1 : tS} (H : tX10_drawsDeed  t = some t1) : Sm (fun b => b = 218 ∨ b = 234) t t1 := by
  unfold tX10_drawsDeed at H
  have hF_t : Sm (fun b => b = 218 ∨ b = 234) t t := Sm.rf
  obtain ⟨x2, tt3, e1, H⟩ := am_bd2 H
  have hF_tt3 := hF_t.tr ((wX10_draw e1).mono (S' := fun b => b = 218 ∨ b = 234) (fun b hb => (by have hb : b = 218 := hb; show b = 218 ∨ b = 234; omega)))
  obtain ⟨tt6, E7, H⟩ := am_bd H
  have hF_tt6 : Sm (fun b => b = 218 ∨ b = 234) t tt6 := by
    clear H
    have H := E7
    clear E7
    split at H
    · split at H
      · obtain rfl := Option.some.inj H
        exact hF_tt3
      · obtain ⟨x9, _, H⟩ := am_bd H
        obtain ⟨x11, tt12, e10, H⟩ := am_bd2 H
        have hF_tt12 := hF_tt3.tr ((wX10_draw e10).mono (S' := fun b => b = 218 ∨ b = 234) (fun b hb => (by have hb : b = 218 := hb; show b = 218 ∨ b = 234; omega)))
        obtain ⟨x15, _, H⟩ := am_bd H
        obtain ⟨x17, tt18, e16, H⟩ := am_bd2 H
        have hF_tt18 := hF_tt12.tr ((wX10_draw e16).mono (S' := fun b => b = 218 ∨ b = 234) (fun b hb => (by have hb : b = 218 := hb; show b = 218 ∨ b = 234; omega)))
        obtain ⟨x21, _, H⟩ := am_bd H
        split at H
        · obtain rfl := Option.some.inj H
          exact hF_tt18
        · obtain ⟨tt24, e25, H⟩ := am_bd H
          have hF_tt24 := hF_tt18.tr (sm_WA (S := fun b => b = 218 ∨ b = 234) e25 (show 234 = 218 ∨ 234 = 234 by omega))
          obtain rfl := Option.some.inj H
          exact hF_tt24
    · obtain ⟨x27, _, H⟩ := am_bd H
      obtain ⟨x29, tt30, e28, H⟩ := am_bd2 H
      have hF_tt30 := hF_tt3.tr ((wX10_draw e28).mono (S' := fun b => b = 218 ∨ b = 234) (fun b hb => (by have hb : b = 218 := hb; show b = 218 ∨ b = 234; omega)))
      obtain ⟨x33, _, H⟩ := am_bd H
      obtain ⟨tt35, E36, H⟩ := am_bd H
      have hF_tt35 : Sm (fun b => b = 218 ∨ b = 234) t tt35 := by
        clear H
        have H := E36
        clear E36
        split at H
        · obtain rfl := Option.some.inj H
          exact hF_tt30
        · obtain ⟨tt38, e37, H⟩ := am_bd H
          have hF_tt38 := hF_tt30.tr ((wX10_leaves e37).mono (S' := fun b => b = 218 ∨ b = 234) (fun b hb => (by have hb : b = 234 := hb; show b = 218 ∨ b = 234; omega)))
          obtain rfl := Option.some.inj H
          exact hF_tt38
      clear E36
      obtain rfl := Option.some.inj H
      exact hF_tt35
  clear E7
  obtain rfl := Option.some.inj H
  exact hF_tt6
set_option maxHeartbeats 4000000 in
theorem wX10_ages_L59 : ∀ (n : Nat) (v2 : Int32) (v3 : Int32) (v4 : Int32) (v5 : Int32) (t : tS) (w4 : Int32) (t1 : tS), tX10_ages_L59 n v2 v3 v4 v5 t = some (w4, t1) → Sm (fun b => b = 218 ∨ b = 232 ∨ b = 233 ∨ b = 234) t t1 := by
  intro n
  induction n with
  | zero => intro _ _ _ _ _ _ _ H; cases H
  | succ n ih =>
    intro v2 v3 v4 v5 t w4 t1 H
    rw [tX10_ages_L59] at H
    have hF_t : Sm (fun b => b = 218 ∨ b = 232 ∨ b = 233 ∨ b = 234) t t := Sm.rf
    split at H
    · obtain ⟨rfl, rfl⟩ := am_inj2 H
      exact hF_t
    · obtain ⟨x17, _, H⟩ := am_bd H
      obtain ⟨tt19, E20, H⟩ := am_bd H
      have hF_tt19 : Sm (fun b => b = 218 ∨ b = 232 ∨ b = 233 ∨ b = 234) t tt19 := by
        clear H
        have H := E20
        clear E20
        split at H
        · obtain rfl := Option.some.inj H
          exact hF_t
        · obtain ⟨tt22, e21, H⟩ := am_bd H
          have hF_tt22 := hF_t.tr ((wX10_drawsDeed e21).mono (S' := fun b => b = 218 ∨ b = 232 ∨ b = 233 ∨ b = 234) (fun b hb => (by have hb : b = 218 ∨ b = 234 := hb; show b = 218 ∨ b = 232 ∨ b = 233 ∨ b = 234; omega)))
          obtain rfl := Option.some.inj H
          exact hF_tt22
      clear E20
      obtain ⟨tt25, e24, H⟩ := am_bd H
      have hF_tt25 := hF_tt19.tr ((wX10_passes e24).mono (S' := fun b => b = 218 ∨ b = 232 ∨ b = 233 ∨ b = 234) (fun b hb => (by have hb : b = 218 ∨ b = 232 ∨ b = 233 ∨ b = 234 := hb; show b = 218 ∨ b = 232 ∨ b = 233 ∨ b = 234; omega)))
      obtain ⟨x29, _, H⟩ := am_bd H
      exact hF_tt25.tr (ih _ _ _ _ _ _ _ H)
set_option maxHeartbeats 4000000 in
theorem wX10_ages {a1 : Int32} {a2 : Int32} {a3 : Int32} {t : tS} {r : Int32} {t1 : tS} (H : tX10_ages a1 a2 a3 t = some (r, t1)) : Sm (fun b => b = 218 ∨ b = 232 ∨ b = 233 ∨ b = 234) t t1 := by
  unfold tX10_ages at H
  have hF_t : Sm (fun b => b = 218 ∨ b = 232 ∨ b = 233 ∨ b = 234) t t := Sm.rf
  obtain ⟨tt2, et3, H⟩ := am_bd H
  have hF_tt2 := hF_t.tr (sm_I (S := fun b => b = 218 ∨ b = 232 ∨ b = 233 ∨ b = 234) et3 (show 218 = 218 ∨ 218 = 232 ∨ 218 = 233 ∨ 218 = 234 by omega))
  obtain ⟨x5, _, H⟩ := am_bd H
  split at H
  · obtain ⟨rfl, rfl⟩ := am_inj2 H
    exact hF_tt2
  · obtain ⟨x7, _, H⟩ := am_bd H
    split at H
    · obtain ⟨rfl, rfl⟩ := am_inj2 H
      exact hF_tt2
    · obtain ⟨x9, _, H⟩ := am_bd H
      split at H
      · obtain ⟨tt11, e10, H⟩ := am_bd H
        have hF_tt11 := hF_tt2.tr ((wX10_copies e10).mono (S' := fun b => b = 218 ∨ b = 232 ∨ b = 233 ∨ b = 234) (fun b hb => (by have hb : b = 234 := hb; show b = 218 ∨ b = 232 ∨ b = 233 ∨ b = 234; omega)))
        obtain ⟨tt14, et15, H⟩ := am_bd H
        have hF_tt14 := hF_tt11.tr (sm_J (S := fun b => b = 218 ∨ b = 232 ∨ b = 233 ∨ b = 234) et15 (show 218 = 218 ∨ 218 = 232 ∨ 218 = 233 ∨ 218 = 234 by omega))
        obtain ⟨lw30, tt33, E31, H⟩ := am_bd2 H
        have hF_tt33 := hF_tt14.tr (Sm.mono (S' := fun b => b = 218 ∨ b = 232 ∨ b = 233 ∨ b = 234) (wX10_ages_L59 _ _ _ _ _ _ _ _ E31) (fun b hb => (by have hb : b = 218 ∨ b = 232 ∨ b = 233 ∨ b = 234 := hb; show b = 218 ∨ b = 232 ∨ b = 233 ∨ b = 234; omega)))
        clear E31
        obtain ⟨lw34, E35, H⟩ := am_bd H
        clear E35
        obtain ⟨js36, E37, H⟩ := am_bd H
        clear E37
        obtain ⟨rfl, rfl⟩ := am_inj2 H
        exact hF_tt33
      · obtain ⟨rfl, rfl⟩ := am_inj2 H
        exact hF_tt2
set_option maxHeartbeats 4000000 in
theorem wX10_mark {a1 : Int32} {a2 : Int32} {t : tS} {r : Int32} {t1 : tS} (H : tX10_mark a1 a2 t = some (r, t1)) : Sm (fun b => b = 218 ∨ b = 234 ∨ b = 235) t t1 := by
  unfold tX10_mark at H
  have hF_t : Sm (fun b => b = 218 ∨ b = 234 ∨ b = 235) t t := Sm.rf
  obtain ⟨tt2, et3, H⟩ := am_bd H
  have hF_tt2 := hF_t.tr (sm_I (S := fun b => b = 218 ∨ b = 234 ∨ b = 235) et3 (show 218 = 218 ∨ 218 = 234 ∨ 218 = 235 by omega))
  obtain ⟨x5, _, H⟩ := am_bd H
  split at H
  · obtain ⟨rfl, rfl⟩ := am_inj2 H
    exact hF_tt2
  · split at H
    · obtain ⟨tt8, e9, H⟩ := am_bd H
      have hF_tt8 := hF_tt2.tr (sm_WA (S := fun b => b = 218 ∨ b = 234 ∨ b = 235) e9 (show 235 = 218 ∨ 235 = 234 ∨ 235 = 235 by omega))
      obtain ⟨js10, E11, H⟩ := am_bd H
      clear E11
      obtain ⟨js12, E13, H⟩ := am_bd H
      clear E13
      obtain ⟨tt15, e14, H⟩ := am_bd H
      have hF_tt15 := hF_tt8.tr ((wX10_copies e14).mono (S' := fun b => b = 218 ∨ b = 234 ∨ b = 235) (fun b hb => (by have hb : b = 234 := hb; show b = 218 ∨ b = 234 ∨ b = 235; omega)))
      obtain ⟨js17, E18, H⟩ := am_bd H
      clear E18
      obtain ⟨tt20, et21, H⟩ := am_bd H
      have hF_tt20 := hF_tt15.tr (sm_I (S := fun b => b = 218 ∨ b = 234 ∨ b = 235) et21 (show 218 = 218 ∨ 218 = 234 ∨ 218 = 235 by omega))
      obtain ⟨rfl, rfl⟩ := am_inj2 H
      exact hF_tt20
    · obtain ⟨x23, _, H⟩ := am_bd H
      split at H
      · obtain ⟨tt26, e27, H⟩ := am_bd H
        have hF_tt26 := hF_tt2.tr (sm_WA (S := fun b => b = 218 ∨ b = 234 ∨ b = 235) e27 (show 235 = 218 ∨ 235 = 234 ∨ 235 = 235 by omega))
        obtain ⟨js28, E29, H⟩ := am_bd H
        clear E29
        obtain ⟨js30, E31, H⟩ := am_bd H
        clear E31
        obtain ⟨tt33, e32, H⟩ := am_bd H
        have hF_tt33 := hF_tt26.tr ((wX10_copies e32).mono (S' := fun b => b = 218 ∨ b = 234 ∨ b = 235) (fun b hb => (by have hb : b = 234 := hb; show b = 218 ∨ b = 234 ∨ b = 235; omega)))
        obtain ⟨js35, E36, H⟩ := am_bd H
        clear E36
        obtain ⟨tt38, et39, H⟩ := am_bd H
        have hF_tt38 := hF_tt33.tr (sm_I (S := fun b => b = 218 ∨ b = 234 ∨ b = 235) et39 (show 218 = 218 ∨ 218 = 234 ∨ 218 = 235 by omega))
        obtain ⟨rfl, rfl⟩ := am_inj2 H
        exact hF_tt38
      · obtain ⟨rfl, rfl⟩ := am_inj2 H
        exact hF_tt2
