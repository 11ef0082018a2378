/-! ===== ONE state for both: every call of the law ===== -/
section
variable {v nh nd st a b n m : Nat} {V : Nat → Nat → Nat} {S : Nat → Nat → Int32} {t0 t0' t t' : tS}
theorem GP.two {w p q N : Nat} {t1 t1' : tS} (h : GP v w p q nh nd st V N t t') (c1 : ∀ b k, b < 218 → t1.1 b k = t.1 b k) (c2 : ∀ b i, b < 218 → t1.2.1 b i = t.2.1 b i) (c3 : ∀ b i, b < 218 → t1.2.2.1 b i = t.2.2.1 b i) (c4 : t1.2.2.2.2 0 = t.2.2.2.2 0) (m1 : ∀ b k, 218 ≤ b → t1'.1 b k = t'.1 b k) (m2 : ∀ b i, 218 ≤ b → t1'.2.1 b i = t'.2.1 b i) (m3 : ∀ b i, 218 ≤ b → b ≠ 238 → t1'.2.2.1 b i = t'.2.2.1 b i) : GP v w p q nh nd st V N t1 t1' := by
  have h4 := h.h4
  have h6 := h.h6
  have hv := h.1
  have hpq := h.2.1
  obtain ⟨k1, k2, k3, k4, k5, k6, k7, k8, k9, k10, ⟨ns, kd, k11⟩, k12, k13⟩ := h
  have st' : ∀ a b, a + 7 < 218 → ST nh nd st V a b N t t' → ST nh nd st V a b N t1 t1' := by
    intro a b ha hs
    exact hs.to (Nat.le_refl _) (fun n m S hc => hc.ag (c1 _ _ (by omega)) (c1 _ _ (by omega)) (c1 _ _ (by omega)) (fun j i _ _ => c2 _ _ (by omega))) (fun n m S hc => hc.copy h4 h6 (fun j hj => m2 _ _ (by omega)) (fun j => m2 _ _ (by omega)))
  have se' : ∀ a b, a + 3 < 218 → SE nh a b t t' → SE nh a b t1 t1' := by
    intro a b ha hs
    exact hs.ag (c1 _ _ (by omega)) (fun i _ => c2 _ _ (by omega)) (fun i _ => c2 _ _ (by omega)) (fun j _ _ => m2 _ _ (by omega))
  refine ⟨k1, k2, by rw [c4]; exact k3, ?_, st' _ _ (by omega) k5, ?_, ?_, se' _ _ (by omega) k8, ?_, ?_, ⟨ns, kd, ?_⟩, ?_, k13⟩
  · exact k4.ag (fun k => c1 _ _ (by omega)) (fun j i _ _ => c2 _ _ (by omega)) (c1 _ _ (by omega)) (fun i => c2 _ _ (by omega)) (fun i => m2 _ _ (by omega)) (fun i => m2 _ _ (by omega)) (fun i => m2 _ _ (by omega))
  · exact k6.to (Nat.le_refl _) (c1 _ _ (by omega)) (c1 _ _ (by omega)) (m1 _ _ (by omega)) (fun s r _ _ hs => st' _ _ (by omega) hs)
  · intro m hm
    rw [c1 _ _ (by omega), m2 235 m (by omega)]
    rcases k7 m hm with g | ⟨g1, g2, g3, g4⟩
    · exact .inl g
    · exact .inr ⟨g1, g2, st' _ _ (by omega) g3, se' _ _ (by omega) g4⟩
  · exact k9.ag (fun k => c1 _ _ (by omega)) (fun j i _ _ => c2 _ _ (by omega)) (fun i => m2 _ _ (by omega))
  · exact k10.ag (c1 _ _ (by omega)) (fun i => c2 _ _ (by omega)) (m1 _ _ (by omega)) (fun i => m2 _ _ (by omega))
  · exact k11.ag (fun i => c3 _ _ (by omega)) (fun i => c3 _ _ (by omega)) (m1 _ _ (by omega)) (fun i => m3 _ _ (by omega) (by omega)) (fun i => m2 _ _ (by omega))
  · exact k12.ag (fun i => m3 _ _ (by omega) (by omega))
theorem GR.fx {N : Nat} {t1 : tS} (h : GR N t t') (g : FX t' t1) : GR N t t1 := by
  obtain ⟨v, w, p, q, nh, nd, st, V, h⟩ := h
  exact ⟨v, w, p, q, nh, nd, st, V, h.two (fun _ _ _ => rfl) (fun _ _ _ => rfl) (fun _ _ _ => rfl) rfl g.1 g.2.1 (fun b i h1 _ => g.2.2 b i h1)⟩
theorem GR.fm {N : Nat} {t1 : tS} (h : GR N t t') (g : FM t t1) : GR N t1 t' := by
  obtain ⟨v, w, p, q, nh, nd, st, V, h⟩ := h
  exact ⟨v, w, p, q, nh, nd, st, V, h.two g.1 g.2.1 g.2.2.1 (g.2.2.2 0 (by omega)) (fun _ _ _ => rfl) (fun _ _ _ => rfl) (fun _ _ _ _ => rfl)⟩
theorem GR.dy {N : Nat} (h : GR N t t') : Dy t := by
  obtain ⟨v, w, p, q, nh, nd, st, V, h⟩ := h
  have h1 := h.1
  have h2 := h.2.1
  obtain ⟨r1, r2, r3, r4⟩ := h.2.2.1
  unfold Dy
  rw [r1, r2, r3, r4]
  omega
theorem Sm.fx {S : Nat → Prop} {t1 : tS} (h : Sm S t t1) (hs : ∀ b, S b → b < 218) : FX t t1 := by
  refine ⟨fun b k hb => ?_, fun b k hb => ?_, fun b k hb => ?_⟩
  · rw [(h b (fun z => by have := hs b z; omega)).1]
  · rw [(h b (fun z => by have := hs b z; omega)).2.1]
  · rw [(h b (fun z => by have := hs b z; omega)).2.2.1]
theorem Sm.fm {S : Nat → Prop} {t1 : tS} (h : Sm S t t1) (hs : ∀ b, S b → 218 ≤ b) : FM t t1 := by
  refine ⟨fun b k hb => ?_, fun b k hb => ?_, fun b k hb => ?_, fun b hb => ?_⟩
  · rw [(h b (fun z => by have := hs b z; omega)).1]
  · rw [(h b (fun z => by have := hs b z; omega)).2.1]
  · rw [(h b (fun z => by have := hs b z; omega)).2.2.1]
  · rw [(h b (fun z => by have := hs b z; omega)).2.2.2.2]
theorem YQ.fx {t1 : tS} (h : YQ t t1) : FX t t1 := ⟨fun b k hb => h.1 b k (by omega), fun b i hb => h.2.1 b i (by omega) (by omega) (by omega) (by omega), fun b i _ => by rw [h.2.2.1]⟩
theorem ZQ.fm {t1 : tS} (h : ZQ t t1) : FM t t1 := ⟨fun b k hb => h.1 b k (by omega), fun b i hb => h.2.1 b i (by omega) (by omega) (by omega) (by omega), fun b i _ => by rw [h.2.2.1], fun b _ => by rw [h.2.2.2]⟩
theorem QA.h {N : Nat} {o o' : Option (Int32 × tS)} (h : GR N t t') (q : QA o o' t t') (hN : N + 1 ≤ 1000) : QH (N + 1) o o' t t' := by
  obtain ⟨v, w, p, q', nh, nd, st, V, h⟩ := h
  obtain ⟨r, t1, t1', e1, e2, e3, e4⟩ := q
  exact ⟨r, t1, t1', e1, e2, ⟨v, w, p, q', nh, nd, st, V, (h.q e3 e4).mo (by omega) hN⟩, e3.fx, e4.fm⟩
/-- two calls on the one state -/
def QS (N : Nat) (f g : tS → Option (Int32 × tS)) (t : tS) : Prop := ∃ r t1 t2, f t = some (r, t1) ∧ g t1 = some (r, t2) ∧ GR N t2 t2
theorem QH.s {N : Nat} {f g : tS → Option (Int32 × tS)} (h : GR N t t) (hq : ∀ t', GR N t t' → QH (N + 1) (f t) (g t') t t') : QS (N + 1) f g t := by
  obtain ⟨r, t1, t1', e1, e2, e3, e4, e5⟩ := hq t h
  obtain ⟨r', s1, s2, f1, f2, f3, f4, f5⟩ := hq t1 (h.fx e4)
  rw [e1] at f1
  obtain ⟨rfl, rfl⟩ := am_inj2 f1
  exact ⟨r, t1, s2, e1, f2, f3.fm f5⟩
/-- a question that changes nothing of the class -/
def QT (N : Nat) (f : tS → Option Int32) (g : tS → Option (Int32 × tS)) (t : tS) : Prop := ∃ r t2, f t = some r ∧ g t = some (r, t2) ∧ GR N t2 t2
theorem QB.s {N : Nat} {f : tS → Option Int32} {g : tS → Option (Int32 × tS)} (h : GR N t t) (q : QB (f t) (g t) t) (hN : N + 1 ≤ 1000) : QT (N + 1) f g t := by
  obtain ⟨r, e1, e2⟩ := q
  obtain ⟨v, w, p, q', nh, nd, st, V, h⟩ := h
  refine ⟨r, uI t 218 0 0, e1, e2, v, w, p, q', nh, nd, st, V, ?_⟩
  have z : ZQ t (uI t 218 0 0) := ZQ.th (.inl rfl)
  exact ((h.q YQ.rf z).mo (by omega) hN).two z.fm.1 z.fm.2.1 z.fm.2.2.1 (z.fm.2.2.2 0 (by omega)) (fun _ _ _ => rfl) (fun _ _ _ => rfl) (fun _ _ _ _ => rfl)
theorem c_where {N : Nat} (h : GR N t t) (hN : N + 1 ≤ 1000) (x y : Int32) : QS (N + 1) (tX9_where x y) (tX10_where x y) t := QH.s h (fun t' g => QA.h g (by obtain ⟨v, w, p, q, nh, nd, st, V, g⟩ := g; exact q_where g.qr x y) hN)
theorem c_next {N : Nat} (h : GR N t t) (hN : N + 1 ≤ 1000) (x : Int32) : QS (N + 1) (tX9_next x) (tX10_next x) t := QH.s h (fun t' g => QA.h g (by obtain ⟨v, w, p, q, nh, nd, st, V, g⟩ := g; exact q_next g.qr x) hN)
theorem c_gone {N : Nat} (h : GR N t t) (hN : N + 1 ≤ 1000) (x : Int32) : QS (N + 1) (tX9_gone x) (tX10_gone x) t := QH.s h (fun t' g => QA.h g (by obtain ⟨v, w, p, q, nh, nd, st, V, g⟩ := g; exact q_gone g.qr x) hN)
theorem c_crowd {N : Nat} (h : GR N t t) (hN : N + 1 ≤ 1000) : QS (N + 1) tX9_crowd tX10_crowd t := QH.s h (fun t' g => QA.h g (by obtain ⟨v, w, p, q, nh, nd, st, V, g⟩ := g; exact q_crowd g.qr ) hN)
theorem c_refused {N : Nat} (h : GR N t t) (hN : N + 1 ≤ 1000) (x : Int32) : QS (N + 1) (tX9_refused x) (tX10_refused x) t := QH.s h (fun t' g => QA.h g (by obtain ⟨v, w, p, q, nh, nd, st, V, g⟩ := g; exact q_refused g.qr x) hN)
theorem c_meets {N : Nat} (h : GR N t t) (hN : N + 1 ≤ 1000) (x y : Int32) : QS (N + 1) (tX9_meets x y) (tX10_meets x y) t := QH.s h (fun t' g => QA.h g (by obtain ⟨v, w, p, q, nh, nd, st, V, g⟩ := g; exact q_meets g.qr x y) hN)
theorem c_who {N : Nat} (h : GR N t t) (hN : N + 1 ≤ 1000) : QS (N + 1) tX9_who tX10_who t := QH.s h (fun t' g => QA.h g (by obtain ⟨v, w, p, q, nh, nd, st, V, g⟩ := g; exact q_who g ) hN)
theorem c_look {N : Nat} (h : GR N t t) (hN : N + 1 ≤ 1000) : QS (N + 1) tX9_look tX10_look t := QH.s h (fun t' g => QA.h g (by obtain ⟨v, w, p, q, nh, nd, st, V, g⟩ := g; exact q_look g ) hN)
theorem c_spare {N : Nat} (h : GR N t t) (hN : N + 1 ≤ 1000) : QS (N + 1) tX9_spare tX10_spare t := QH.s h (fun t' g => QA.h g (by obtain ⟨v, w, p, q, nh, nd, st, V, g⟩ := g; exact q_spare g ) hN)
theorem c_defer {N : Nat} (h : GR N t t) (hN : N + 1 ≤ 1000) (x : Int32) : QS (N + 1) (tX9_defer x) (tX10_defer x) t := QH.s h (fun t' g => QA.h g (by obtain ⟨v, w, p, q, nh, nd, st, V, g⟩ := g; exact q_defer g x) hN)
theorem c_judged {N : Nat} (h : GR N t t) (hN : N + 1 ≤ 1000) (x : Int32) : QS (N + 1) (tX9_judged x) (tX10_judged x) t := QH.s h (fun t' g => QA.h g (by obtain ⟨v, w, p, q, nh, nd, st, V, g⟩ := g; exact q_judged g x) hN)
theorem c_ages {N : Nat} (h : GR N t t) (hN : N + 1 ≤ 1000) (x y z : Int32) : QS (N + 1) (tX9_ages x y z) (tX10_ages x y z) t := QH.s h (fun t' g => QA.h g (by obtain ⟨v, w, p, q, nh, nd, st, V, g⟩ := g; exact q_ages g x y z) hN)
theorem c_chance {N : Nat} (h : GR N t t) (hN : N + 1 ≤ 1000) (x y z : Int32) : QS (N + 1) (tX9_chance x y z) (tX10_chance x y z) t := QH.s h (fun t' g => QA.h g (by obtain ⟨v, w, p, q, nh, nd, st, V, g⟩ := g; exact q_chance g x y z) hN)
theorem c_beds {N : Nat} (h : GR N t t) (hN : N + 1 ≤ 1000) (x y : Int32) : QS (N + 1) (tX9_beds x y) (tX10_beds x y) t := QH.s h (fun t' g => QA.h g (by obtain ⟨v, w, p, q, nh, nd, st, V, g⟩ := g; exact q_beds g x y) hN)
theorem c_laying {N : Nat} (h : GR N t t) (hN : N + 1 ≤ 1000) : QS (N + 1) tX9_laying tX10_laying t := QH.s h (fun t' g => QA.h g (by obtain ⟨v, w, p, q, nh, nd, st, V, g⟩ := g; exact q_laying g ) hN)
theorem c_apart {N : Nat} (h : GR N t t) (hN : N + 1 ≤ 1000) : QS (N + 1) tX9_apart tX10_apart t := QH.s h (fun t' g => QA.h g (by obtain ⟨v, w, p, q, nh, nd, st, V, g⟩ := g; exact q_apart g ) hN)
theorem c_house {N : Nat} (h : GR N t t) (hN : N + 1 ≤ 1000) (x y : Int32) : QT (N + 1) (tX9_house x y) (tX10_house x y) t := QB.s h (by obtain ⟨v, w, p, q, nh, nd, st, V, g⟩ := h; exact q_house g.qr x y) hN
theorem c_day {N : Nat} (h : GR N t t) (hN : N + 1 ≤ 1000) (x y : Int32) : QT (N + 1) (tX9_day x y) (tX10_day x y) t := QB.s h (by obtain ⟨v, w, p, q, nh, nd, st, V, g⟩ := h; exact q_day g.qr x y) hN
theorem c_quiet {N : Nat} (h : GR N t t) (hN : N + 1 ≤ 1000) : QT (N + 1) tX9_quiet tX10_quiet t := QB.s h (by obtain ⟨v, w, p, q, nh, nd, st, V, g⟩ := h; exact q_quiet g.qr ) hN
theorem c_peace {N : Nat} (h : GR N t t) (hN : N + 1 ≤ 1000) : QT (N + 1) tX9_peace tX10_peace t := QB.s h (by obtain ⟨v, w, p, q, nh, nd, st, V, g⟩ := h; exact q_peace g.qr ) hN
theorem c_loudest {N : Nat} (h : GR N t t) (hN : N + 1 ≤ 1000) : QT (N + 1) tX9_loudest tX10_loudest t := QB.s h (by obtain ⟨v, w, p, q, nh, nd, st, V, g⟩ := h; exact q_loudest g.qr ) hN
theorem c_eldest {N : Nat} (h : GR N t t) (hN : N + 1 ≤ 1000) (x : Int32) : QT (N + 1) (tX9_eldest x) (tX10_eldest x) t := QB.s h (by obtain ⟨v, w, p, q, nh, nd, st, V, g⟩ := h; exact q_eldest g.qr x) hN
theorem c_through {N : Nat} (h : GR N t t) (hN : N + 1 ≤ 1000) (x y : Int32) : QT (N + 1) (tX9_through x y) (tX10_through x y) t := QB.s h (by obtain ⟨v, w, p, q, nh, nd, st, V, g⟩ := h; exact q_through g.qr x y) hN
theorem c_count {N : Nat} (h : GR N t t) (hN : N + 1 ≤ 1000) (x : Int32) : QT (N + 1) (tX9_count x) (tX10_count x) t := QB.s h (by obtain ⟨v, w, p, q, nh, nd, st, V, g⟩ := h; exact q_count g x) hN
theorem c_year {N : Nat} (h : GR N t t) (hN : N + 1 ≤ 1000) : QS (N + 1) tX9_year tX10_year t := QH.s h (fun t' g => g_year g hN)
theorem c_vale {N : Nat} (h : GR N t t) (hN : N + 1 ≤ 1000) : QS (N + 1) tX9_vale tX10_vale t := QH.s h (fun t' g => g_vale g hN)
theorem c_date {N : Nat} (h : GR N t t) (hN : N + 1 ≤ 1000) : QS (N + 1) tX9_date tX10_date t := QH.s h (fun t' g => by
  obtain ⟨r, t1, t1', e1, e2, e3⟩ := g_date g hN 
  have s1 := wX9_date g.dy e1
  have s2 := wX10_date e2
  exact ⟨r, t1, t1', e1, e2, e3, s1.fx (fun b z => by omega), s2.fm (fun b z => by omega)⟩)
theorem c_move {N : Nat} (h : GR N t t) (hN : N + 1 ≤ 1000) (x y : Int32) : QS (N + 1) (tX9_move x y) (tX10_move x y) t := QH.s h (fun t' g => by
  obtain ⟨r, t1, t1', e1, e2, e3⟩ := g_move g hN x y
  have s1 := wX9_move g.dy e1
  have s2 := wX10_move e2
  exact ⟨r, t1, t1', e1, e2, e3, s1.fx (fun b z => by omega), s2.fm (fun b z => by omega)⟩)
theorem c_send {N : Nat} (h : GR N t t) (hN : N + 1 ≤ 1000) (x : Int32) : QS (N + 1) (tX9_send x) (tX10_send x) t := QH.s h (fun t' g => by
  obtain ⟨r, t1, t1', e1, e2, e3⟩ := g_send g hN x
  have s1 := wX9_send g.dy e1
  have s2 := wX10_send e2
  exact ⟨r, t1, t1', e1, e2, e3, s1.fx (fun b z => by omega), s2.fm (fun b z => by omega)⟩)
theorem c_build {N : Nat} (h : GR N t t) (hN : N + 1 ≤ 1000) (x : Int32) : QS (N + 1) (tX9_build x) (tX10_build x) t := QH.s h (fun t' g => by
  obtain ⟨r, t1, t1', e1, e2, e3⟩ := g_build g hN x
  have s1 := wX9_build g.dy e1
  have s2 := wX10_build e2
  exact ⟨r, t1, t1', e1, e2, e3, s1.fx (fun b z => by omega), s2.fm (fun b z => by omega)⟩)
theorem c_undo {N : Nat} (h : GR N t t) (hN : N + 1 ≤ 1000) : QS (N + 1) tX9_undo tX10_undo t := QH.s h (fun t' g => by
  obtain ⟨r, t1, t1', e1, e2, e3⟩ := g_undo g hN 
  have s1 := wX9_undo g.dy e1
  have s2 := wX10_undo e2
  exact ⟨r, t1, t1', e1, e2, e3, s1.fx (fun b z => by omega), s2.fm (fun b z => by omega)⟩)
theorem c_feed {N : Nat} (h : GR N t t) (hN : N + 1 ≤ 1000) (x y z : Int64) : QS (N + 1) (tX9_feed x y z) (tX10_feed x y z) t := QH.s h (fun t' g => by
  obtain ⟨r, t1, t1', e1, e2, e3⟩ := g_feed g hN x y z
  have s1 := wX9_feed g.dy e1
  have s2 := wX10_feed e2
  exact ⟨r, t1, t1', e1, e2, e3, s1.fx (fun b z => by omega), s2.fm (fun b z => by omega)⟩)
theorem c_see {N : Nat} (h : GR N t t) (hN : N + 1 ≤ 1000) (x y : Int32) : QS (N + 1) (tX9_see x y) (tX10_see x y) t := QH.s h (fun t' g => by
  obtain ⟨r, t1, t1', e1, e2, e3⟩ := g_see g hN x y
  have s1 := wX9_see g.dy e1
  have s2 := wX10_see e2
  exact ⟨r, t1, t1', e1, e2, e3, s1.fx (fun b z => by omega), s2.fm (fun b z => by omega)⟩)
theorem c_mark {N : Nat} (h : GR N t t) (hN : N + 1 ≤ 1000) (x y : Int32) : QS (N + 1) (tX9_mark x y) (tX10_mark x y) t := QH.s h (fun t' g => by
  obtain ⟨r, t1, t1', e1, e2, e3⟩ := g_mark g hN x y
  have s1 := wX9_mark g.dy e1
  have s2 := wX10_mark e2
  exact ⟨r, t1, t1', e1, e2, e3, s1.fx (fun b z => by omega), s2.fm (fun b z => by omega)⟩)
end
