/-! ===== the class's rests over the abstract machine: its own two callees alone ===== -/
def am_okB (q : am_Q) (z : Nat × am_I) : Bool := decide (decode q.2.1 z.1 = .ok (z.2.1, z.2.2.1)) && (am_isSw z.2.1 || z.2.2.1 == am_ln z.2.1) && am_ck q.1.cls (q.2.2.2.2.1 == 2) z.2 && am_ckb z.1 z.2 && am_ckI am_T q.1.cls z.2
theorem am_okB_ok {q : am_Q} {z : Nat × am_I} (h : am_okB q z = true) : am_okI am_T q z.1 z.2 := by
  simp only [am_okB, Bool.and_eq_true, Bool.or_eq_true, decide_eq_true_eq, beq_iff_eq] at h
  obtain ⟨⟨⟨⟨h1, h2⟩, h3⟩, h4⟩, h5⟩ := h
  exact ⟨h1, fun z => by rcases h2 with h2 | h2; (rw [z] at h2; cases h2); exact h2, h3, h4, h5⟩
theorem am_at_mem : ∀ (l : List (Nat × am_I)) (pc : Nat) (i : am_I), am_at l pc = some i → (pc, i) ∈ l
  | [], pc, i, h => by cases h
  | q :: l, pc, i, h => by
    unfold am_at at h
    cases hb : Nat.beq q.1 pc with
    | true =>
      rw [hb] at h
      have e := Nat.eq_of_beq_eq_true hb
      cases h
      rw [← e]
      exact List.mem_cons_self
    | false =>
      rw [hb] at h
      exact List.mem_cons_of_mem _ (am_at_mem l pc i h)
theorem am_chunk {α : Type} {l : List α} {f : α → Bool} (c : Nat) : ∀ (n k : Nat), (∀ j, j < n → (((l.drop (k + c * j))).take c).all f = true) → l.length ≤ k + c * n → (l.drop k).all f = true
  | 0, k, _, hl => by rw [List.drop_of_length_le (by omega)]; rfl
  | n + 1, k, h, hl => by
    have h0 := h 0 (by omega)
    rw [Nat.mul_zero, Nat.add_zero] at h0
    have h1 := am_chunk (l := l) (f := f) c n (k + c) (fun j hj => by
      have := h (j + 1) (by omega)
      rw [Nat.mul_succ, Nat.add_comm (c * j) c, ← Nat.add_assoc] at this
      exact this) (by rw [Nat.mul_succ] at hl; omega)
    have e : l.drop k = (l.drop k).take c ++ l.drop (k + c) := by
      rw [← List.drop_drop]
      exact (List.take_append_drop c (l.drop k)).symm
    rw [e, List.all_append, h0, h1]
    rfl
theorem am_okC {q : am_Q} {l : List (Nat × am_I)} (h : l.all (am_okB q) = true) : ∀ pc i, am_at l pc = some i → am_okI am_T q pc i := fun pc i e => am_okB_ok (z := (pc, i)) (List.all_eq_true.mp h _ (am_at_mem l pc i e))
def am_N0 : Nat × (Nat → Int32) → am_C := fun _ _ _ _ _ _ => False
theorem am_N0_le {sc : Nat × (Nat → Int32)} : am_Cle (am_N0 sc) := fun _ _ _ _ _ e => (show False from e).elim
theorem am_Sp0 {l : Launch} : am_Sp l am_T am_N0 := by
  unfold am_Sp
  intros
  rename_i hN _ _ _ _
  exact (show False from hN).elim
theorem am_mkN {N : Nat × (Nat → Int32) → am_C} {sc : Nat × (Nat → Int32)} {d m : Nat} {q : am_Q} {As : List Value} {h h' : am_H} {v : Option Value} (hT : am_T m = some q) (hth : am_this q As h) (hin : q.2.2.2.2.1 = 2 → ∃ a r, As = .ref a :: r) (hl : (am_ent As).length ≤ q.2.2.1) (hn : As.length = q.2.2.2.2.2.1 + (if q.2.2.2.2.1 = 1 then 0 else 1))
    (key : am_G sc (am_Cl am_T N sc d) q.2.2.2.2.2.2 (fun t => t.2 = h' ∧ am_ret q.2.2.2.1 q.2.2.2.2.2.2 t.1 = some v) ((0, am_pad (am_ent As) q.2.2.1, []), h)) : am_Cl am_T N sc (d + 1) m As h v h' := by
  obtain ⟨⟨f, h9⟩, hR, h1, h2⟩ := key
  cases h1
  exact Or.inl ⟨q, f, hT, hth, hin, hl, hn, hR, h2⟩
set_option maxHeartbeats 4000000 in
set_option maxRecDepth 100000 in
theorem l0X9_within {sc : Nat × (Nat → Int32)} {a0 : Int32} {a1 : Int32} {a2 : Int32} {h : am_H} {r : Int32} (H : fX9_within a0 a1 a2 h = some r) : am_Cl am_T am_N0 sc 1 131 [.int a0, .int a1, .int a2] h (some (.int r)) h := by
  unfold fX9_within at H
  refine am_mkN (q := qX9_within) rfl (fun z => absurd z (by decide)) (fun z => absurd z (by decide)) (Nat.le_of_ble_eq_true rfl) rfl ?_
  show am_G sc (am_Cl am_T am_N0 sc 0) (am_at kX9_within) (fun t => t.2 = h ∧ am_ret 2 (am_at kX9_within) t.1 = some (some (.int r))) ((0, [some (.int a0), some (.int a1), some (.int a2)], []), h)
  refine am_G.fr 2 (g := (2, [some (.int a0), some (.int a1), some (.int a2)], [.int a1, .int a0])) rfl ?_
  obtain ⟨js1, E6, H⟩ := am_bd H
  refine am_G.sq (t := ((15, [none, none, none], [.int js1]), h)) ?_ ?_
  · clear H
    have H := E6
    clear E6
    by_cases c2 : a0 < a1
    · rw [if_pos c2] at H
      refine am_G.br (tgt := 14) rfl rfl (if_pos c2) rfl ?_
      refine am_G.fr 1 (g := (15, [some (.int a0), some (.int a1), some (.int a2)], [.int ((0 : Int32))])) rfl ?_
      obtain rfl := Option.some.inj H
      refine am_G.fg [none, none, none] (by simp only [am_sub, and_self]) ?_
      exact am_G.nd rfl
    · rw [if_neg c2] at H
      refine am_G.br (tgt := 5) rfl rfl (if_neg c2) rfl ?_
      refine am_G.fr 2 (g := (7, [some (.int a0), some (.int a1), some (.int a2)], [.int a2, .int a0])) rfl ?_
      by_cases c3 : a2 < a0
      · rw [if_pos c3] at H
        refine am_G.br (tgt := 14) rfl rfl (if_pos c3) rfl ?_
        refine am_G.fr 1 (g := (15, [some (.int a0), some (.int a1), some (.int a2)], [.int ((0 : Int32))])) rfl ?_
        obtain rfl := Option.some.inj H
        refine am_G.fg [none, none, none] (by simp only [am_sub, and_self]) ?_
        exact am_G.nd rfl
      · rw [if_neg c3] at H
        refine am_G.br (tgt := 10) rfl rfl (if_neg c3) rfl ?_
        refine am_G.fr 2 (g := (15, [some (.int a0), some (.int a1), some (.int a2)], [.int ((1 : Int32))])) rfl ?_
        obtain rfl := Option.some.inj H
        refine am_G.fg [none, none, none] (by simp only [am_sub, and_self]) ?_
        exact am_G.nd rfl
  · clear E6
    obtain ⟨b4, e5, H⟩ := am_bd H
    obtain rfl := Option.some.inj H
    exact am_G.nd ⟨rfl, am_ret2 rfl e5⟩
set_option maxHeartbeats 4000000 in
set_option maxRecDepth 100000 in
theorem l0X9_gain {sc : Nat × (Nat → Int32)} {a0 : Int32} {a1 : Int32} {a2 : Int32} {a3 : Int32} {a4 : Int32} {h : am_H} {r : Int32} (H : fX9_gain a0 a1 a2 a3 a4 h = some r) : am_Cl am_T am_N0 sc 1 123 [.int a0, .int a1, .int a2, .int a3, .int a4] h (some (.int r)) h := by
  unfold fX9_gain at H
  refine am_mkN (q := qX9_gain) rfl (fun z => absurd z (by decide)) (fun z => absurd z (by decide)) (Nat.le_of_ble_eq_true rfl) rfl ?_
  show am_G sc (am_Cl am_T am_N0 sc 0) (am_at kX9_gain) (fun t => t.2 = h ∧ am_ret 1 (am_at kX9_gain) t.1 = some (some (.int r))) ((0, [some (.int a0), some (.int a1), some (.int a2), some (.int a3), some (.int a4)], []), h)
  refine am_G.fr 2 (g := (2, [some (.int a0), some (.int a1), some (.int a2), some (.int a3), some (.int a4)], [.int ((1 : Int32)), .int a0])) rfl ?_
  by_cases c1 : ¬ a0 = ((1 : Int32))
  · rw [if_pos c1] at H
    refine am_G.br (tgt := 17) rfl rfl (if_pos c1) rfl ?_
    refine am_G.fr 2 (g := (19, [some (.int a0), some (.int a1), some (.int a2), some (.int a3), some (.int a4)], [.int ((1 : Int32)), .int a1])) rfl ?_
    obtain ⟨js2, E4, H⟩ := am_bd H
    refine am_G.sq (t := ((28, [none, none, none, none, none], [.int js2]), h)) ?_ ?_
    · clear H
      have H := E4
      clear E4
      by_cases c3 : ¬ a1 = ((1 : Int32))
      · rw [if_pos c3] at H
        refine am_G.br (tgt := 27) rfl rfl (if_pos c3) rfl ?_
        refine am_G.fr 1 (g := (28, [some (.int a0), some (.int a1), some (.int a2), some (.int a3), some (.int a4)], [.int ((0 : Int32))])) rfl ?_
        obtain rfl := Option.some.inj H
        refine am_G.fg [none, none, none, none, none] (by simp only [am_sub, and_self]) ?_
        exact am_G.nd rfl
      · rw [if_neg c3] at H
        refine am_G.br (tgt := 22) rfl rfl (if_neg c3) rfl ?_
        refine am_G.fr 2 (g := (28, [some (.int a0), some (.int a1), some (.int a2), some (.int a3), some (.int a4)], [.int a4])) rfl ?_
        obtain rfl := Option.some.inj H
        refine am_G.fg [none, none, none, none, none] (by simp only [am_sub, and_self]) ?_
        exact am_G.nd rfl
    · clear E4
      obtain rfl := Option.some.inj H
      exact am_G.nd ⟨rfl, rfl⟩
  · rw [if_neg c1] at H
    refine am_G.br (tgt := 5) rfl rfl (if_neg c1) rfl ?_
    refine am_G.fr 2 (g := (7, [some (.int a0), some (.int a1), some (.int a2), some (.int a3), some (.int a4)], [.int ((1 : Int32)), .int a1])) rfl ?_
    obtain ⟨js5, E7, H⟩ := am_bd H
    refine am_G.sq (t := ((16, [none, none, none, none, none], [.int js5]), h)) ?_ ?_
    · clear H
      have H := E7
      clear E7
      by_cases c6 : ¬ a1 = ((1 : Int32))
      · rw [if_pos c6] at H
        refine am_G.br (tgt := 15) rfl rfl (if_pos c6) rfl ?_
        refine am_G.fr 1 (g := (16, [some (.int a0), some (.int a1), some (.int a2), some (.int a3), some (.int a4)], [.int a3])) rfl ?_
        obtain rfl := Option.some.inj H
        refine am_G.fg [none, none, none, none, none] (by simp only [am_sub, and_self]) ?_
        exact am_G.nd rfl
      · rw [if_neg c6] at H
        refine am_G.br (tgt := 10) rfl rfl (if_neg c6) rfl ?_
        refine am_G.fr 3 (g := (16, [some (.int a0), some (.int a1), some (.int a2), some (.int a3), some (.int a4)], [.int (-a2)])) rfl ?_
        obtain rfl := Option.some.inj H
        refine am_G.fg [none, none, none, none, none] (by simp only [am_sub, and_self]) ?_
        exact am_G.nd rfl
    · clear E7
      obtain rfl := Option.some.inj H
      exact am_G.nd ⟨rfl, rfl⟩
def kX9_rests : List (Nat × am_I) := [(0, (.iload_n 1, 1, 0, 0, 0, .null)),
  (1, (.iconst 0, 1, 0, 0, 0, .int 0)),
  (2, (.bipush 9, 2, 0, 0, 0, .int 9)),
  (4, (.invokestatic 188, 3, 131, 3, 744, .null)),
  (7, (.ifCond .eq 23, 3, 0, 0, 0, .null)),
  (10, (.iload_n 2, 1, 0, 0, 0, .null)),
  (11, (.iconst 0, 1, 0, 0, 0, .int 0)),
  (12, (.bipush 9, 2, 0, 0, 0, .int 9)),
  (14, (.invokestatic 188, 3, 131, 3, 744, .null)),
  (17, (.ifCond .eq 13, 3, 0, 0, 0, .null)),
  (20, (.iload_n 3, 1, 0, 0, 0, .null)),
  (21, (.iconst 0, 1, 0, 0, 0, .int 0)),
  (22, (.bipush 9, 2, 0, 0, 0, .int 9)),
  (24, (.invokestatic 188, 3, 131, 3, 744, .null)),
  (27, (.ifCond .ne 14, 3, 0, 0, 0, .null)),
  (41, (.iconst 0, 1, 0, 0, 0, .int 0)),
  (42, (.istore 5, 2, 0, 0, 0, .null)),
  (44, (.iconst 0, 1, 0, 0, 0, .int 0)),
  (45, (.istore 6, 2, 0, 0, 0, .null)),
  (47, (.iload 6, 2, 0, 0, 0, .null)),
  (49, (.iconst 4, 1, 0, 0, 0, .int 4)),
  (50, (.if_icmp .ge 108, 3, 0, 0, 0, .null)),
  (53, (.iload 6, 2, 0, 0, 0, .null)),
  (55, (.iconst 2, 1, 0, 0, 0, .int 2)),
  (56, (.idiv, 1, 0, 0, 0, .null)),
  (57, (.istore 7, 2, 0, 0, 0, .null)),
  (59, (.iload 6, 2, 0, 0, 0, .null)),
  (61, (.iconst 2, 1, 0, 0, 0, .int 2)),
  (62, (.irem, 1, 0, 0, 0, .null)),
  (63, (.istore 8, 2, 0, 0, 0, .null)),
  (65, (.iload 7, 2, 0, 0, 0, .null)),
  (67, (.iload 8, 2, 0, 0, 0, .null)),
  (69, (.iload_n 1, 1, 0, 0, 0, .null)),
  (70, (.iload_n 2, 1, 0, 0, 0, .null)),
  (71, (.iload_n 3, 1, 0, 0, 0, .null)),
  (72, (.invokestatic 301, 3, 123, 5, 1139, .null)),
  (75, (.iconst 1, 1, 0, 0, 0, .int 1)),
  (76, (.iload 7, 2, 0, 0, 0, .null)),
  (78, (.isub, 1, 0, 0, 0, .null)),
  (79, (.iload 8, 2, 0, 0, 0, .null)),
  (81, (.iload_n 1, 1, 0, 0, 0, .null)),
  (82, (.iload_n 2, 1, 0, 0, 0, .null)),
  (83, (.iload_n 3, 1, 0, 0, 0, .null)),
  (84, (.invokestatic 301, 3, 123, 5, 1139, .null)),
  (87, (.if_icmp .lt 7, 3, 0, 0, 0, .null)),
  (90, (.iconst 1, 1, 0, 0, 0, .int 1)),
  (91, (.goto 4, 3, 0, 0, 0, .null)),
  (94, (.iconst 0, 1, 0, 0, 0, .int 0)),
  (95, (.istore 9, 2, 0, 0, 0, .null)),
  (97, (.iload 8, 2, 0, 0, 0, .null)),
  (99, (.iload 7, 2, 0, 0, 0, .null)),
  (101, (.iload_n 1, 1, 0, 0, 0, .null)),
  (102, (.iload_n 2, 1, 0, 0, 0, .null)),
  (103, (.iload_n 3, 1, 0, 0, 0, .null)),
  (104, (.invokestatic 301, 3, 123, 5, 1139, .null)),
  (107, (.iconst 1, 1, 0, 0, 0, .int 1)),
  (108, (.iload 8, 2, 0, 0, 0, .null)),
  (110, (.isub, 1, 0, 0, 0, .null)),
  (111, (.iload 7, 2, 0, 0, 0, .null)),
  (113, (.iload_n 1, 1, 0, 0, 0, .null)),
  (114, (.iload_n 2, 1, 0, 0, 0, .null)),
  (115, (.iload_n 3, 1, 0, 0, 0, .null)),
  (116, (.invokestatic 301, 3, 123, 5, 1139, .null)),
  (119, (.if_icmp .lt 7, 3, 0, 0, 0, .null)),
  (122, (.iconst 1, 1, 0, 0, 0, .int 1)),
  (123, (.goto 4, 3, 0, 0, 0, .null)),
  (126, (.iconst 0, 1, 0, 0, 0, .int 0)),
  (127, (.istore 10, 2, 0, 0, 0, .null)),
  (129, (.iload 9, 2, 0, 0, 0, .null)),
  (131, (.ifCond .eq 21, 3, 0, 0, 0, .null)),
  (134, (.iload 10, 2, 0, 0, 0, .null)),
  (136, (.ifCond .eq 16, 3, 0, 0, 0, .null)),
  (139, (.iload 5, 2, 0, 0, 0, .null)),
  (141, (.iload 4, 2, 0, 0, 0, .null)),
  (143, (.if_icmp .ne 6, 3, 0, 0, 0, .null)),
  (146, (.iload 6, 2, 0, 0, 0, .null)),
  (148, (.ireturn, 1, 0, 0, 0, .null)),
  (149, (.iinc 5 1, 3, 0, 0, 0, .int 1)),
  (152, (.iinc 6 1, 3, 0, 0, 0, .int 1)),
  (155, (.goto (-108), 3, 0, 0, 0, .null)),
  (158, (.iload 4, 2, 0, 0, 0, .null)),
  (160, (.iconst (-1), 1, 0, 0, 0, .int (-1))),
  (161, (.if_icmp .eq 14, 3, 0, 0, 0, .null)),
  (175, (.iload 5, 2, 0, 0, 0, .null)),
  (177, (.ireturn, 1, 0, 0, 0, .null))]
def kL_rests : List (Nat × am_I) := [(0, (.aload 5, 2, 0, 0, 0, .null)),
  (2, (.iconst 0, 1, 0, 0, 0, .int 0)),
  (3, (.aload_n 0, 1, 0, 0, 0, .null)),
  (4, (.iload_n 1, 1, 0, 0, 0, .null)),
  (5, (.iload_n 2, 1, 0, 0, 0, .null)),
  (6, (.iload_n 3, 1, 0, 0, 0, .null)),
  (7, (.iload 4, 2, 0, 0, 0, .null)),
  (12, (.i2l, 1, 0, 0, 0, .null)),
  (13, (.lastore, 1, 0, 0, 0, .null)),
  (14, (.goto 7, 3, 0, 0, 0, .null)),
  (21, (.iconst 0, 1, 0, 0, 0, .int 0)),
  (22, (.ireturn, 1, 0, 0, 0, .null))]
def qX9_rests : am_Q := (yX9_rests, cX9_rests, 11, 1, 0, 4, am_at kX9_rests)
def qL_rests : am_Q := (yL_rests, cL_rests, 7, 1, 1, 6, am_at kL_rests)
theorem ocX9_rests : kX9_rests.all (am_okB qX9_rests) = true := by decide +kernel
theorem ocL_rests : kL_rests.all (am_okB qL_rests) = true := by decide +kernel
theorem okX9_rests : ∀ pc i, qX9_rests.2.2.2.2.2.2 pc = some i → am_okI am_T qX9_rests pc i := am_okC ocX9_rests
theorem okL_rests : ∀ pc i, qL_rests.2.2.2.2.2.2 pc = some i → am_okI am_T qL_rests pc i := am_okC ocL_rests
theorem am_gain0 {a b lo si gi : Int32} {h : am_H} : fX9_gain a b lo si gi h = some (am_gain a b lo si gi) := by
  unfold fX9_gain am_gain
  by_cases h1 : a = 1
  · by_cases h2 : b = 1
    · simp [h1, h2]
    · simp [h1, h2]
  · by_cases h2 : b = 1
    · simp [h1, h2]
    · simp [h1, h2]
theorem am_with0 {x : Int32} {h : am_H} : fX9_within x 0 9 h = some (if 0 ≤ x ∧ x ≤ 9 then 1 else 0) := by
  unfold fX9_within
  by_cases h1 : x < 0
  · rw [if_pos h1, if_neg (fun z => absurd z.1 (Int32.not_le.mpr h1))]
    rfl
  · rw [if_neg h1]
    by_cases h2 : (9 : Int32) < x
    · rw [if_pos h2, if_neg (fun z => absurd z.2 (Int32.not_le.mpr h2))]
      rfl
    · rw [if_neg h2, if_pos ⟨Int32.not_lt.mp h1, Int32.not_lt.mp h2⟩]
      rfl
section RX9
variable {sc : Nat × (Nat → Int32)} {h : am_H} {P : am_F × am_H → Prop} {a0 : Nat} {lo si gi wh : Int32}
set_option maxHeartbeats 4000000 in
theorem rX9_round {fo c fi ot : Int32} (hc : ¬ 4 ≤ c) (hd : am_dv c 2 = some fi) (hr : am_rm' c 2 = some ot)
    (k1 : am_rest1 lo si gi fi ot = true → fo = wh → ∀ ls, P ((148, ls, [.int c]), h))
    (k2 : am_rest1 lo si gi fi ot = true → ¬ fo = wh → am_G sc (am_Cl am_T am_N0 sc 1) (am_at kX9_rests) P ((47, [some (.ref a0), some (.int lo), some (.int si), some (.int gi), some (.int wh), some (.int (fo + 1)), some (.int (c + 1)), none, none, none, none], []), h))
    (k3 : ¬ am_rest1 lo si gi fi ot = true → am_G sc (am_Cl am_T am_N0 sc 1) (am_at kX9_rests) P ((47, [some (.ref a0), some (.int lo), some (.int si), some (.int gi), some (.int wh), some (.int fo), some (.int (c + 1)), none, none, none, none], []), h)) :
    am_G sc (am_Cl am_T am_N0 sc 1) (am_at kX9_rests) P ((47, [some (.ref a0), some (.int lo), some (.int si), some (.int gi), some (.int wh), some (.int fo), some (.int c), none, none, none, none], []), h) := by
  refine am_G.fr 2 (g := (50, [some (.ref a0), some (.int lo), some (.int si), some (.int gi), some (.int wh), some (.int fo), some (.int c), none, none, none, none], [.int 4, .int c])) rfl ?_
  refine am_G.br (tgt := 53) rfl rfl (if_neg hc) rfl ?_
  refine am_G.fr 2 (g := (56, [some (.ref a0), some (.int lo), some (.int si), some (.int gi), some (.int wh), some (.int fo), some (.int c), none, none, none, none], [.int 2, .int c])) rfl ?_
  refine am_G.dv rfl hd ?_
  refine am_G.fr 3 (g := (62, [some (.ref a0), some (.int lo), some (.int si), some (.int gi), some (.int wh), some (.int fo), some (.int c), some (.int fi), none, none, none], [.int 2, .int c])) rfl ?_
  refine am_G.rm rfl hr ?_
  refine am_G.fr 6 (g := (72, [some (.ref a0), some (.int lo), some (.int si), some (.int gi), some (.int wh), some (.int fo), some (.int c), some (.int fi), some (.int ot), none, none], [.int gi, .int si, .int lo, .int ot, .int fi])) rfl ?_
  refine am_G.cl [.int fi, .int ot, .int lo, .int si, .int gi] [] (l0X9_gain (am_gain0 (h := h))) rfl rfl rfl rfl (Nat.le_of_ble_eq_true rfl) ?_
  refine am_G.fr 7 (g := (84, [some (.ref a0), some (.int lo), some (.int si), some (.int gi), some (.int wh), some (.int fo), some (.int c), some (.int fi), some (.int ot), none, none], [.int gi, .int si, .int lo, .int ot, .int (1 - fi), .int (am_gain fi ot lo si gi)])) rfl ?_
  refine am_G.cl [.int (1 - fi), .int ot, .int lo, .int si, .int gi] [.int (am_gain fi ot lo si gi)] (l0X9_gain (am_gain0 (h := h))) rfl rfl rfl rfl (Nat.le_of_ble_eq_true rfl) ?_
  have key : ∀ x9 : Int32, (x9 = 0 ↔ ¬ am_gain (1 - fi) ot lo si gi ≤ am_gain fi ot lo si gi) → am_G sc (am_Cl am_T am_N0 sc 1) (am_at kX9_rests) P ((95, [some (.ref a0), some (.int lo), some (.int si), some (.int gi), some (.int wh), some (.int fo), some (.int c), some (.int fi), some (.int ot), none, none], [.int x9]), h) := by
    intro x9 h9
    refine am_G.fr 6 (g := (104, [some (.ref a0), some (.int lo), some (.int si), some (.int gi), some (.int wh), some (.int fo), some (.int c), some (.int fi), some (.int ot), some (.int x9), none], [.int gi, .int si, .int lo, .int fi, .int ot])) rfl ?_
    refine am_G.cl [.int ot, .int fi, .int lo, .int si, .int gi] [] (l0X9_gain (am_gain0 (h := h))) rfl rfl rfl rfl (Nat.le_of_ble_eq_true rfl) ?_
    refine am_G.fr 7 (g := (116, [some (.ref a0), some (.int lo), some (.int si), some (.int gi), some (.int wh), some (.int fo), some (.int c), some (.int fi), some (.int ot), some (.int x9), none], [.int gi, .int si, .int lo, .int fi, .int (1 - ot), .int (am_gain ot fi lo si gi)])) rfl ?_
    refine am_G.cl [.int (1 - ot), .int fi, .int lo, .int si, .int gi] [.int (am_gain ot fi lo si gi)] (l0X9_gain (am_gain0 (h := h))) rfl rfl rfl rfl (Nat.le_of_ble_eq_true rfl) ?_
    have key2 : ∀ x10 : Int32, (x10 = 0 ↔ ¬ am_gain (1 - ot) fi lo si gi ≤ am_gain ot fi lo si gi) → am_G sc (am_Cl am_T am_N0 sc 1) (am_at kX9_rests) P ((127, [some (.ref a0), some (.int lo), some (.int si), some (.int gi), some (.int wh), some (.int fo), some (.int c), some (.int fi), some (.int ot), some (.int x9), none], [.int x10]), h) := by
      intro x10 h10
      refine am_G.fr 2 (g := (131, [some (.ref a0), some (.int lo), some (.int si), some (.int gi), some (.int wh), some (.int fo), some (.int c), some (.int fi), some (.int ot), some (.int x9), some (.int x10)], [.int x9])) rfl ?_
      have out : (x9 = 0 ∨ x10 = 0) → am_G sc (am_Cl am_T am_N0 sc 1) (am_at kX9_rests) P ((152, [some (.ref a0), some (.int lo), some (.int si), some (.int gi), some (.int wh), some (.int fo), some (.int c), some (.int fi), some (.int ot), some (.int x9), some (.int x10)], []), h) := by
        intro z
        refine am_G.fr 2 (g := (47, [some (.ref a0), some (.int lo), some (.int si), some (.int gi), some (.int wh), some (.int fo), some (.int (c + 1)), some (.int fi), some (.int ot), some (.int x9), some (.int x10)], [])) rfl ?_
        refine am_G.fg [some (.ref a0), some (.int lo), some (.int si), some (.int gi), some (.int wh), some (.int fo), some (.int (c + 1)), none, none, none, none] (by simp only [am_sub, and_self]) ?_
        refine k3 (fun e => ?_)
        simp only [am_rest1, Bool.and_eq_true, decide_eq_true_eq] at e
        rcases z with z | z
        · exact (h9.mp z) e.1
        · exact (h10.mp z) e.2
      by_cases z9 : x9 = 0
      · exact am_G.br (tgt := 152) rfl rfl (if_pos z9) rfl (out (Or.inl z9))
      · refine am_G.br (tgt := 134) rfl rfl (if_neg z9) rfl ?_
        refine am_G.fr 1 (g := (136, [some (.ref a0), some (.int lo), some (.int si), some (.int gi), some (.int wh), some (.int fo), some (.int c), some (.int fi), some (.int ot), some (.int x9), some (.int x10)], [.int x10])) rfl ?_
        by_cases z10 : x10 = 0
        · exact am_G.br (tgt := 152) rfl rfl (if_pos z10) rfl (out (Or.inr z10))
        · refine am_G.br (tgt := 139) rfl rfl (if_neg z10) rfl ?_
          have hr1 : am_rest1 lo si gi fi ot = true := by
            simp only [am_rest1, Bool.and_eq_true, decide_eq_true_eq]
            exact ⟨Decidable.byContradiction fun n => z9 (h9.mpr n), Decidable.byContradiction fun n => z10 (h10.mpr n)⟩
          refine am_G.fr 2 (g := (143, [some (.ref a0), some (.int lo), some (.int si), some (.int gi), some (.int wh), some (.int fo), some (.int c), some (.int fi), some (.int ot), some (.int x9), some (.int x10)], [.int wh, .int fo])) rfl ?_
          by_cases zf : fo = wh
          · refine am_G.br (tgt := 146) rfl rfl (if_neg (fun n => n zf)) rfl ?_
            refine am_G.fr 1 (g := (148, [some (.ref a0), some (.int lo), some (.int si), some (.int gi), some (.int wh), some (.int fo), some (.int c), some (.int fi), some (.int ot), some (.int x9), some (.int x10)], [.int c])) rfl ?_
            exact am_G.nd (k1 hr1 zf _)
          · refine am_G.br (tgt := 149) rfl rfl (if_pos zf) rfl ?_
            refine am_G.fr 3 (g := (47, [some (.ref a0), some (.int lo), some (.int si), some (.int gi), some (.int wh), some (.int (fo + 1)), some (.int (c + 1)), some (.int fi), some (.int ot), some (.int x9), some (.int x10)], [])) rfl ?_
            refine am_G.fg [some (.ref a0), some (.int lo), some (.int si), some (.int gi), some (.int wh), some (.int (fo + 1)), some (.int (c + 1)), none, none, none, none] (by simp only [am_sub, and_self]) ?_
            exact k2 hr1 zf
    by_cases c2 : am_gain ot fi lo si gi < am_gain (1 - ot) fi lo si gi
    · refine am_G.br (tgt := 126) rfl rfl (if_pos c2) rfl ?_
      refine am_G.fr 1 (g := (127, [some (.ref a0), some (.int lo), some (.int si), some (.int gi), some (.int wh), some (.int fo), some (.int c), some (.int fi), some (.int ot), some (.int x9), none], [.int 0])) rfl ?_
      exact key2 0 ⟨fun _ => Int32.not_le.mpr c2, fun _ => rfl⟩
    · refine am_G.br (tgt := 122) rfl rfl (if_neg c2) rfl ?_
      refine am_G.fr 2 (g := (127, [some (.ref a0), some (.int lo), some (.int si), some (.int gi), some (.int wh), some (.int fo), some (.int c), some (.int fi), some (.int ot), some (.int x9), none], [.int 1])) rfl ?_
      exact key2 1 ⟨fun n => absurd n (by decide), fun n => absurd (Int32.not_lt.mp c2) n⟩
  by_cases c1 : am_gain fi ot lo si gi < am_gain (1 - fi) ot lo si gi
  · refine am_G.br (tgt := 94) rfl rfl (if_pos c1) rfl ?_
    refine am_G.fr 1 (g := (95, [some (.ref a0), some (.int lo), some (.int si), some (.int gi), some (.int wh), some (.int fo), some (.int c), some (.int fi), some (.int ot), none, none], [.int 0])) rfl ?_
    exact key 0 ⟨fun _ => Int32.not_le.mpr c1, fun _ => rfl⟩
  · refine am_G.br (tgt := 90) rfl rfl (if_neg c1) rfl ?_
    refine am_G.fr 2 (g := (95, [some (.ref a0), some (.int lo), some (.int si), some (.int gi), some (.int wh), some (.int fo), some (.int c), some (.int fi), some (.int ot), none, none], [.int 1])) rfl ?_
    exact key 1 ⟨fun n => absurd n (by decide), fun n => absurd (Int32.not_lt.mp c1) n⟩
def rX9_S (sc : Nat × (Nat → Int32)) (h : am_H) (P : am_F × am_H → Prop) (a0 : Nat) (lo si gi wh : Int32) (l : List (Int32 × Int32 × Int32)) (c : Int32) : Prop :=
  ∀ fo : Int32, (∀ f r, am_restL lo si gi wh l fo = some r → am_ret 1 (am_at kX9_rests) f = some (some (.int r)) → P (f, h)) → (∀ ls, am_restL lo si gi wh l fo = none → P ((164, ls, []), h)) → am_G sc (am_Cl am_T am_N0 sc 1) (am_at kX9_rests) P ((47, [some (.ref a0), some (.int lo), some (.int si), some (.int gi), some (.int wh), some (.int fo), some (.int c), none, none, none, none], []), h)
theorem rX9_step {l : List (Int32 × Int32 × Int32)} {c fi ot : Int32} (hc : ¬ 4 ≤ c) (hd : am_dv c 2 = some fi) (hr : am_rm' c 2 = some ot) (ih : rX9_S sc h P a0 lo si gi wh l (c + 1)) : rX9_S sc h P a0 lo si gi wh ((c, fi, ot) :: l) c := by
  intro fo ks kn
  refine rX9_round hc hd hr (fun e1 e2 ls => ks _ c ?_ rfl) (fun e1 e2 => ih (fo + 1) (fun f r e => ks f r ?_) (fun ls e => kn ls ?_)) (fun e1 => ih fo (fun f r e => ks f r ?_) (fun ls e => kn ls ?_))
  · simp only [am_restL, e1, e2, if_true]
  · simp only [am_restL, e1, e2, if_true, if_false]; exact e
  · simp only [am_restL, e1, e2, if_true, if_false]; exact e
  · rw [am_restL, if_neg e1]; exact e
  · rw [am_restL, if_neg e1]; exact e
theorem rX9_end : rX9_S sc h P a0 lo si gi wh [] 4 := by
  intro fo ks kn
  refine am_G.fr 2 (g := (50, [some (.ref a0), some (.int lo), some (.int si), some (.int gi), some (.int wh), some (.int fo), some (.int 4), none, none, none, none], [.int 4, .int 4])) rfl ?_
  refine am_G.br (tgt := 158) (off := 108) (st' := []) rfl rfl rfl rfl ?_
  refine am_G.fr 2 (g := (161, [some (.ref a0), some (.int lo), some (.int si), some (.int gi), some (.int wh), some (.int fo), some (.int 4), none, none, none, none], [.int (-1), .int wh])) rfl ?_
  by_cases z : wh = -1
  · refine am_G.br (tgt := 175) rfl rfl (if_pos z) rfl ?_
    refine am_G.fr 1 (g := (177, [some (.ref a0), some (.int lo), some (.int si), some (.int gi), some (.int wh), some (.int fo), some (.int 4), none, none, none, none], [.int fo])) rfl ?_
    exact am_G.nd (ks _ fo (by simp only [am_restL, z, if_true]) rfl)
  · refine am_G.br (tgt := 164) rfl rfl (if_neg z) rfl ?_
    exact am_G.nd (kn _ (by simp only [am_restL, z, if_false]))
theorem rX9 (ks : ∀ f r, am_rests lo si gi wh = some r → am_ret 1 (am_at kX9_rests) f = some (some (.int r)) → P (f, h)) (kn : ∀ pc ls, (pc = 30 ∨ pc = 164) → am_rests lo si gi wh = none → P ((pc, ls, []), h)) :
    am_G sc (am_Cl am_T am_N0 sc 1) (am_at kX9_rests) P ((0, [some (.ref a0), some (.int lo), some (.int si), some (.int gi), some (.int wh), none, none, none, none, none, none], []), h) := by
  have out : ¬ (0 ≤ lo ∧ lo ≤ 9 ∧ 0 ≤ si ∧ si ≤ 9 ∧ 0 ≤ gi ∧ gi ≤ 9) → am_G sc (am_Cl am_T am_N0 sc 1) (am_at kX9_rests) P ((30, [some (.ref a0), some (.int lo), some (.int si), some (.int gi), some (.int wh), none, none, none, none, none, none], []), h) := fun z => am_G.nd (kn _ _ (Or.inl rfl) (by unfold am_rests; rw [if_neg z]))
  refine am_G.fr 3 (g := (4, [some (.ref a0), some (.int lo), some (.int si), some (.int gi), some (.int wh), none, none, none, none, none, none], [.int 9, .int 0, .int lo])) rfl ?_
  refine am_G.cl [.int lo, .int 0, .int 9] [] (l0X9_within (am_with0 (h := h))) rfl rfl rfl rfl (Nat.le_of_ble_eq_true rfl) ?_
  by_cases z1 : 0 ≤ lo ∧ lo ≤ 9
  · rw [if_pos z1]
    refine am_G.br (tgt := 10) (off := 3) (st' := []) rfl rfl rfl rfl ?_
    refine am_G.fr 3 (g := (14, [some (.ref a0), some (.int lo), some (.int si), some (.int gi), some (.int wh), none, none, none, none, none, none], [.int 9, .int 0, .int si])) rfl ?_
    refine am_G.cl [.int si, .int 0, .int 9] [] (l0X9_within (am_with0 (h := h))) rfl rfl rfl rfl (Nat.le_of_ble_eq_true rfl) ?_
    by_cases z2 : 0 ≤ si ∧ si ≤ 9
    · rw [if_pos z2]
      refine am_G.br (tgt := 20) (off := 3) (st' := []) rfl rfl rfl rfl ?_
      refine am_G.fr 3 (g := (24, [some (.ref a0), some (.int lo), some (.int si), some (.int gi), some (.int wh), none, none, none, none, none, none], [.int 9, .int 0, .int gi])) rfl ?_
      refine am_G.cl [.int gi, .int 0, .int 9] [] (l0X9_within (am_with0 (h := h))) rfl rfl rfl rfl (Nat.le_of_ble_eq_true rfl) ?_
      by_cases z3 : 0 ≤ gi ∧ gi ≤ 9
      · rw [if_pos z3]
        refine am_G.br (tgt := 41) (off := 14) (st' := []) rfl rfl rfl rfl ?_
        refine am_G.fr 4 (g := (47, [some (.ref a0), some (.int lo), some (.int si), some (.int gi), some (.int wh), some (.int 0), some (.int 0), none, none, none, none], [])) rfl ?_
        have e : am_rests lo si gi wh = am_restL lo si gi wh [(0, 0, 0), (1, 0, 1), (2, 1, 0), (3, 1, 1)] 0 := by
          unfold am_rests
          rw [if_pos ⟨z1.1, z1.2, z2.1, z2.2, z3.1, z3.2⟩]
        rw [e] at ks kn
        have s3 : rX9_S sc h P a0 lo si gi wh [(3, 1, 1)] 3 := rX9_step (by decide) (by decide) (by decide) rX9_end
        have s2 : rX9_S sc h P a0 lo si gi wh [(2, 1, 0), (3, 1, 1)] 2 := rX9_step (by decide) (by decide) (by decide) s3
        have s1 : rX9_S sc h P a0 lo si gi wh [(1, 0, 1), (2, 1, 0), (3, 1, 1)] 1 := rX9_step (by decide) (by decide) (by decide) s2
        have s0 : rX9_S sc h P a0 lo si gi wh [(0, 0, 0), (1, 0, 1), (2, 1, 0), (3, 1, 1)] 0 := rX9_step (by decide) (by decide) (by decide) s1
        exact s0 0 ks (fun ls => kn 164 ls (Or.inr rfl))
      · rw [if_neg z3]
        exact am_G.br (tgt := 30) (off := 3) (st' := []) rfl rfl rfl rfl (out (fun n => z3 ⟨n.2.2.2.2.1, n.2.2.2.2.2⟩))
    · rw [if_neg z2]
      exact am_G.br (tgt := 30) (off := 13) (st' := []) rfl rfl rfl rfl (out (fun n => z2 ⟨n.2.2.1, n.2.2.2.1⟩))
  · rw [if_neg z1]
    exact am_G.br (tgt := 30) (off := 23) (st' := []) rfl rfl rfl rfl (out (fun n => z1 ⟨n.1, n.2.1⟩))
end RX9
