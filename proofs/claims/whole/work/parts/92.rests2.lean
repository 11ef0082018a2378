/-! ===== contracts of the class's rests and of the law's own ===== -/
def am_okWB (q : am_Q) (ps : List Nat) : Bool := decide ((am_mw q).map some = ps.map (fun i => lw_tbl[i]?)) && (am_mw q).all goodWord && plainFor q.1 && decide (q.1.cls ≠ "java/lang/invoke/MethodHandle") && decide (q.1.cls ≠ "java/lang/invoke/VarHandle") && decide ((parseMethodDescriptor q.1.desc).map (fun d => d.parameters.length) = some q.2.2.2.2.2.1) && decide (q.2.2.1 ≤ 45) && (!(q.2.2.2.2.1 == 2) || (decide (q.1.name = "<init>") && decide (q.2.2.2.1 = 0)))
theorem am_okWB_ok {q : am_Q} {ps : List Nat} (h : am_okWB q ps = true) : am_okW q := by
  simp only [am_okWB, Bool.and_eq_true, decide_eq_true_eq] at h
  obtain ⟨⟨⟨⟨⟨⟨⟨h1, h2⟩, h3⟩, h4⟩, h5⟩, h6⟩, h7⟩, h8⟩ := h
  refine ⟨fun w hw => ?_, h3, ⟨h4, h5⟩, h6, h7, fun z => ?_⟩
  · have hg := List.all_eq_true.mp h2 w hw
    have hm : some w ∈ (am_mw q).map some := List.mem_map.mpr ⟨w, hw, rfl⟩
    rw [h1] at hm
    obtain ⟨i, -, hi⟩ := List.mem_map.mp hm
    exact List.mem_filter.mpr ⟨List.mem_of_getElem? hi, hg⟩
  · rw [z] at h8
    simpa using h8
theorem dX9_rests_30 : decode cX9_rests 30 = .ok (.new 294, 3) := by decide +kernel
theorem dX9_rests_33 : decode cX9_rests 33 = .ok (.dup, 1) := by decide +kernel
theorem dX9_rests_34 : decode cX9_rests 34 = .ok (.ldc_w 296, 3) := by decide +kernel
theorem dX9_rests_37 : decode cX9_rests 37 = .ok (.invokespecial 298, 3) := by decide +kernel
theorem dX9_rests_40 : decode cX9_rests 40 = .ok (.athrow, 1) := by decide +kernel
theorem dX9_rests_164 : decode cX9_rests 164 = .ok (.new 294, 3) := by decide +kernel
theorem dX9_rests_167 : decode cX9_rests 167 = .ok (.dup, 1) := by decide +kernel
theorem dX9_rests_168 : decode cX9_rests 168 = .ok (.ldc_w 305, 3) := by decide +kernel
theorem dX9_rests_171 : decode cX9_rests 171 = .ok (.invokespecial 298, 3) := by decide +kernel
theorem dX9_rests_174 : decode cX9_rests 174 = .ok (.athrow, 1) := by decide +kernel
theorem dL_rests_9 : decode cL_rests 9 = .ok (.invokevirtual 7, 3) := by decide +kernel
theorem dL_rests_17 : decode cL_rests 17 = .ok (.astore 6, 2) := by decide +kernel
theorem dL_rests_19 : decode cL_rests 19 = .ok (.iconst 1, 1) := by decide +kernel
theorem dL_rests_20 : decode cL_rests 20 = .ok (.ireturn, 1) := by decide +kernel
theorem dL_rests_22 : decode cL_rests 22 = .ok (.ireturn, 1) := by decide +kernel
theorem owX9_rests : am_okWB qX9_rests [1073, 90, 1071, 1072] = true := by decide +kernel
theorem okwX9_rests : am_okW qX9_rests := am_okWB_ok owX9_rests
abbrev ax_L : List Cond := ax_at RX9 298 RX99 13 prog_28_method_4_code ["java/lang/RuntimeException", "java/lang/Exception"]
theorem ax_rx0 : decode prog_28_method_4_code 0 = .ok (.aload_n 0, 1) := by decide +kernel
theorem ax_rx1 : decode prog_28_method_4_code 1 = .ok (.aload_n 1, 1) := by decide +kernel
theorem ax_rx2 : decode prog_28_method_4_code 2 = .ok (.invokespecial 13, 3) := by decide +kernel
theorem ax_rx5 : decode prog_28_method_4_code 5 = .ok (.return_, 1) := by decide +kernel
theorem ax_in0 : ∀ w ∈ ax_L.filter goodWord, w ∈ (lw_tbl.drop 1075).take 64 ++ ([109, 119, 120].filterMap fun i => lw_tbl[i]?) := by decide +kernel
theorem ax_in : ∀ w ∈ ax_L.filter goodWord, w ∈ am_tb := by
  intro w hw
  refine List.mem_filter.mpr ⟨?_, (List.mem_filter.mp hw).2⟩
  rcases List.mem_append.mp (ax_in0 w hw) with h | h
  · exact List.mem_of_mem_drop (List.mem_of_mem_take h)
  · obtain ⟨i, -, hi⟩ := List.mem_filterMap.mp h
    exact List.mem_of_getElem? hi
theorem ax_nin : ∀ w ∈ ax_L.filter (fun w => !goodWord w), w ∈ ax_bad := by decide +kernel
theorem ax_ot : ∀ w ∈ Cond.classLink RX9 294 RX99 :: Cond.initialized RX99 :: ax_L, vx_ot w = true := by decide +kernel
theorem am_ret1_ok {cd : Nat → Option am_I} {f : am_F} {r : Int32} (h : am_ret 1 cd f = some (some (.int r))) : ∃ z, cd f.1 = some (.ireturn, z) ∧ f.2.2 = [.int r] := by
  unfold am_ret at h
  split at h
  · rename_i g1 g2 g3
    exact absurd g2 (by decide)
  · rename_i g1 g2 g3
    cases h
    exact ⟨_, g1, g3⟩
  · rename_i g1 g2 g3
    exact absurd g2 (by decide)
  · cases h
section RST
variable {l : Launch} {D : va_G} {dA : Nat → ClassId} {ad : Nat → Nat} {base : Nat} {sc : Nat × (Nat → Int32)}
set_option maxHeartbeats 2000000 in
theorem mX9_some (hT : am_okT am_T) {h : am_H} {a0 : Nat} {p0 p1 p2 p3 r : Int32} (er : am_rests p0 p1 p2 p3 = some r) : am_Met l qX9_rests D dA ad base sc 2 [.ref a0, .int p0, .int p1, .int p2, .int p3] h (some (.int r)) h := by
  obtain ⟨⟨f, h1⟩, ⟨n, h5⟩, hh, h6⟩ := rX9 (sc := sc) (h := h) (a0 := a0) (lo := p0) (si := p1) (gi := p2) (wh := p3) (P := fun t => t.2 = h ∧ am_ret 1 (am_at kX9_rests) t.1 = some (some (.int r)))
    (fun f r' e' g => ⟨rfl, by rw [er] at e'; cases e'; exact g⟩) (fun pc ls _ en => by rw [er] at en; cases en)
  have hh : h1 = h := hh
  subst hh
  unfold am_Met
  refine am_ofW (cc := cX9_rests) (maxL := 11) (ret := some .int) (by decide) rfl ?_
  intro p e s m args below meth c s₁ B hml hv
  obtain ⟨rfl, hK, hW, ha, hEx⟩ := hv
  have hx := B.exec
  have hb := B.bytes
  have hr := B.returns
  have hlocks := B.notSynchronized
  have hts0 := atoms_spec (ws := am_ws0 qX9_rests) B.pre
  have hts : ∀ w ∈ am_tb, w.before ([Value.ref a0, .int p0, .int p1, .int p2, .int p3].map (am_cv ad)).toArray s = true := fun w hw => hts0 w (List.mem_cons_of_mem _ hw)
  have hown : s.vm.findClass RX9 = some m.cls := findClass_of_methodNamed B.named
  have X : am_Ctx p s m ([Value.ref a0, .int p0, .int p1, .int p2, .int p3].map (am_cv ad)).toArray meth c qX9_rests.2.1 11 qX9_rests.1.cls (qX9_rests.2.2.2.2.1 == 2) (headSpec (am_ws0 qX9_rests) (am_rm 2 (h1.length - h1.length) (am_sl h1 - am_sl h1))).room D dA ad base sc :=
    ⟨hx, hb, hml, hown, hts, hK, ha, hEx, fun z => absurd z (by decide), by show 1 ≤ 2; decide, by show 64 ≤ 64 * 2; decide⟩
  rw [lg_entry_eq]
  refine am_rch_snd (T := am_T) (N := am_N0) (d := 1) (q := qX9_rests) hT am_N0_le am_Sp0 (am_sound hT am_N0_le am_Sp0 D dA ad base 1) okX9_rests X (by show 2 ≤ 2; decide) (by show 64 * 2 ≤ 64 * 2; decide) n (0, [some (.ref a0), some (.int p0), some (.int p1), some (.int p2), some (.int p3), none, none, none, none, none, none], []) f h1 h1 s.heap [] 0 0 _ h5 (am_entry ad [Value.ref a0, .int p0, .int p1, .int p2, .int p3] (n := 11) (Nat.le_of_ble_eq_true rfl)) hW va_S.rf (by rw [hW.2.1]; omega) (by show 0 + (h1.length - h1.length) ≤ h1.length - h1.length; omega) (by show 0 + (am_sl h1 - am_sl h1) ≤ am_sl h1 - am_sl h1; omega) ?_
  intro H1 locs1 lsB k1 k2 k3
  rw [Nat.zero_add, Nat.zero_add]
  obtain ⟨z, g1, g3⟩ := am_ret1_ok h6
  obtain ⟨o1, o2, -⟩ := okX9_rests _ _ g1
  have hl1 := o2 rfl
  simp only [am_ln] at hl1
  rw [hl1] at o1
  rw [g3]
  exact W.iret hx hb hr (fun t ht hWm => ⟨rfl, va_K.moved hWm.alike hK, by rw [ht]; exact k2, k3.F ht⟩) k3.2.2 o1
/-- what a throw of the class's rests leaves -/
def rX_XC (D : va_G) (dA : Nat → ClassId) (ad : Nat → Nat) (base : Nat) (h : am_H) : String → State → State → Prop := fun E st t => E = RX99 ∧ va_K D am_cl (am_tys dA) t ∧ am_Wd D dA ad base (h ++ [.inr (10, [])]) t.heap ∧ va_F (am_A base) st t
set_option maxHeartbeats 2000000 in
theorem mX9_none (hT : am_okT am_T) (hl : l.stackTraces = false) {h : am_H} {a0 : Nat} {p0 p1 p2 p3 : Int32} (hlen : h.length < am_SB) (er : am_rests p0 p1 p2 p3 = none) : vx_Met l yX9_rests (am_ws0 qX9_rests) (am_rm 6 1 6) (am_Pc D dA ad base sc [.ref a0, .int p0, .int p1, .int p2, .int p3] h) (fun _ _ _ _ => False) (rX_XC D dA ad base h) 1 6 (am_A base) := by
  obtain ⟨⟨f, h1⟩, ⟨n, h5⟩, hh, h6, h7⟩ := rX9 (sc := sc) (h := h) (a0 := a0) (lo := p0) (si := p1) (gi := p2) (wh := p3) (P := fun t => t.2 = h ∧ t.1.2.2 = [] ∧ (t.1.1 = 30 ∨ t.1.1 = 164))
    (fun f r' e' g => by rw [er] at e'; cases e') (fun pc ls hp en => ⟨rfl, rfl, hp⟩)
  have hh : h1 = h := hh
  subst hh
  have h6 : f.2.2 = [] := h6
  have h7 : f.1 = 30 ∨ f.1 = 164 := h7
  refine vx_ofW (cc := cX9_rests) (maxL := 11) (ret := some .int) (by decide) rfl ?_
  intro p e s m args below meth c s₁ B hml htab hv
  obtain ⟨rfl, hK, hW, ha, hEx⟩ := hv
  have hx := B.exec
  have hb := B.bytes
  have hlocks := B.notSynchronized
  have hts0 := atoms_spec (ws := am_ws0 qX9_rests) B.pre
  have hts : ∀ w ∈ am_tb, w.before ([Value.ref a0, .int p0, .int p1, .int p2, .int p3].map (am_cv ad)).toArray s = true := fun w hw => hts0 w (List.mem_cons_of_mem _ hw)
  have hown : s.vm.findClass RX9 = some m.cls := findClass_of_methodNamed B.named
  have X : am_Ctx p s m ([Value.ref a0, .int p0, .int p1, .int p2, .int p3].map (am_cv ad)).toArray meth c qX9_rests.2.1 11 qX9_rests.1.cls (qX9_rests.2.2.2.2.1 == 2) (headSpec (am_ws0 qX9_rests) (am_rm 6 1 6)).room D dA ad base sc :=
    ⟨hx, hb, hml, hown, hts, hK, ha, hEx, fun z => absurd z (by decide), by show 1 ≤ 6; decide, by show 64 ≤ 64 * 6; decide⟩
  rw [lg_entry_eq]
  refine am_rch_snd (T := am_T) (N := am_N0) (d := 1) (q := qX9_rests) hT am_N0_le am_Sp0 (am_sound hT am_N0_le am_Sp0 D dA ad base 1) okX9_rests X (by show 2 ≤ 6; decide) (by show 64 * 2 ≤ 64 * 6; decide) n (0, [some (.ref a0), some (.int p0), some (.int p1), some (.int p2), some (.int p3), none, none, none, none, none, none], []) f h1 h1 s.heap [] 0 0 _ h5 (am_entry ad [Value.ref a0, .int p0, .int p1, .int p2, .int p3] (n := 11) (Nat.le_of_ble_eq_true rfl)) hW va_S.rf (by rw [hW.2.1]; omega) (by show 0 + (h1.length - h1.length) ≤ 1; omega) (by show 0 + (am_sl h1 - am_sl h1) ≤ 6; omega) ?_
  intro H1 locs1 lsB k1 k2 k3
  rw [Nat.sub_self, Nat.sub_self, h6]
  have hsize : lsB.size = c.maxLocals := by rw [hml]; exact k1.2.1
  obtain ⟨-, hU, hN, hbad, ⟨sa, hsa⟩, ⟨sb, hsb⟩⟩ := hEx.2.2.2.1.2
  have hat : ∀ w ∈ ax_L, w.before ([Value.ref a0, .int p0, .int p1, .int p2, .int p3].map (am_cv ad)).toArray s = true := vx_hat (fun w hw => hts w (ax_in w hw)) ax_nin (fun w hw => va_Nw.use (ax_bad_tab hw) (hbad w hw))
  have hxc : ∀ (t : State) (ce : Cell), s.WarmedH t.vm → t.heap.size = H1.size + 1 → (∀ q : Nat, q < H1.size → t.heap[q]? = H1[q]?) → t.heap[H1.size]? = some ce → ce.vm = .none → s.vm.findClass RX99 = some ce.cls → rX_XC D dA ad base h1 RX99 s t := by
    intro t ce hWm z1 z2 z3 z4 z5
    have hk9 := (hK.1 10 (RX99, TX99, 0) rfl).2.1
    have hcls : ce.cls = D.1 10 := Option.some.inj (z5.symm.trans hk9)
    have hadr : ad h1.length = H1.size := by rw [ha _ hlen, k2.2.1]
    refine ⟨rfl, va_K.moved hWm.alike hK, am_push ha k2 hlen z1 z2 ⟨(RX99, TX99, 0), rfl, ce, ?_, hcls, z4, fun k hk => absurd hk (Nat.not_lt_zero k)⟩, ?_⟩
    · show t.heap[ad h1.length]? = some ce
      rw [hadr]
      exact z3
    · exact ⟨by rw [z1]; exact Nat.le_succ_of_le k3.1, fun q hq hA => by rw [z2 q (Nat.lt_of_lt_of_le hq k3.1)]; exact k3.2.1 q hq hA⟩
  rcases h7 with h7 | h7
  · rw [h7]
    exact ax_throwSW (cc := cX9_rests) (own := RX9) (cls := RX99) (Y0 := "java/lang/RuntimeException") (names := ["java/lang/Exception"]) (ik := 294) (is := 296) (ic := 298) (text := "no such chair") (sa := sa) (A := am_A base) (rest := []) hx hb hl ax_rx0 ax_rx1 ax_rx2 ax_rx5 hown (by decide) (by decide) (by decide)
      (hts _ (am_wd_mem (hint := 1074) (by decide +kernel))) (hts _ (am_wd_mem (hint := 112) (by decide +kernel))) hsa hat ax_ot hU hN k3 hsize dX9_rests_30 dX9_rests_33 dX9_rests_34 dX9_rests_37 dX9_rests_40 (fun x hx => (htab x hx).elim) (by show 2 + 3 < 6; decide) (by show 0 + (13 * (2 + 1) + 43) ≤ 64 * 6; decide) (by show 0 + 0 + 1 ≤ 1; decide) (by show 0 + 0 + 6 ≤ 6; decide) hlocks hxc k3.2.2 (by decide) (by decide)
  · rw [h7]
    exact ax_throwSW (cc := cX9_rests) (own := RX9) (cls := RX99) (Y0 := "java/lang/RuntimeException") (names := ["java/lang/Exception"]) (ik := 294) (is := 305) (ic := 298) (text := "no such rest") (sa := sb) (A := am_A base) (rest := []) hx hb hl ax_rx0 ax_rx1 ax_rx2 ax_rx5 hown (by decide) (by decide) (by decide)
      (hts _ (am_wd_mem (hint := 1074) (by decide +kernel))) (hts _ (am_wd_mem (hint := 112) (by decide +kernel))) hsb hat ax_ot hU hN k3 hsize dX9_rests_164 dX9_rests_167 dX9_rests_168 dX9_rests_171 dX9_rests_174 (fun x hx => (htab x hx).elim) (by show 2 + 3 < 6; decide) (by show 0 + (13 * (2 + 1) + 43) ≤ 64 * 6; decide) (by show 0 + 0 + 1 ≤ 1; decide) (by show 0 + 0 + 6 ≤ 6; decide) hlocks hxc k3.2.2 (by decide) (by decide)
end RST
