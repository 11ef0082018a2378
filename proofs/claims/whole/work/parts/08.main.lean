/-! ## soundness: a call of the abstract machine is a contract -/
theorem am_isN_tab {w : Cond} (h : am_isN w = true) : w.onTables = true := by
  cases w <;> first | rfl | (simp [am_isN] at h)
theorem am_Nw_warm {w : Cond} (h : am_isN w = true) {s U : State} (hW : s.WarmedH U.vm) (hZ : va_Nw w s) : va_Nw w U := by
  cases w <;> first | exact va_Nw.warmF hW hZ | exact va_Nw.warmM hW hZ | (simp [am_isN] at h)
theorem am_Str.moved {ad : Nat → Nat} {base : Nat} {u U : State} {H : Heap} (hvm : u.vm.Alike U.vm) (h : am_Str ad base u H) : am_Str ad base U H := by
  obtain ⟨h0, adV, h1⟩ := h
  exact ⟨h0.moved hvm, adV, fun i hi => ⟨(h1 i hi).1.moved hvm, (h1 i hi).2.1.moved hvm, (h1 i hi).2.2.1.moved hvm, (h1 i hi).2.2.2.moved hvm⟩⟩
theorem am_Str.kept {ad : Nat → Nat} {base : Nat} {U : State} {H H1 : Heap} (h : am_Str ad base U H) (hq : ∀ a : Nat, a < H.size → ¬ am_A base a → H1[a]? = H[a]?) : am_Str ad base U H1 := by
  obtain ⟨h0, adV, h1⟩ := h
  exact ⟨h0.kept hq, adV, fun i hi => ⟨(h1 i hi).1.kept hq, (h1 i hi).2.1.kept hq, (h1 i hi).2.2.1.kept hq, (h1 i hi).2.2.2.kept hq⟩⟩
theorem ax_bad_tab {w : Cond} (h : w ∈ ax_bad) : w.onTables = true := by
  simp only [ax_bad, List.mem_cons, List.not_mem_nil, or_false] at h
  rcases h with rfl | rfl | rfl | rfl <;> rfl
theorem ax_bad_warm {w : Cond} (h : w ∈ ax_bad) {s U : State} (hW : s.WarmedH U.vm) (hZ : va_Nw w s) : va_Nw w U := by
  simp only [ax_bad, List.mem_cons, List.not_mem_nil, or_false] at h
  rcases h with rfl | rfl | rfl | rfl
  · exact va_Nw.warmC hW hZ
  · exact va_tabs rfl (rfl : (s.setVm U.vm).vm = U.vm) (by rw [Cond.declares_setVm hW.alike]; exact hZ)
  · exact va_tabs rfl (rfl : (s.setVm U.vm).vm = U.vm) (by rw [Cond.declares_setVm hW.alike]; exact hZ)
  · exact va_tabs rfl (rfl : (s.setVm U.vm).vm = U.vm) (by rw [Cond.declares_setVm hW.alike]; exact hZ)
theorem am_Thr.same {base : Nat} {u U : State} {H : Heap} (hv : u.vm = U.vm) (h : am_Thr base u H) : am_Thr base U H := by
  have hvm : u.vm.Alike U.vm := by rw [hv]; exact Vm.Alike.refl _
  obtain ⟨h1, h2, h3, h4, ⟨a, h5⟩, b, h6⟩ := h
  exact ⟨va_Zq.moved hvm h1, vx_Zq.moved hvm h2, vx_Zq.moved hvm h3, fun w hw => (h4 w hw).same (ax_bad_tab hw) hv, ⟨a, h5.same hv.symm⟩, b, h6.same hv.symm⟩
theorem am_Thr.warm {base : Nat} {s U : State} {H : Heap} (hW : s.WarmedH U.vm) (h : am_Thr base s H) : am_Thr base U H := by
  obtain ⟨h1, h2, h3, h4, ⟨a, h5⟩, b, h6⟩ := h
  exact ⟨va_Zq.moved hW.alike h1, vx_Zq.moved hW.alike h2, vx_Zq.moved hW.alike h3, fun w hw => ax_bad_warm hw hW (h4 w hw), ⟨a, h5.warm hW⟩, b, h6.warm hW⟩
theorem am_Thr.kept {base : Nat} {U : State} {H H1 : Heap} (h : am_Thr base U H) (hq : ∀ a : Nat, a < H.size → ¬ am_A base a → H1[a]? = H[a]?) : am_Thr base U H1 := by
  obtain ⟨h1, h2, h3, h4⟩ := h
  exact ⟨va_Zq.kept h1 hq, vx_Zq.kept h2 hq, vx_Zq.kept h3 hq, h4⟩
theorem am_Ex.same {ad : Nat → Nat} {base : Nat} {sc : Nat × (Nat → Int32)} {u U : State} {H : Heap} (hv : u.vm = U.vm) (h : am_Ex ad base sc u H) : am_Ex ad base sc U H := by
  have hvm : u.vm.Alike U.vm := by rw [hv]; exact Vm.Alike.refl _
  obtain ⟨h1, h2, h3, h4, h5, h6⟩ := h
  exact ⟨fun w hw hn => (h1 w hw hn).same (am_isN_tab hn) hv, ⟨h2.1.moved hvm, h2.2.moved hvm⟩, fun q hq => (h3 q hq).same hv.symm, ⟨h4.1.moved hvm, h4.2.same hv⟩, h5.moved hvm, h6⟩
theorem am_Ex.warm {ad : Nat → Nat} {base : Nat} {sc : Nat × (Nat → Int32)} {s U : State} {H : Heap} (hW : s.WarmedH U.vm) (h : am_Ex ad base sc s H) : am_Ex ad base sc U H := by
  obtain ⟨h1, h2, h3, h4, h5, h6⟩ := h
  exact ⟨fun w hw hn => am_Nw_warm hn hW (h1 w hw hn), ⟨h2.1.moved hW.alike, h2.2.moved hW.alike⟩, fun q hq => (h3 q hq).warm hW, ⟨h4.1.moved hW.alike, h4.2.warm hW⟩, h5.moved hW.alike, h6⟩
theorem am_Ex.kept {ad : Nat → Nat} {base : Nat} {sc : Nat × (Nat → Int32)} {U : State} {H H1 : Heap} {locs : List Loc} (hS : va_S (am_A base) H H1 locs) (h : am_Ex ad base sc U H) : am_Ex ad base sc U H1 := by
  obtain ⟨h1, h2, h3, h4, h5, h6, h7⟩ := h
  exact ⟨h1, h2, h3, ⟨h4.1.kept (fun a g1 g2 => hS.2.1 a g1 g2), h4.2.kept (fun a g1 g2 => hS.2.1 a g1 g2)⟩, h5.kept (hS.2.1 _ (Nat.lt_of_lt_of_le h6 h7) (Nat.not_le.mpr h6)), h6, Nat.le_trans h7 hS.1⟩
def am_rm (d mc ms : Nat) : Room := { frames := d, cells := mc, slots := ms, locals := 64 * d }
def am_Pc (D : va_G) (dA : Nat → ClassId) (ad : Nat → Nat) (base : Nat) (sc : Nat × (Nat → Int32)) (As : List Value) (h : am_H) : Array Value → State → Prop := fun a U =>
  a = (As.map (am_cv ad)).toArray ∧ va_K D am_cl (am_tys dA) U ∧ am_Wd D dA ad base h U.heap ∧ am_Ad ad base ∧ am_Ex ad base sc U U.heap
def am_Qc (D : va_G) (dA : Nat → ClassId) (ad : Nat → Nat) (base : Nat) (v : Option Value) (h' : am_H) : Array Value → State → Outcome → State → Prop := fun _ st o t =>
  o = .returned (v.map (am_cv ad)) ∧ va_K D am_cl (am_tys dA) t ∧ am_Wd D dA ad base h' t.heap ∧ va_F (am_A base) st t
def am_Met (l : Launch) (q : am_Q) (D : va_G) (dA : Nat → ClassId) (ad : Nat → Nat) (base : Nat) (sc : Nat × (Nat → Int32)) (d : Nat) (As : List Value) (h : am_H) (v : Option Value) (h' : am_H) : Prop :=
  Met l q.1 (am_ws0 q) (am_rm d (h'.length - h.length) (am_sl h' - am_sl h)) (am_Pc D dA ad base sc As h) (am_Qc D dA ad base v h') (h'.length - h.length) (am_sl h' - am_sl h) (am_A base)
theorem am_Pc_blind {D : va_G} {dA : Nat → ClassId} {ad : Nat → Nat} {base : Nat} {sc : Nat × (Nat → Int32)} {As : List Value} {h : am_H} : FrameBlind (am_Pc D dA ad base sc As h) := by
  intro a U g mk q
  obtain ⟨h1, h2, h3, h4, h5⟩ := q
  exact ⟨h1, va_K.moved (u := U) (U := U.calling g mk a) (Vm.Alike.refl U.vm) h2, h3, h4, am_Ex.same (u := U) (U := U.calling g mk a) rfl h5⟩
theorem am_good {q : am_Q} (hq : am_okW q) : GoodIn am_tb (am_ws0 q) := by
  intro w hw
  have hm : w ∈ am_tb := by
    rcases List.mem_cons.mp hw with rfl | h
    · exact hq.1 _ List.mem_cons_self
    · exact h
  exact ⟨hm, good_of_word (List.mem_filter.mp hm).2⟩
/-- what a call that isn't walked must do -/
def am_Sp (l : Launch) (T : Nat → Option am_Q) (N : Nat × (Nat → Int32) → am_C) : Prop :=
  ∀ {p : Program} {e : Env} {R : Room} {s : State} {m : MethodId} {args : Array Value} {below : List Frame} {meth : Method} {c : Code} {H : Heap} {locs : List Loc} {cells slots : Nat} {Q : State → Prop} {cc : ByteArray} {pc nL : Nat} {own : String} {ini : Bool} {D : va_G} {dA : Nat → ClassId} {ad : Nat → Nat} {base : Nat} {sc : Nat × (Nat → Int32)} {lsA : Array Slot} {h h' : am_H} {i : am_I} {mm n d : Nat} {As rest : List Value} {v : Option Value},
    am_Ctx p s m args meth c cc nL own ini R D dA ad base sc → lsA.size = nL → am_Wd D dA ad base h H → va_S (am_A base) s.heap H locs → decode cc pc = .ok (i.1, i.2.1) → i.2.1 = am_ln i.1 → am_inv i = some (mm, n) → am_ckN own i = true → T mm = none → 8 ≤ d → d + 1 ≤ R.frames → 64 * (d + 1) ≤ R.locals → As.length = n → (rest.map fun v => v.category).sum ≤ 8 → N sc mm As h v h' →
    s.heap.size + cells = base + h.length → cells + (h'.length - h.length) ≤ R.cells → slots + (am_sl h' - am_sl h) ≤ R.slots →
    (∀ (H1 : Heap) (locs1 : List Loc), am_Wd D dA ad base h' H1 → va_S (am_A base) s.heap H1 locs1 → W p l e R s m args below meth c H1 locs1 (cells + (h'.length - h.length)) (slots + (am_sl h' - am_sl h)) Q (F0 m (pc + 3) lsA ((v.toList ++ rest).map (am_cv ad)))) →
    W p l e R s m args below meth c H locs cells slots Q (F0 m pc lsA ((As.reverse ++ rest).map (am_cv ad)))
section AMM
variable {p : Program} {l : Launch} {e : Env} {R : Room} {s : State} {m : MethodId} {args : Array Value} {below : List Frame} {meth : Method} {c : Code} {H : Heap} {locs : List Loc} {cells slots : Nat} {Q : State → Prop}
variable {cc : ByteArray} {pc nL : Nat} {own : String} {ini : Bool} {D : va_G} {dA : Nat → ClassId} {ad : Nat → Nat} {base : Nat} {sc : Nat × (Nat → Int32)} {lsA : Array Slot} {h h' : am_H}
theorem am_back {mc ms : Nat} {v : Option Value} {rest st0 : List Value} {a : Array Value} (hr : va_Run p l e R s m args below meth c H locs cells slots mc ms (F0 m pc lsA st0) rest (am_Qc D dA ad base v h' a) (am_A base)) (hS : va_S (am_A base) s.heap H locs)
    (kk : ∀ (H1 : Heap) (locs1 : List Loc), am_Wd D dA ad base h' H1 → va_S (am_A base) s.heap H1 locs1 → W p l e R s m args below meth c H1 locs1 (cells + mc) (slots + ms) Q (F0 m (pc + 3) lsA ((v.map (am_cv ad)).toList ++ rest))) : W p l e R s m args below meth c H locs cells slots Q (F0 m pc lsA st0) := by
  intro T hT X
  obtain ⟨v', st₀, t, T', L, h0, X', hL, e1, e2, ⟨hv, hKt, hWt, hz, hk⟩, st⟩ := hr T hT X
  cases hv
  rw [h0] at hz hk
  rw [← e1] at hWt
  obtain ⟨t2, a1, b1⟩ := kk T'.heap (locs ++ L) hWt
    ⟨Nat.le_trans hS.1 (by rw [e1]; exact hz), fun q h1 h2 => by rw [e1, hk q (Nat.lt_of_lt_of_le h1 hS.1) h2]; exact hS.2.1 q h1 h2, fun q hq => by
      rcases List.mem_append.mp hq with h | h
      · exact hS.2.2 q h
      · exact hL q h⟩ T' rfl X'
  exact ⟨t2, st t2 a1, b1⟩
theorem am_tol (ad : Nat → Nat) (v : Option Value) (rest : List Value) : (v.map (am_cv ad)).toList ++ rest.map (am_cv ad) = (v.toList ++ rest).map (am_cv ad) := by
  cases v <;> simp
set_option maxHeartbeats 2000000 in
/-- a call of a method of the table -/
theorem am_call {T : Nat → Option am_Q} {q : am_Q} {i : am_I} {mm n d : Nat} {As rest : List Value} {v : Option Value} (hok : am_okW q) (hT : T mm = some q) (hM : am_Met l q D dA ad base sc d As h v h') (X : am_Ctx p s m args meth c cc nL own ini R D dA ad base sc) (hnl : lsA.size = nL) (hW : am_Wd D dA ad base h H) (hS : va_S (am_A base) s.heap H locs)
    (hdg : decode cc pc = .ok (i.1, i.2.1)) (hln : i.2.1 = am_ln i.1) (hinv : am_inv i = some (mm, n)) (hck : am_ckI T own i = true) (hfr : d + 1 ≤ R.frames) (hlo : 64 * (d + 1) ≤ R.locals) (hth : am_this q As h) (hini2 : q.2.2.2.2.1 = 2 → ∃ a r, As = .ref a :: r) (hn : As.length = n) (hrs : (rest.map fun v => v.category).sum ≤ 8)
    (hcells : cells + (h'.length - h.length) ≤ R.cells) (hslots : slots + (am_sl h' - am_sl h) ≤ R.slots)
    (kk : ∀ (H1 : Heap) (locs1 : List Loc), am_Wd D dA ad base h' H1 → va_S (am_A base) s.heap H1 locs1 → W p l e R s m args below meth c H1 locs1 (cells + (h'.length - h.length)) (slots + (am_sl h' - am_sl h)) Q (F0 m (pc + 3) lsA ((v.toList ++ rest).map (am_cv ad)))) :
    W p l e R s m args below meth c H locs cells slots Q (F0 m pc lsA ((As.reverse ++ rest).map (am_cv ad))) := by
  obtain ⟨hx, hb, hml, hown, hts, hK, ha, hEx, hini, hR1, hR2⟩ := id X
  obtain ⟨hw, hpl, hmh, hpar, hmx, hi2⟩ := id hok
  have hG := am_good hok
  have hR : (am_rm d (h'.length - h.length) (am_sl h' - am_sl h)).frames + 1 ≤ R.frames ∧ 8 + (q.2.2.1 + 11) + (am_rm d (h'.length - h.length) (am_sl h' - am_sl h)).locals ≤ R.locals := ⟨hfr, by show 8 + (q.2.2.1 + 11) + 64 * d ≤ R.locals; omega⟩
  have hwin := hts _ (hw (.initialized q.1.cls) (List.mem_cons_of_mem _ List.mem_cons_self))
  have hpre : ∀ U : State, U.heap = H → s.WarmedH U.vm → am_Pc D dA ad base sc As h (As.map (am_cv ad)).toArray U := fun U hU hWm => ⟨rfl, va_K.moved hWm.alike hK, by rw [hU]; exact hW, ha, by rw [hU]; exact (hEx.kept hS).warm hWm⟩
  have hroom := lv_room (m := m) (pc := pc) (ls := lsA) (rest := (As.reverse ++ rest).map (am_cv ad)) (st := rest.map (am_cv ad)) (by rw [am_catsum]; exact hrs)
  have kk' : ∀ (H1 : Heap) (locs1 : List Loc), am_Wd D dA ad base h' H1 → va_S (am_A base) s.heap H1 locs1 → W p l e R s m args below meth c H1 locs1 (cells + (h'.length - h.length)) (slots + (am_sl h' - am_sl h)) Q (F0 m (pc + 3) lsA ((v.map (am_cv ad)).toList ++ rest.map (am_cv ad))) := fun H1 locs1 g1 g2 => by
    rw [am_tol]
    exact kk H1 locs1 g1 g2
  obtain ⟨ins, len, x, y, hint, K⟩ := i
  simp only at hdg hln
  unfold am_ckI at hck
  rw [hinv] at hck
  simp only [hT] at hck
  have hsplit : (As.reverse ++ rest).map (am_cv ad) = (As.map (am_cv ad)).reverse ++ rest.map (am_cv ad) := by simp
  cases ins
  case invokevirtual idx =>
    have hlen : len = 3 := hln
    subst hlen
    simp only [Bool.and_eq_true, Bool.or_eq_true, decide_eq_true_eq] at hck
    obtain ⟨⟨hk0, hn1⟩, hck⟩ := hck
    obtain ⟨a, ci, r, fs, z, rfl, hcell, hz, hzc⟩ := hth hk0
    have hmw : Cond.instanceMethod q.1 ∈ am_mw q ∧ Cond.selects q.1.cls q.1 q.1 ∈ am_mw q := by simp [am_mw, hk0]
    have hrec : ∃ cellB : Cell, H[ad a]? = some cellB ∧ cellB.vm.isStatics = false ∧ s.vm.findClass q.1.cls = some cellB.cls := by
      rw [← hzc]
      exact va_recv hK hW.1 hz (am_ws_at hcell)
    have hst : (F0 m pc lsA ((Value.ref a :: r).reverse ++ rest |>.map (am_cv ad))).stack = (r.map (am_cv ad)).reverse ++ .ref (ad a) :: rest.map (am_cv ad) := by
      simp [am_cv]
    have hlen2 : (r.map (am_cv ad)).length = q.2.2.2.2.2.1 := by
      have : r.length + 1 = n := hn
      simp
      omega
    rcases hck with hl | hl
    · have cw := callB_of (R := R) (args := args) (s := s) (own := own) (index := idx) q.2.2.2.2.2.1 hts hG (show am_ws0 q = _ from rfl) rfl rfl hwin (hts _ (am_wd_mem hl)) ⟨hmh.1, hmh.2, hpar⟩ hR
      exact am_back (va_runV (As := r.map (am_cv ad)) (rest := rest.map (am_cv ad)) ⟨hx, hb, hml, hown, hts⟩ hM ⟨cw, hts _ (hw _ hmw.1), hts _ (hw _ hmw.2)⟩ ⟨am_Pc_blind, hrec, hpre⟩ rfl hlen2 hnl hst hroom hdg ⟨hcells, hslots⟩) hS kk'
    · have cw := va_cnB (R := R) (args := args) (s := s) (own := own) (host := "DateVale") (index := idx) q.2.2.2.2.2.1 hts hG (show am_ws0 q = _ from rfl) rfl rfl (hEx.1 _ (am_wn_mem hl) rfl) hwin ⟨hmh.1, hmh.2, hpar⟩ hR
      exact am_back (va_runVN (As := r.map (am_cv ad)) (rest := rest.map (am_cv ad)) ⟨hx, hb, hml, hown, hts⟩ hM ⟨cw, hts _ (hw _ hmw.1), hts _ (hw _ hmw.2)⟩ ⟨am_Pc_blind, hrec, hpre⟩ rfl hlen2 hnl hst hroom hdg ⟨hcells, hslots⟩) hS kk'
  case invokestatic idx =>
    have hlen : len = 3 := hln
    subst hlen
    simp only [Bool.and_eq_true, Bool.or_eq_true, decide_eq_true_eq] at hck
    obtain ⟨⟨hk0, hn1⟩, hck⟩ := hck
    have hmw : Cond.static q.1 ∈ am_mw q := by simp [am_mw, hk0]
    have hlen2 : (As.map (am_cv ad)).length = q.2.2.2.2.2.1 := by simp; omega
    rcases hck with hl | hl
    · have cw := callB_of (R := R) (args := args) (s := s) (own := own) (index := idx) q.2.2.2.2.2.1 hts hG (show am_ws0 q = _ from rfl) rfl rfl hwin (hts _ (am_wd_mem hl)) ⟨hmh.1, hmh.2, hpar⟩ hR
      exact am_back (va_runS (As := As.map (am_cv ad)) (rest := rest.map (am_cv ad)) ⟨hx, hb, hml, hown, hts⟩ hM ⟨cw, hts _ (hw _ hmw)⟩ ⟨am_Pc_blind, hpre⟩ rfl hlen2 hnl hsplit hroom hdg ⟨hcells, hslots⟩) hS kk'
    · have cw := va_cnB (R := R) (args := args) (s := s) (own := own) (host := "DateVale") (index := idx) q.2.2.2.2.2.1 hts hG (show am_ws0 q = _ from rfl) rfl rfl (hEx.1 _ (am_wn_mem hl) rfl) hwin ⟨hmh.1, hmh.2, hpar⟩ hR
      exact am_back (va_runSN (As := As.map (am_cv ad)) (rest := rest.map (am_cv ad)) ⟨hx, hb, hml, hown, hts⟩ hM ⟨cw, hts _ (hw _ hmw), trivial⟩ ⟨am_Pc_blind, hpre⟩ rfl hlen2 hnl hsplit hroom hdg ⟨hcells, hslots⟩) hS kk'
  case invokespecial idx =>
    have hlen : len = 3 := hln
    subst hlen
    simp only [Bool.and_eq_true, Bool.or_eq_true, decide_eq_true_eq] at hck
    obtain ⟨⟨hk0, hn1⟩, hck⟩ := hck
    obtain ⟨hy1, hrk⟩ := hi2 hk0
    obtain ⟨a, r, rfl⟩ := hini2 hk0
    have hmw : Cond.instanceMethod q.1 ∈ am_mw q := by simp [am_mw, hk0]
    have hst : (F0 m pc lsA ((Value.ref a :: r).reverse ++ rest |>.map (am_cv ad))).stack = (r.map (am_cv ad)).reverse ++ .ref (ad a) :: rest.map (am_cv ad) := by
      simp [am_cv]
    have hlen2 : (r.map (am_cv ad)).length = q.2.2.2.2.2.1 := by
      have : r.length + 1 = n := hn
      simp
      omega
    have hws0 : am_ws0 q = Cond.code q.1 q.2.1 q.2.2.1 none :: am_tb := by simp [am_ws0, am_cw, hrk, am_rt]
    rcases hck with hl | hl
    · have cw := callB_of (R := R) (args := args) (s := s) (own := own) (index := idx) q.2.2.2.2.2.1 hts hG hws0 rfl rfl hwin (hts _ (am_wd_mem hl)) ⟨hmh.1, hmh.2, hpar⟩ hR
      exact am_back (va_runI (As := r.map (am_cv ad)) (rest := rest.map (am_cv ad)) ⟨hx, hb, hml, hown, hts⟩ hM ⟨cw, hy1, hts _ (hw _ hmw)⟩ ⟨am_Pc_blind, hpre⟩ rfl hlen2 hnl hst hroom hdg ⟨hcells, hslots⟩) hS kk'
    · have cw := va_cnB (R := R) (args := args) (s := s) (own := own) (host := "DateVale") (index := idx) q.2.2.2.2.2.1 hts hG hws0 rfl rfl (hEx.1 _ (am_wn_mem hl) rfl) hwin ⟨hmh.1, hmh.2, hpar⟩ hR
      exact am_back (va_runIN (As := r.map (am_cv ad)) (rest := rest.map (am_cv ad)) ⟨hx, hb, hml, hown, hts⟩ hM ⟨cw, hy1, hts _ (hw _ hmw)⟩ ⟨am_Pc_blind, hpre⟩ rfl hlen2 hnl hst hroom hdg ⟨hcells, hslots⟩) hS kk'
  all_goals (simp [am_inv] at hinv)
end AMM
