/-! ## soundness: runs and methods -/
section AMZ
variable {p : Program} {l : Launch} {e : Env} {R : Room} {s : State} {m : MethodId} {args : Array Value} {below : List Frame} {meth : Method} {c : Code} {Q : State → Prop}
variable {nL : Nat} {D : va_G} {dA : Nat → ClassId} {ad : Nat → Nat} {base : Nat} {sc : Nat × (Nat → Int32)}
/-- what is known of the calls one level below -/
def am_Low (l : Launch) (T : Nat → Option am_Q) (N : Nat × (Nat → Int32) → am_C) (sc : Nat × (Nat → Int32)) (D : va_G) (dA : Nat → ClassId) (ad : Nat → Nat) (base d : Nat) : Prop :=
  ∀ m q As h v h', T m = some q → am_Cl T N sc d m As h v h' → h.length ≤ am_SB → am_Met l q D dA ad base sc d As h v h'
theorem am_Cl_this {T : Nat → Option am_Q} {N : Nat × (Nat → Int32) → am_C} {d m : Nat} {q : am_Q} {As : List Value} {h h' : am_H} {v : Option Value} (hT : T m = some q) (e : am_Cl T N sc d m As h v h') : am_this q As h ∧ (q.2.2.2.2.1 = 2 → ∃ a r, As = .ref a :: r) := by
  cases d with
  | zero => exact e.elim
  | succ d =>
    rcases e with ⟨q', f, h1, h2, h3, -⟩ | ⟨h1, -⟩
    · cases hT.symm.trans h1
      exact ⟨h2, h3⟩
    · cases hT.symm.trans h1
theorem am_Cl_none {T : Nat → Option am_Q} {N : Nat × (Nat → Int32) → am_C} {d m : Nat} {As : List Value} {h h' : am_H} {v : Option Value} (hT : T m = none) (e : am_Cl T N sc d m As h v h') : 8 ≤ d ∧ N sc m As h v h' := by
  cases d with
  | zero => exact e.elim
  | succ d =>
    rcases e with ⟨q', f, h1, -⟩ | ⟨h1, h2, h3⟩
    · cases hT.symm.trans h1
    · exact ⟨by omega, h3⟩
set_option maxHeartbeats 2000000 in
theorem am_rch_snd {T : Nat → Option am_Q} {N : Nat × (Nat → Int32) → am_C} {d : Nat} {q : am_Q} (hT : am_okT T) (hN : am_Cle (N sc)) (hsp : am_Sp l T N) (hlow : am_Low l T N sc D dA ad base d) (hq : ∀ pc i, q.2.2.2.2.2.2 pc = some i → am_okI T q pc i)
    (X : am_Ctx p s m args meth c q.2.1 nL q.1.cls (q.2.2.2.2.1 == 2) R D dA ad base sc) (hfr : d + 1 ≤ R.frames) (hlo : 64 * (d + 1) ≤ R.locals) :
    ∀ (n : Nat) (f f' : am_F) (h h' : am_H) (H : Heap) (locs : List Loc) (cells slots : Nat) (lsA : Array Slot), am_rch sc (am_Cl T N sc d) q.2.2.2.2.2.2 n (f, h) (f', h') → am_fr ad lsA nL f.2.1 → am_Wd D dA ad base h H → va_S (am_A base) s.heap H locs → s.heap.size + cells = base + h.length → cells + (h'.length - h.length) ≤ R.cells → slots + (am_sl h' - am_sl h) ≤ R.slots →
      (∀ (H1 : Heap) (locs1 : List Loc) (lsB : Array Slot), am_fr ad lsB nL f'.2.1 → am_Wd D dA ad base h' H1 → va_S (am_A base) s.heap H1 locs1 → W p l e R s m args below meth c H1 locs1 (cells + (h'.length - h.length)) (slots + (am_sl h' - am_sl h)) Q (F0 m f'.1 lsB (f'.2.2.map (am_cv ad)))) →
      W p l e R s m args below meth c H locs cells slots Q (F0 m f.1 lsA (f.2.2.map (am_cv ad))) := by
  intro n
  induction n with
  | zero =>
    intro f f' h h' H locs cells slots lsA e0 hf hW hS hex hc hs kk
    cases e0
    have := kk H locs lsA hf hW hS
    exact W.widen (Nat.le_add_right _ _) (Nat.le_add_right _ _) this
  | succ n ih =>
    intro f f' h h' H locs cells slots lsA e0 hf hW hS hex hc hs kk
    obtain ⟨u, e1, e2⟩ := e0
    obtain ⟨fu, hu⟩ := u
    have le1 := am_stp_le (am_Cl_le hN d) e1
    have le2 := am_rch_le (am_Cl_le hN d) e2
    simp only at le1 le2
    obtain ⟨⟨l1, l2⟩, -⟩ := le1
    obtain ⟨⟨l3, l4⟩, -⟩ := le2
    -- what comes behind the first step
    have next : ∀ (H1 : Heap) (locs1 : List Loc) (lsB : Array Slot), am_fr ad lsB nL fu.2.1 → am_Wd D dA ad base hu H1 → va_S (am_A base) s.heap H1 locs1 → W p l e R s m args below meth c H1 locs1 (cells + (hu.length - h.length)) (slots + (am_sl hu - am_sl h)) Q (F0 m fu.1 lsB (fu.2.2.map (am_cv ad))) := by
      intro H1 locs1 lsB g1 g2 g3
      refine ih fu f' hu h' H1 locs1 _ _ lsB e2 g1 g2 g3 (by omega) (by omega) (by omega) (fun H2 locs2 lsC k1 k2 k3 => ?_)
      have e3 : cells + (hu.length - h.length) + (h'.length - hu.length) = cells + (h'.length - h.length) := by omega
      have e4 : slots + (am_sl hu - am_sl h) + (am_sl h' - am_sl hu) = slots + (am_sl h' - am_sl h) := by omega
      rw [e3, e4]
      exact kk H2 locs2 lsC k1 k2 k3
    obtain ⟨hx, hb, hml, hown, hts, hK, ha, hEx, hini, hR1, hR2⟩ := id X
    have hnl : lsA.size = nL := hf.2.1
    rcases e1 with e1 | ⟨ls', hsub, e1⟩ | ⟨i, mm, k, As, rest, v, h'', g3, g4, g5, g6, g7, g8, g9⟩
    · simp only at e1
      unfold am_s1 at e1
      split at e1
      · cases e1
      · rename_i i hi
        obtain ⟨o1, o2, o3, o4, o5⟩ := hq _ _ hi
        split at e1
        · rename_i z hz
          cases e1
          have hsw : am_isSw i.1 = false := by
            obtain ⟨ins, r⟩ := i
            cases ins <;> first | rfl | (simp [am_p] at hz)
          exact am_p_snd hx hb hown hts hEx.2.2.1 o1 (o2 hsw) o3 hf hz (fun lsB hB => W.widen (Nat.le_add_right _ _) (Nat.le_add_right _ _) (next H locs lsB hB hW hS))
        · split at e1
          · rename_i z hz
            split at e1
            · rename_i hpos
              cases e1
              exact am_b_snd hx hb o1 o2 o4 hz (show (f.1 : Int) + z.1 = ((((f.1 : Int) + z.1).toNat : Nat) : Int) by omega) (W.widen (Nat.le_add_right _ _) (Nat.le_add_right _ _) (next H locs lsA hf hW hS))
            · cases e1
          · split at e1
            · rename_i z hz
              obtain ⟨st', hz'⟩ := z
              cases e1
              dsimp only at l1 l2 l3 l4
              have hsw : am_isSw i.1 = false := by
                obtain ⟨ins, r⟩ := i
                cases ins <;> first | rfl | (simp [am_h] at hz)
              exact am_h_snd X hnl hW hS o1 (o2 hsw) o3 hz hex (by omega) (by omega) (fun H1 locs1 k1 k2 => next H1 locs1 lsA hf k1 k2)
            · cases e1
    · simp only at hsub e1
      cases e1
      obtain ⟨s1, s2⟩ := am_sub_ok hsub
      refine W.widen (Nat.le_add_right _ _) (Nat.le_add_right _ _) (next H locs lsA ⟨s1.trans hf.1, hf.2.mono fun z hz => ?_⟩ hW hS)
      obtain ⟨j, w⟩ := z
      obtain ⟨v, hv, rfl⟩ := am_lv_mem.mp hz
      exact am_lv_mem.mpr ⟨v, s2 j v hv, rfl⟩
    · simp only at g3 g5 g8 g9
      cases g9
      obtain ⟨o1, o2, o3, o4, o5⟩ := hq _ _ g3
      have hsw : am_isSw i.1 = false := by
        obtain ⟨ins, r⟩ := i
        cases ins <;> first | rfl | (simp [am_inv] at g4)
      have hl : h.length ≤ am_SB := hW.2.2
      cases hTm : T mm with
      | some q' =>
        obtain ⟨t1, t2⟩ := am_Cl_this hTm g8
        rw [g5]
        exact am_call (hT _ _ hTm).1 hTm (hlow _ _ _ _ _ _ hTm g8 hl) X hnl hW hS o1 (o2 hsw) g4 o5 hfr hlo t1 t2 g6 g7 (by omega) (by omega) (fun H1 locs1 k1 k2 => next H1 locs1 lsA hf k1 k2)
      | none =>
        obtain ⟨t1, t2⟩ := am_Cl_none hTm g8
        rw [g5]
        have o6 : am_ckN q.1.cls i = true := by
          unfold am_ckI at o5
          rw [g4] at o5
          simp only [hTm] at o5
          exact o5
        exact hsp X hnl hW hS o1 (o2 hsw) g4 o6 hTm t1 hfr hlo g6 g7 t2 hex (by omega) (by omega) (fun H1 locs1 k1 k2 => next H1 locs1 lsA hf k1 k2)
end AMZ
/-! ### the entry -/
theorem am_ent_len (ad : Nat → Nat) (As : List Value) : (lg_sl (As.map (am_cv ad))).length = (am_ent As).length := by
  induction As with
  | nil => rfl
  | cons v vs ih =>
    by_cases hv : v.category = 2
    · simp [lg_sl, am_ent, hv, am_cat] at ih ⊢
      omega
    · simp [lg_sl, am_ent, hv, am_cat] at ih ⊢
      omega
theorem am_ent_lv (ad : Nat → Nat) : ∀ (As : List Value) (k i : Nat) (v : Value), (am_ent As)[i]? = some (some v) → (k + i, am_cv ad v) ∈ lv_args k (As.map (am_cv ad)) := by
  intro As
  induction As with
  | nil => intro k i v h; simp [am_ent] at h
  | cons w ws ih =>
    intro k i v h
    rw [List.map_cons, lv_args, am_cat]
    unfold am_ent at h
    by_cases hw : w.category = 2
    · rw [if_pos hw] at h
      rw [if_pos hw]
      match i, h with
      | 0, h => simp only [List.getElem?_cons_zero, Option.some.injEq] at h; subst h; exact List.mem_cons_self
      | 1, h => simp at h
      | j + 2, h =>
        simp only [List.getElem?_cons_succ] at h
        have := ih (k + 2) j v h
        rw [show k + (j + 2) = k + 2 + j by omega]
        exact List.mem_cons_of_mem _ this
    · rw [if_neg hw] at h
      rw [if_neg hw]
      match i, h with
      | 0, h => simp only [List.getElem?_cons_zero, Option.some.injEq] at h; subst h; exact List.mem_cons_self
      | j + 1, h =>
        simp only [List.getElem?_cons_succ] at h
        have := ih (k + 1) j v h
        rw [show k + (j + 1) = k + 1 + j by omega]
        exact List.mem_cons_of_mem _ this
theorem am_entry (ad : Nat → Nat) (As : List Value) {n : Nat} (h : (am_ent As).length ≤ n) : am_fr ad ((lg_sl (As.map (am_cv ad)) ++ List.replicate (n - (lg_sl (As.map (am_cv ad))).length) Slot.unset).toArray) n (am_pad (am_ent As) n) := by
  refine ⟨by simp [am_pad]; omega, (lv_entry (As.map (am_cv ad)) (by rw [am_ent_len]; exact h)).mono fun q hq => ?_⟩
  obtain ⟨i, w⟩ := q
  obtain ⟨v, hv, rfl⟩ := am_lv_mem.mp hq
  have hv2 : (am_ent As)[i]? = some (some v) := by
    unfold am_pad at hv
    by_cases hi : i < (am_ent As).length
    · rw [List.getElem?_append_left hi] at hv
      exact hv
    · rw [List.getElem?_append_right (by omega), List.getElem?_replicate] at hv
      split at hv <;> simp at hv
  have := am_ent_lv ad As 0 i v hv2
  rwa [Nat.zero_add] at this
theorem am_ofW {l : Launch} {y : MethodName} {ws ws' : List Cond} {rm : Room} {Pc : Array Value → State → Prop} {Qc : Array Value → State → Outcome → State → Prop} {mc ms : Nat} {free : Addr → Prop} {cc : ByteArray} {maxL : Nat} {ret : Option FieldType}
    (hy : plainFor y = true) (hw : ws = Cond.code y cc maxL ret :: ws')
    (body : ∀ p e s m args below meth c s₁, BodyLoose p l y (headSpec ws rm) cc maxL ret e s m args below meth c s₁ → c.maxLocals = maxL → Pc args s →
      W p l e (headSpec ws rm).room s m args below meth c s.heap [] 0 0 (MQ below Qc args s mc ms free) (entryFrame m args maxL)) : Met l y ws rm Pc Qc mc ms free := by
  refine MetFree.of_bodySF (code := cc) (maxLocals := maxL) (ret := ret) hy ?_ ?_
  · intro args s m h hn
    obtain ⟨meth, c, h1, h2, h3, h4, h5, h6, -, -⟩ := Cond.code_spec hn (atoms_spec (ws := ws) h _ (by rw [hw]; exact List.mem_cons_self))
    exact ⟨meth, c, h1, h2, h3, h4, h5, h6⟩
  · intro p e s m args below meth c s₁ B hml hP _
    have hh0 : s₁.heap = s.heap := by rw [B.state]; rfl
    obtain ⟨t, a1, o, b1, b2, b3⟩ := body p e s m args below meth c s₁ B hml hP s₁ hh0 (Stand.of_body B)
    exact ⟨t, o, a1, b1, b2, ⟨b3.1, b3.2⟩⟩
set_option maxHeartbeats 2000000 in
/-- EVERY CALL OF THE ABSTRACT MACHINE IS A CONTRACT OF THE MACHINE -/
theorem am_sound {l : Launch} {T : Nat → Option am_Q} {N : Nat × (Nat → Int32) → am_C} {sc : Nat × (Nat → Int32)} (hT : am_okT T) (hN : am_Cle (N sc)) (hsp : am_Sp l T N) (D : va_G) (dA : Nat → ClassId) (ad : Nat → Nat) (base : Nat) : ∀ d, am_Low l T N sc D dA ad base d := by
  intro d
  induction d with
  | zero => intro m q As h v h' _ e; exact e.elim
  | succ d ih =>
    intro m0 q As h v h' hTm ec hl
    rcases ec with ⟨q', f, h1, h2, h3, h4, h4b, ⟨n, h5⟩, h6⟩ | ⟨h1, -⟩
    · cases hTm.symm.trans h1
      obtain ⟨⟨hw, hpl, hmh, hpar, hmx, hi2⟩, hci⟩ := hT _ _ hTm
      unfold am_Met
      refine am_ofW (cc := q.2.1) (maxL := q.2.2.1) (ret := am_rt q.2.2.2.1) hpl rfl ?_
      intro p e s m args below meth c s₁ B hml hv
      obtain ⟨rfl, hK, hW, ha, hEx⟩ := hv
      have hx := B.exec
      have hb := B.bytes
      have hr := B.returns
      have hts0 := atoms_spec (ws := am_ws0 q) B.pre
      have hts : ∀ w ∈ am_tb, w.before (As.map (am_cv ad)).toArray s = true := fun w hw => hts0 w (List.mem_cons_of_mem _ hw)
      have hown : s.vm.findClass q.1.cls = some m.cls := findClass_of_methodNamed B.named
      have hlocks := B.notSynchronized
      have hnm := (name_of_methodNamed B.named B.method).1
      have le := am_rch_le (am_Cl_le hN d) h5
      obtain ⟨⟨l1, l2⟩, -⟩ := le
      have X : am_Ctx p s m (As.map (am_cv ad)).toArray meth c q.2.1 q.2.2.1 q.1.cls (q.2.2.2.2.1 == 2) (headSpec (am_ws0 q) (am_rm (d + 1) (h'.length - h.length) (am_sl h' - am_sl h))).room D dA ad base sc :=
        ⟨hx, hb, hml, hown, hts, hK, ha, hEx, fun z => by rw [hnm]; exact (hi2 (by simpa using z)).1, Nat.le_add_left 1 d, by show 64 ≤ 64 * (d + 1); omega⟩
      rw [lg_entry_eq]
      have hfr := am_entry ad As h4
      refine am_rch_snd (T := T) (N := N) (d := d) (q := q) hT hN hsp ih hci X (Nat.le_refl _) (Nat.le_refl _) n (0, am_pad (am_ent As) q.2.2.1, []) f h h' s.heap [] 0 0 _ h5 hfr hW va_S.rf (by rw [hW.2.1]; omega) (by show 0 + (h'.length - h.length) ≤ h'.length - h.length; omega) (by show 0 + (am_sl h' - am_sl h) ≤ am_sl h' - am_sl h; omega) ?_
      intro H1 locs1 lsB k1 k2 k3
      rw [Nat.zero_add, Nat.zero_add]
      have hpost : ∀ (o : Option Value), o = v.map (am_cv ad) → ∀ t : State, t.heap = H1 → s.WarmedH t.vm → am_Qc D dA ad base v h' (As.map (am_cv ad)).toArray s (.returned o) t := fun o ho t ht hWm => ⟨by rw [ho], va_K.moved hWm.alike hK, by rw [ht]; exact k2, k3.F ht⟩
      unfold am_ret at h6
      split at h6
      · rename_i g1 g2 g3
        cases h6
        obtain ⟨o1, o2, -⟩ := hci _ _ g1
        have hl1 := o2 rfl
        simp only [am_ln] at hl1
        subst hl1
        rw [g2] at hr
        rw [g3]
        exact W.vret hx hb hr (hpost _ rfl) k3.2.2 o1
      · rename_i g1 g2 g3
        cases h6
        obtain ⟨o1, o2, -⟩ := hci _ _ g1
        have hl1 := o2 rfl
        simp only [am_ln] at hl1
        subst hl1
        rw [g2] at hr
        rw [g3]
        exact W.iret hx hb hr (hpost _ rfl) k3.2.2 o1
      · rename_i x g1 g2 g3
        split at h6
        · rename_i hx01
          cases h6
          obtain ⟨o1, o2, -⟩ := hci _ _ g1
          have hl1 := o2 rfl
          simp only [am_ln] at hl1
          subst hl1
          rw [g2] at hr
          rw [g3]
          refine W.zret (ty := .boolean) hx hb hr ?_ (hpost _ rfl) k3.2.2 o1
          rcases hx01 with rfl | rfl <;> rfl
        · cases h6
      · cases h6
    · cases hTm.symm.trans h1
