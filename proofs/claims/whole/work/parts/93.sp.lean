/-! ===== the law's own rests; what the abstract machine doesn't walk ===== -/
theorem am_ofWH {l : Launch} {y : MethodName} {ws ws' : List Cond} {rm : Room} {Pc : Array Value → State → Prop} {Qc : Array Value → State → Outcome → State → Prop} {mc ms : Nat} {free : Addr → Prop} {cc : ByteArray} {maxL : Nat} {ret : Option FieldType} {hh : List (Nat × Nat × Nat × Nat)}
    (hy : plainFor y = true) (hw : ws = Cond.codeWith y cc maxL ret hh :: ws')
    (body : ∀ p e s m args below meth c s₁, BodyLoose p l y (headSpec ws rm) cc maxL ret e s m args below meth c s₁ → c.maxLocals = maxL → Pc args s →
      W p l e (headSpec ws rm).room s m args below meth c s.heap [] 0 0 (MQ below Qc args s mc ms free) (entryFrame m args maxL)) : Met l y ws rm Pc Qc mc ms free := by
  refine MetFree.of_bodySF (code := cc) (maxLocals := maxL) (ret := ret) hy ?_ ?_
  · intro args s m h hn
    obtain ⟨m9, meth, c, hn9, h1, h2, h3, h4, -, h5, h6, -⟩ := Cond.codeWith_spec (atoms_spec (ws := ws) h _ (by rw [hw]; exact List.mem_cons_self))
    cases hn.symm.trans hn9
    exact ⟨meth, c, h1, h2, h3, h4, h5, h6⟩
  · intro p e s m args below meth c s₁ B hml hP _
    have hh0 : s₁.heap = s.heap := by rw [B.state]; rfl
    obtain ⟨t, a1, o, b1, b2, b3⟩ := body p e s m args below meth c s₁ B hml hP s₁ hh0 (Stand.of_body B)
    exact ⟨t, o, a1, b1, b2, ⟨b3.1, b3.2⟩⟩
abbrev wL_r : Cond := .codeWith yL_rests cL_rests 7 (some .int) [(0, 14, 17, 13)]
def am_T9 (mm : Nat) : Option am_Q := if mm = 990 then some qX9_rests else none
section LRS
variable {l : Launch} {D : va_G} {dA : Nat → ClassId} {ad : Nat → Nat} {base : Nat} {sc : Nat × (Nat → Int32)}
abbrev lr_As (x o : Nat) (p0 p1 p2 p3 : Int32) : List Value := [.ref x, .int p0, .int p1, .int p2, .int p3, .ref o]
abbrev lr_ls (x o : Nat) (p0 p1 p2 p3 : Int32) : am_L := [some (.ref x), some (.int p0), some (.int p1), some (.int p2), some (.int p3), some (.ref o), none]
theorem lr_run1 {h : am_H} {x o : Nat} {p0 p1 p2 p3 : Int32} : am_G sc (am_Cl am_T am_N0 sc 0) (am_at kL_rests) (fun t => t = ((9, lr_ls x o p0 p1 p2 p3, [.int p3, .int p2, .int p1, .int p0, .ref x, .int 0, .ref o]), h)) ((0, lr_ls x o p0 p1 p2 p3, []), h) :=
  am_G.fr 7 (g := (9, lr_ls x o p0 p1 p2 p3, [.int p3, .int p2, .int p1, .int p0, .ref x, .int 0, .ref o])) rfl (am_G.nd rfl)
theorem lr_run2 {h h' : am_H} {x o : Nat} {p0 p1 p2 p3 r : Int32} (e : am_sL h o 0 r.toInt64 = some h') : am_G sc (am_Cl am_T am_N0 sc 0) (am_at kL_rests) (fun t => t = ((22, lr_ls x o p0 p1 p2 p3, [.int 0]), h')) ((12, lr_ls x o p0 p1 p2 p3, [.int r, .int 0, .ref o]), h) := by
  refine am_G.fr 1 (g := (13, lr_ls x o p0 p1 p2 p3, [.long r.toInt64, .int 0, .ref o])) rfl ?_
  refine am_G.sL rfl e ?_
  exact am_G.fr 2 (g := (22, lr_ls x o p0 p1 p2 p3, [.int 0])) rfl (am_G.nd rfl)
set_option maxHeartbeats 4000000 in
theorem mL_rests (hT : am_okT am_T) (hl : l.stackTraces = false) {h h' : am_H} {x o n : Nat} {p0 p1 p2 p3 : Int32} {f : Nat → Int64} {fs : List Value} {v : Option Value} (hcx : h[x]? = some (.inr (8, fs))) (hco : h[o]? = some (.inl (1, n, .inr (.inl f)))) (hn0 : 0 < n)
    (hv : match am_rests p0 p1 p2 p3 with
      | some r => v = some (.int 0) ∧ h' = h.set o (.inl (1, n, .inr (.inl (vp_updL f 0 r.toInt64))))
      | none => v = some (.int 1) ∧ h.length < am_SB ∧ h' = h ++ [.inr (10, [])]) :
    Met l yL_rests (wL_r :: am_tb) (am_rm 8 (h'.length - h.length) (am_sl h' - am_sl h)) (am_Pc D dA ad base sc (lr_As x o p0 p1 p2 p3) h) (am_Qc D dA ad base v h') (h'.length - h.length) (am_sl h' - am_sl h) (am_A base) := by
  refine am_ofWH (cc := cL_rests) (maxL := 7) (ret := some .int) (hh := [(0, 14, 17, 13)]) (by decide) rfl ?_
  intro p e s m args below meth c s₁ B hml hv0
  obtain ⟨rfl, hK, hW, ha, hEx⟩ := hv0
  have hx := B.exec
  have hb := B.bytes
  have hr := B.returns
  have hlocks := B.notSynchronized
  have hts0 := atoms_spec (ws := wL_r :: am_tb) B.pre
  have hts : ∀ w ∈ am_tb, w.before ((lr_As x o p0 p1 p2 p3).map (am_cv ad)).toArray s = true := fun w hw => hts0 w (List.mem_cons_of_mem _ hw)
  have htab : c.exceptionTable.toList = tableOf [(0, 14, 17, 13)] := vx_table (x := yL_rests) B (hts0 wL_r List.mem_cons_self)
  have hown : s.vm.findClass RL = some m.cls := findClass_of_methodNamed B.named
  have X : am_Ctx p s m ((lr_As x o p0 p1 p2 p3).map (am_cv ad)).toArray meth c qL_rests.2.1 7 qL_rests.1.cls (qL_rests.2.2.2.2.1 == 2) (headSpec (wL_r :: am_tb) (am_rm 8 (h'.length - h.length) (am_sl h' - am_sl h))).room D dA ad base sc :=
    ⟨hx, hb, hml, hown, hts, hK, ha, hEx, fun z => absurd z (by decide), by show 1 ≤ 8; decide, by show 64 ≤ 64 * 8; decide⟩
  have hlow := am_sound (l := l) (sc := sc) hT am_N0_le am_Sp0 D dA ad base 0
  rw [lg_entry_eq]
  obtain ⟨t1, ⟨n1, r1⟩, rfl⟩ := lr_run1 (sc := sc) (h := h) (x := x) (o := o) (p0 := p0) (p1 := p1) (p2 := p2) (p3 := p3)
  refine am_rch_snd (T := am_T) (N := am_N0) (d := 0) (q := qL_rests) hT am_N0_le am_Sp0 hlow okL_rests X (by show 1 ≤ 8; decide) (by show 64 ≤ 64 * 8; decide) n1 (0, lr_ls x o p0 p1 p2 p3, []) _ h h s.heap [] 0 0 _ r1 (am_entry ad (lr_As x o p0 p1 p2 p3) (n := 7) (Nat.le_of_ble_eq_true rfl)) hW va_S.rf (by rw [hW.2.1]; omega) (by show 0 + (h.length - h.length) ≤ h'.length - h.length; omega) (by show 0 + (am_sl h - am_sl h) ≤ am_sl h' - am_sl h; omega) ?_
  intro H1 locs1 lsB k1 k2 k3
  rw [Nat.sub_self, Nat.sub_self]
  cases er : am_rests p0 p1 p2 p3 with
  | some r =>
    rw [er] at hv
    obtain ⟨rfl, rfl⟩ := hv
    have esl : am_sL h o 0 r.toInt64 = some (h.set o (.inl (1, n, .inr (.inl (vp_updL f 0 r.toInt64))))) := by
      unfold am_sL
      rw [hco]
      exact if_pos ⟨rfl, fun z => z.elim (fun q => absurd q (by decide)) (fun q => absurd hn0 (Nat.not_lt.mpr q))⟩
    refine am_call (T := am_T9) (q := qX9_rests) (i := (.invokevirtual 7, 3, 990, 5, 1070, .null)) (mm := 990) (n := 5) (d := 2) (As := [.ref x, .int p0, .int p1, .int p2, .int p3]) (rest := [.int 0, .ref o]) okwX9_rests rfl (mX9_some hT er) X k1.2.1 k2 k3 dL_rests_9 rfl rfl (by decide +kernel) (by show 3 ≤ 8; decide) (by show 64 * 3 ≤ 64 * 8; decide) (fun _ => ⟨x, 8, _, fs, (RX9, TX9, 14), rfl, hcx, rfl, rfl⟩) (fun z => absurd z (by decide)) rfl (Nat.le_of_ble_eq_true rfl) (by show 0 + 0 + (h.length - h.length) ≤ _; simp) (by show 0 + 0 + (am_sl h - am_sl h) ≤ _; simp) ?_
    intro H2 locs2 g1 g2
    obtain ⟨t2, ⟨n2, r2⟩, rfl⟩ := lr_run2 (sc := sc) (x := x) (o := o) (p0 := p0) (p1 := p1) (p2 := p2) (p3 := p3) esl
    refine am_rch_snd (T := am_T) (N := am_N0) (d := 0) (q := qL_rests) hT am_N0_le am_Sp0 hlow okL_rests X (by show 1 ≤ 8; decide) (by show 64 ≤ 64 * 8; decide) n2 (12, lr_ls x o p0 p1 p2 p3, [.int r, .int 0, .ref o]) _ h _ H2 locs2 _ _ lsB r2 k1 g1 g2 (by rw [hW.2.1]; omega) (by show _ ≤ _ - h.length; omega) (by show _ ≤ _ - am_sl h; omega) ?_
    intro H3 locs3 lsC q1 q2 q3
    refine W.widen (k := _) (n := _) (Nat.le_of_eq ?_) (Nat.le_of_eq ?_) (W.iret hx hb hr (fun t ht hWm => ⟨rfl, va_K.moved hWm.alike hK, by rw [ht]; exact q2, q3.F ht⟩) q3.2.2 dL_rests_22)
    · simp
    · simp
  | none =>
    rw [er] at hv
    obtain ⟨rfl, hlen, rfl⟩ := hv
    have emc : (h ++ [Sum.inr (10, ([] : List Value))]).length - h.length = 1 := by simp
    have ems : am_sl (h ++ [Sum.inr (10, ([] : List Value))]) - am_sl h = 6 := by
      rw [am_sl_push]
      show am_sl h + 6 - am_sl h = 6
      omega
    have hG := am_good okwX9_rests
    have cw := callB_of (R := (headSpec (wL_r :: am_tb) (am_rm 8 ((h ++ [Sum.inr (10, ([] : List Value))]).length - h.length) (am_sl (h ++ [Sum.inr (10, ([] : List Value))]) - am_sl h))).room) (args := ((lr_As x o p0 p1 p2 p3).map (am_cv ad)).toArray) (s := s) (own := RL) (index := 7) (rm := am_rm 6 1 6) (mc := 1) (ms := 6) 4 hts hG (show am_ws0 qX9_rests = _ from rfl) rfl rfl (hts _ (am_wd_mem (hint := 90) (by decide +kernel))) (hts _ (am_wd_mem (hint := 1070) (by decide +kernel))) ⟨by decide, by decide, by decide +kernel⟩ ⟨by show 6 + 1 ≤ 8; decide, by show 8 + (11 + 11) + 64 * 6 ≤ 64 * 8; decide⟩
    have hrec : ∃ cellB : Cell, H1[ad x]? = some cellB ∧ cellB.vm.isStatics = false ∧ s.vm.findClass RX9 = some cellB.cls := va_recv hK k2.1 (q := (RX9, TX9, 14)) rfl (am_ws_at hcx)
    have hpre : ∀ U : State, U.heap = H1 → s.WarmedH U.vm → am_Pc D dA ad base sc [.ref x, .int p0, .int p1, .int p2, .int p3] h (Value.ref (ad x) :: [Value.int p0, .int p1, .int p2, .int p3]).toArray U := fun U hU hWm => ⟨rfl, va_K.moved hWm.alike hK, by rw [hU]; exact k2, ha, by rw [hU]; exact (hEx.kept k3).warm hWm⟩
    have hrun := vx_runV (p := p) (e := e) (below := below) (meth := meth) (locs := locs1) (cells := 0 + 0) (slots := 0 + 0) (C := RX9) (b := ad x) (As := [Value.int p0, .int p1, .int p2, .int p3]) (rest := [.int 0, .ref (ad o)]) (g := F0 m 9 lsB ((([.int p3, .int p2, .int p1, .int p0, .ref x, .int 0, .ref o] : List Value)).map (am_cv ad))) ⟨hx, hb, hml, hown, hts⟩ (mX9_none (D := D) (dA := dA) (ad := ad) (base := base) (sc := sc) (a0 := x) hT hl hlen er) ⟨cw, (hts _ (am_wd_mem (hint := 1071) (by decide +kernel))), (hts _ (am_wd_mem (hint := 1072) (by decide +kernel)))⟩ ⟨am_Pc_blind, hrec, hpre⟩ rfl rfl k1.2.1 rfl (lv_room (Nat.le_of_ble_eq_true rfl)) dL_rests_9 ⟨by show 0 + 0 + 1 ≤ (h ++ [Sum.inr (10, ([] : List Value))]).length - h.length; rw [emc]; decide, by show 0 + 0 + 6 ≤ am_sl (h ++ [Sum.inr (10, ([] : List Value))]) - am_sl h; rw [ems]; decide⟩
    intro T hT1 X1
    rcases hrun T hT1 X1 with ⟨v9, st₀, t, T', L, -, -, -, -, -, hf, -⟩ | ⟨q, st₀, t, T', L, E, ce, h0, X', hL, e1, e2, ⟨rfl, hKt, hWt, hF⟩, hce, hcv, hcl, st⟩
    · exact hf.elim
    · obtain ⟨hz, hk⟩ := hF
      rw [h0] at hz hk
      have hS2 : va_S (am_A base) s.heap T'.heap (locs1 ++ L) := ⟨Nat.le_trans k3.1 (by rw [e1]; exact hz), fun q h1 h2 => by rw [e1, hk q (Nat.lt_of_lt_of_le h1 k3.1) h2]; exact k3.2.1 q h1 h2, fun q hq => (List.mem_append.mp hq).elim (k3.2.2 q) (hL q)⟩
      have hbad := hEx.2.2.2.1.2.2.2.2.1
      have key : vx_W p l e (headSpec (wL_r :: am_tb) (am_rm 8 ((h ++ [Sum.inr (10, ([] : List Value))]).length - h.length) (am_sl (h ++ [Sum.inr (10, ([] : List Value))]) - am_sl h))).room s m ((lr_As x o p0 p1 p2 p3).map (am_cv ad)).toArray below meth c T'.heap (locs1 ++ L) (0 + 0 + 1) (0 + 0 + 6) (MQ below (am_Qc D dA ad base (some (.int 1)) (h ++ [Sum.inr (10, ([] : List Value))])) ((lr_As x o p0 p1 p2 p3).map (am_cv ad)).toArray s ((h ++ [Sum.inr (10, ([] : List Value))]).length - h.length) (am_sl (h ++ [Sum.inr (10, ([] : List Value))]) - am_sl h) (am_A base)) (F0 m 9 lsB [.int 0, .ref (ad o)]) q := by
        refine vx_catch (own := RL) (name := RX99) (E := RX99) (ce := ce) hown [] ⟨0, 14, 17, 13⟩ [] (by rw [htab]; rfl) (fun z hz => nomatch hz) (by decide) (by decide) (hts _ (am_wd_mem (hint := 1069) (by decide +kernel))) (va_Nw.use (ax_bad_tab List.mem_cons_self) (hbad _ List.mem_cons_self)) (by rw [e1]; exact hce) hcv hcl ?_
        refine lv_astore hx hb dL_rests_17 k1.2 (by decide) rfl (fun lsC hC => ?_)
        refine lv_iconst hx hb dL_rests_19 (v := 1) (by decide) ?_
        refine W.widen (k := _) (n := _) (Nat.le_of_eq ?_) (Nat.le_of_eq ?_) (W.iret hx hb hr (fun t9 ht hWm => ⟨rfl, va_K.moved hWm.alike hK, by rw [ht, e1]; exact hWt, hS2.F ht⟩) hS2.2.2 dL_rests_20)
        · rw [emc]
        · rw [ems]
      obtain ⟨t2, a1, b1⟩ := key T' rfl X'
      exact ⟨t2, st.trans a1, b1⟩
end LRS
theorem am_byt_ok : am_byt.all (fun bs => decide (bs.length < 100) && bs.all (fun b => decide (((b &&& 255).toUInt32 % 65536).toInt32 = b) && decide (narrow .char (.int b) = .int b))) = true := by decide +kernel
theorem am_byt_at (i : Nat) : (am_byt.getD i []).length < 100 ∧ ∀ j, j < (am_byt.getD i []).length → ((((am_byt.getD i []).getD j 0) &&& 255).toUInt32 % 65536).toInt32 = (am_byt.getD i []).getD j 0 ∧ narrow .char (.int ((am_byt.getD i []).getD j 0)) = .int ((am_byt.getD i []).getD j 0) := by
  by_cases hi : i < am_byt.length
  · have e1 : am_byt.getD i [] = am_byt[i] := by simp [List.getD, hi]
    have h1 := List.all_eq_true.mp am_byt_ok _ (List.getElem_mem hi)
    rw [Bool.and_eq_true, decide_eq_true_eq] at h1
    rw [e1]
    refine ⟨h1.1, fun j hj => ?_⟩
    have e2 : (am_byt[i]).getD j 0 = (am_byt[i])[j] := by simp [List.getD, hj]
    have h2 := List.all_eq_true.mp h1.2 _ (List.getElem_mem hj)
    rw [Bool.and_eq_true, decide_eq_true_eq, decide_eq_true_eq] at h2
    rw [e2]
    exact h2
  · have e1 : am_byt.getD i [] = [] := by simp [List.getD, hi]
    rw [e1]
    exact ⟨by decide, fun j hj => absurd hj (Nat.not_lt_zero j)⟩
theorem js_shr {n : Nat} (h : n < 100) : Int32.ofNat n >>> ((0 : Int32) &&& 31) = Int32.ofNat n := by
  have : ∀ k : Fin 100, Int32.ofNat k.1 >>> ((0 : Int32) &&& 31) = Int32.ofNat k.1 := by decide +kernel
  exact this ⟨n, h⟩
theorem js_of {ad : Nat → Nat} {base : Nat} {s : State} {H0 H : Heap} {locs : List Loc} {i : Nat} (hi : i < 25) (h1 : am_Str ad base s H0) (h2 : am_Thr base s H0) (hS : va_S (am_A base) H0 H locs) : ∃ b, js_I base (ad (am_SB + i)) b (am_byt.getD i []) s H := by
  obtain ⟨hc, adV, ha⟩ := h1
  obtain ⟨a1, a2, a3, a4⟩ := ha i hi
  exact ⟨adV i, js_I.kept (H := H0) ⟨h2.1, hc, a1, a2, a3, a4⟩ (fun q g1 g2 => hS.2.1 q g1 g2)⟩
set_option maxHeartbeats 4000000 in
/-- WHAT THE ABSTRACT MACHINE DOESN'T WALK: String.length, String.charAt, the law's rests -/
theorem am_Sp_ok {l : Launch} (hT : am_okT am_T) (hl : l.stackTraces = false) : am_Sp l am_T am_N := by
  intro p e R s m args below meth c H locs cells slots Q cc pc nL own ini D dA ad base sc lsA h h' i mm n d As rest v X hnl hW hS hdg hln hinv hck hTm h8 hfr hlo hn hrs hN hex hcells hslots kk
  obtain ⟨hx, hb, hml, hown, hts, hK, ha, hEx, hini, hR1, hR2⟩ := id X
  unfold am_ckN at hck
  split at hck
  · rename_i idx _ n' hint K
    rw [Bool.and_eq_true] at hck
    simp only [am_inv, Option.some.injEq, Prod.mk.injEq] at hinv
    obtain ⟨rfl, rfl⟩ := hinv
    rcases hN with ⟨-, t, x, rfl, e1, rfl, rfl⟩ | ⟨z, -⟩ | ⟨z, -⟩
    · have hl3 := hln
      simp only [am_ln] at hl3
      simp only [hl3] at hdg
      unfold am_sLen at e1
      split at e1
      · rename_i ht
        obtain rfl := Option.some.inj e1
        obtain ⟨k, rfl⟩ : ∃ k : Nat, @Eq Nat t (am_SB + k) := ⟨@HSub.hSub Nat Nat Nat _ t am_SB, by omega⟩
        have hk : k < 25 := by omega
        have ek : am_SB + k - am_SB = k := by omega
        rw [ek] at kk
        obtain ⟨b, hI⟩ := js_of hk hEx.2.2.2.1.1 hEx.2.2.2.1.2 hS
        have hby := am_byt_at k
        refine js_callV (As := []) (rest := rest.map (am_cv ad)) (np := 0) (js_length (js_shr hby.1)) hx hb hml hown hts hI hS hnl (am_wd_mem (hint := 510) (by decide +kernel)) (hts _ (am_wd_mem (hint := 102) (by decide +kernel))) (hts _ (am_wd_mem hck.2)) (hts _ (am_wd_mem (hint := 508) (by decide +kernel))) (hts _ (am_wd_mem (hint := 509) (by decide +kernel))) ⟨by decide, by decide, by decide +kernel⟩ rfl (by omega) (by omega) (by rw [am_catsum]; exact hrs) (by omega) (by omega) hdg (fun locs1 hS1 => ?_)
        have k9 := kk H locs1 hW hS1
        rw [Nat.sub_self, Nat.sub_self, Nat.add_zero, Nat.add_zero] at k9
        exact k9
      · cases e1
    · exact absurd z (by decide)
    · exact absurd z (by decide)
  · rename_i idx _ n' hint K
    rw [Bool.and_eq_true] at hck
    simp only [am_inv, Option.some.injEq, Prod.mk.injEq] at hinv
    obtain ⟨rfl, rfl⟩ := hinv
    rcases hN with ⟨z, -⟩ | ⟨-, t, j, x, rfl, e1, rfl, rfl⟩ | ⟨z, -⟩
    · exact absurd z (by decide)
    · have hl3 := hln
      simp only [am_ln] at hl3
      simp only [hl3] at hdg
      unfold am_sCh at e1
      split at e1
      · rename_i ht
        obtain rfl := Option.some.inj e1
        obtain ⟨t1, t2, hin⟩ := ht
        obtain ⟨k, rfl⟩ : ∃ k : Nat, @Eq Nat t (am_SB + k) := ⟨@HSub.hSub Nat Nat Nat _ t am_SB, by omega⟩
        have hk : k < 25 := by omega
        have ek : am_SB + k - am_SB = k := by omega
        rw [ek] at kk hin
        obtain ⟨b, hI⟩ := js_of hk hEx.2.2.2.1.1 hEx.2.2.2.1.2 hS
        have hby := am_byt_at k
        have h31 : (am_byt.getD k []).length < 2 ^ 31 := Nat.lt_of_lt_of_le hby.1 (by decide)
        obtain ⟨j0, hj0, rfl⟩ := vp_in_of (x := j) hin h31
        have hc0 : (nI j0).toNatClampNeg = j0 := nI_clamp (by omega)
        have hbj := hby.2 j0 hj0
        rw [hc0] at kk
        refine js_callV (As := [.int (nI j0)]) (rest := rest.map (am_cv ad)) (np := 1) (js_charAt hin (nI_lt hj0 h31) (by rw [hc0]; exact hbj.1) hbj.2) hx hb hml hown hts hI hS hnl (am_wd_mem (hint := 520) (by decide +kernel)) (hts _ (am_wd_mem (hint := 102) (by decide +kernel))) (hts _ (am_wd_mem hck.2)) (hts _ (am_wd_mem (hint := 518) (by decide +kernel))) (hts _ (am_wd_mem (hint := 519) (by decide +kernel))) ⟨by decide, by decide, by decide +kernel⟩ rfl (by omega) (by omega) (by rw [am_catsum]; exact hrs) (by omega) (by omega) hdg (fun locs1 hS1 => ?_)
        have k9 := kk H locs1 hW hS1
        rw [Nat.sub_self, Nat.sub_self, Nat.add_zero, Nat.add_zero] at k9
        exact k9
      · cases e1
    · exact absurd z (by decide)
  · rename_i idx _ n' hint K
    rw [Bool.and_eq_true] at hck
    simp only [am_inv, if_neg (show ¬ (903 : Nat) = 998 by decide), Option.some.injEq, Prod.mk.injEq] at hinv
    obtain ⟨rfl, rfl⟩ := hinv
    rcases hN with ⟨z, -⟩ | ⟨z, -⟩ | ⟨-, x, p0, p1, p2, p3, o, n9, f9, fs, rfl, hcx, hco, hn0, hv⟩
    · exact absurd z (by decide)
    · exact absurd z (by decide)
    · have hl3 := hln
      simp only [am_ln] at hl3
      simp only [hl3] at hdg
      have hM := mL_rests (l := l) (D := D) (dA := dA) (ad := ad) (base := base) (sc := sc) hT hl hcx hco hn0 hv
      have hG : GoodIn am_tb (wL_r :: am_tb) := by
        intro w hw
        have hm : w ∈ am_tb := by
          rcases List.mem_cons.mp hw with rfl | hw
          · exact (am_wd_mem (hint := 1068) (by decide +kernel))
          · exact hw
        exact ⟨hm, good_of_word (List.mem_filter.mp hm).2⟩
      have cw : vx_CSW R s args own idx yL_rests cL_rests 7 (some .int) [(0, 14, 17, 13)] (wL_r :: am_tb) (am_rm 8 (h'.length - h.length) (am_sl h' - am_sl h)) (h'.length - h.length) (am_sl h' - am_sl h) 6 :=
        ⟨⟨rfl, rfl, by show 8 + 1 ≤ R.frames; omega, by show 8 + (7 + 11) + 64 * 8 ≤ R.locals; omega, pay_in hts hG, List.mem_cons_self⟩, hts _ (am_wd_mem (hint := 1068) (by decide +kernel)), (hts _ (am_wd_mem (hint := 89) (by decide +kernel))), ⟨by decide, by decide⟩, fun sig hs => by
          have h2 : (parseMethodDescriptor yL_rests.desc).map (fun d => d.parameters.length) = some 6 := by decide +kernel
          rw [hs] at h2
          exact (Option.some.inj h2).symm, hts _ (am_wd_mem hck.2), (hts _ (am_wd_mem (hint := 1067) (by decide +kernel)))⟩
      have hpre : ∀ U : State, U.heap = H → s.WarmedH U.vm → am_Pc D dA ad base sc (lr_As x o p0 p1 p2 p3) h ((lr_As x o p0 p1 p2 p3).map (am_cv ad)).toArray U := fun U hU hWm => ⟨rfl, va_K.moved hWm.alike hK, by rw [hU]; exact hW, ha, by rw [hU]; exact (hEx.kept hS).warm hWm⟩
      have hsplit : ((lr_As x o p0 p1 p2 p3).reverse ++ rest).map (am_cv ad) = ((lr_As x o p0 p1 p2 p3).map (am_cv ad)).reverse ++ rest.map (am_cv ad) := by simp
      refine am_back (vx_runSW (As := (lr_As x o p0 p1 p2 p3).map (am_cv ad)) (rest := rest.map (am_cv ad)) ⟨hx, hb, hml, hown, hts⟩ hM cw ⟨am_Pc_blind, hpre⟩ rfl rfl hnl hsplit (lv_room (by rw [am_catsum]; exact hrs)) hdg ⟨hcells, hslots⟩) hS (fun H1 locs1 g1 g2 => ?_)
      rw [am_tol]
      exact kk H1 locs1 g1 g2
  · cases hck
