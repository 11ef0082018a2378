/-! ===== String.length and String.charAt over the String constants: walks of the JDK's bytes ===== -/
theorem dJ0_length_8abf5_0 : decode cJ0_length_8abf5 0 = .ok (.aload_n 0, 1) := by decide +kernel
theorem dJ0_length_8abf5_1 : decode cJ0_length_8abf5 1 = .ok (.getfield 9, 3) := by decide +kernel
theorem dJ0_length_8abf5_4 : decode cJ0_length_8abf5 4 = .ok (.arraylength, 1) := by decide +kernel
theorem dJ0_length_8abf5_5 : decode cJ0_length_8abf5 5 = .ok (.aload_n 0, 1) := by decide +kernel
theorem dJ0_length_8abf5_6 : decode cJ0_length_8abf5 6 = .ok (.invokevirtual 335, 3) := by decide +kernel
theorem dJ0_length_8abf5_9 : decode cJ0_length_8abf5 9 = .ok (.ishr, 1) := by decide +kernel
theorem dJ0_length_8abf5_10 : decode cJ0_length_8abf5 10 = .ok (.ireturn, 1) := by decide +kernel
theorem dJ0_charAt_5068e_0 : decode cJ0_charAt_5068e 0 = .ok (.aload_n 0, 1) := by decide +kernel
theorem dJ0_charAt_5068e_1 : decode cJ0_charAt_5068e 1 = .ok (.invokevirtual 492, 3) := by decide +kernel
theorem dJ0_charAt_5068e_4 : decode cJ0_charAt_5068e 4 = .ok (.ifCond .eq 12, 3) := by decide +kernel
theorem dJ0_charAt_5068e_7 : decode cJ0_charAt_5068e 7 = .ok (.aload_n 0, 1) := by decide +kernel
theorem dJ0_charAt_5068e_8 : decode cJ0_charAt_5068e 8 = .ok (.getfield 9, 3) := by decide +kernel
theorem dJ0_charAt_5068e_11 : decode cJ0_charAt_5068e 11 = .ok (.iload_n 1, 1) := by decide +kernel
theorem dJ0_charAt_5068e_12 : decode cJ0_charAt_5068e 12 = .ok (.invokestatic 495, 3) := by decide +kernel
theorem dJ0_charAt_5068e_15 : decode cJ0_charAt_5068e 15 = .ok (.ireturn, 1) := by decide +kernel
theorem dJ0_charAt_5068e_16 : decode cJ0_charAt_5068e 16 = .ok (.aload_n 0, 1) := by decide +kernel
theorem dJ0_charAt_5068e_17 : decode cJ0_charAt_5068e 17 = .ok (.getfield 9, 3) := by decide +kernel
theorem dJ0_charAt_5068e_20 : decode cJ0_charAt_5068e 20 = .ok (.iload_n 1, 1) := by decide +kernel
theorem dJ0_charAt_5068e_21 : decode cJ0_charAt_5068e 21 = .ok (.invokestatic 498, 3) := by decide +kernel
theorem dJ0_charAt_5068e_24 : decode cJ0_charAt_5068e 24 = .ok (.ireturn, 1) := by decide +kernel
theorem dJ0_coder_7d493_0 : decode cJ0_coder_7d493 0 = .ok (.getstatic 38, 3) := by decide +kernel
theorem dJ0_coder_7d493_3 : decode cJ0_coder_7d493 3 = .ok (.ifCond .eq 10, 3) := by decide +kernel
theorem dJ0_coder_7d493_6 : decode cJ0_coder_7d493 6 = .ok (.aload_n 0, 1) := by decide +kernel
theorem dJ0_coder_7d493_7 : decode cJ0_coder_7d493 7 = .ok (.getfield 15, 3) := by decide +kernel
theorem dJ0_coder_7d493_10 : decode cJ0_coder_7d493 10 = .ok (.goto 4, 3) := by decide +kernel
theorem dJ0_coder_7d493_13 : decode cJ0_coder_7d493 13 = .ok (.iconst 1, 1) := by decide +kernel
theorem dJ0_coder_7d493_14 : decode cJ0_coder_7d493 14 = .ok (.ireturn, 1) := by decide +kernel
theorem dJ0_isLatin1_aae02_0 : decode cJ0_isLatin1_aae02 0 = .ok (.getstatic 38, 3) := by decide +kernel
theorem dJ0_isLatin1_aae02_3 : decode cJ0_isLatin1_aae02 3 = .ok (.ifCond .eq 14, 3) := by decide +kernel
theorem dJ0_isLatin1_aae02_6 : decode cJ0_isLatin1_aae02 6 = .ok (.aload_n 0, 1) := by decide +kernel
theorem dJ0_isLatin1_aae02_7 : decode cJ0_isLatin1_aae02 7 = .ok (.getfield 15, 3) := by decide +kernel
theorem dJ0_isLatin1_aae02_10 : decode cJ0_isLatin1_aae02 10 = .ok (.ifCond .ne 7, 3) := by decide +kernel
theorem dJ0_isLatin1_aae02_13 : decode cJ0_isLatin1_aae02 13 = .ok (.iconst 1, 1) := by decide +kernel
theorem dJ0_isLatin1_aae02_14 : decode cJ0_isLatin1_aae02 14 = .ok (.goto 4, 3) := by decide +kernel
theorem dJ0_isLatin1_aae02_17 : decode cJ0_isLatin1_aae02 17 = .ok (.iconst 0, 1) := by decide +kernel
theorem dJ0_isLatin1_aae02_18 : decode cJ0_isLatin1_aae02 18 = .ok (.ireturn, 1) := by decide +kernel
theorem dJ0_checkIndex_df160_0 : decode cJ0_checkIndex_df160 0 = .ok (.iload_n 0, 1) := by decide +kernel
theorem dJ0_checkIndex_df160_1 : decode cJ0_checkIndex_df160 1 = .ok (.iload_n 1, 1) := by decide +kernel
theorem dJ0_checkIndex_df160_2 : decode cJ0_checkIndex_df160 2 = .ok (.getstatic 1053, 3) := by decide +kernel
theorem dJ0_checkIndex_df160_5 : decode cJ0_checkIndex_df160 5 = .ok (.invokestatic 1059, 3) := by decide +kernel
theorem dJ0_checkIndex_df160_8 : decode cJ0_checkIndex_df160 8 = .ok (.pop, 1) := by decide +kernel
theorem dJ0_checkIndex_df160_9 : decode cJ0_checkIndex_df160 9 = .ok (.return_, 1) := by decide +kernel
theorem dJ1_charAt_3b067_0 : decode cJ1_charAt_3b067 0 = .ok (.iload_n 1, 1) := by decide +kernel
theorem dJ1_charAt_3b067_1 : decode cJ1_charAt_3b067 1 = .ok (.aload_n 0, 1) := by decide +kernel
theorem dJ1_charAt_3b067_2 : decode cJ1_charAt_3b067 2 = .ok (.arraylength, 1) := by decide +kernel
theorem dJ1_charAt_3b067_3 : decode cJ1_charAt_3b067 3 = .ok (.invokestatic 9, 3) := by decide +kernel
theorem dJ1_charAt_3b067_6 : decode cJ1_charAt_3b067 6 = .ok (.aload_n 0, 1) := by decide +kernel
theorem dJ1_charAt_3b067_7 : decode cJ1_charAt_3b067 7 = .ok (.iload_n 1, 1) := by decide +kernel
theorem dJ1_charAt_3b067_8 : decode cJ1_charAt_3b067 8 = .ok (.baload, 1) := by decide +kernel
theorem dJ1_charAt_3b067_9 : decode cJ1_charAt_3b067 9 = .ok (.sipush 255, 3) := by decide +kernel
theorem dJ1_charAt_3b067_12 : decode cJ1_charAt_3b067 12 = .ok (.iand, 1) := by decide +kernel
theorem dJ1_charAt_3b067_13 : decode cJ1_charAt_3b067 13 = .ok (.i2c, 1) := by decide +kernel
theorem dJ1_charAt_3b067_14 : decode cJ1_charAt_3b067 14 = .ok (.ireturn, 1) := by decide +kernel
theorem dJ3_checkIndex_8e157_0 : decode cJ3_checkIndex_8e157 0 = .ok (.iload_n 0, 1) := by decide +kernel
theorem dJ3_checkIndex_8e157_1 : decode cJ3_checkIndex_8e157 1 = .ok (.ifCond .lt 8, 3) := by decide +kernel
theorem dJ3_checkIndex_8e157_4 : decode cJ3_checkIndex_8e157 4 = .ok (.iload_n 0, 1) := by decide +kernel
theorem dJ3_checkIndex_8e157_5 : decode cJ3_checkIndex_8e157 5 = .ok (.iload_n 1, 1) := by decide +kernel
theorem dJ3_checkIndex_8e157_6 : decode cJ3_checkIndex_8e157 6 = .ok (.if_icmp .lt 10, 3) := by decide +kernel
theorem dJ3_checkIndex_8e157_9 : decode cJ3_checkIndex_8e157 9 = .ok (.aload_n 2, 1) := by decide +kernel
theorem dJ3_checkIndex_8e157_10 : decode cJ3_checkIndex_8e157 10 = .ok (.iload_n 0, 1) := by decide +kernel
theorem dJ3_checkIndex_8e157_11 : decode cJ3_checkIndex_8e157 11 = .ok (.iload_n 1, 1) := by decide +kernel
theorem dJ3_checkIndex_8e157_12 : decode cJ3_checkIndex_8e157 12 = .ok (.invokestatic 95, 3) := by decide +kernel
theorem dJ3_checkIndex_8e157_15 : decode cJ3_checkIndex_8e157 15 = .ok (.athrow, 1) := by decide +kernel
theorem dJ3_checkIndex_8e157_16 : decode cJ3_checkIndex_8e157 16 = .ok (.iload_n 0, 1) := by decide +kernel
theorem dJ3_checkIndex_8e157_17 : decode cJ3_checkIndex_8e157 17 = .ok (.ireturn, 1) := by decide +kernel
/-- a String constant at a, its bytes bs at b -/
def js_I (base a b : Nat) (bs : List Int32) (U : State) (H : Heap) : Prop :=
  va_Zq "jdk/internal/util/Preconditions" "SIOOBE_FORMATTER" "Ljava/util/function/BiFunction;" (am_A base) U H ∧ va_Z "java/lang/String" "COMPACT_STRINGS" "Z" (.int 1) (am_A base) U H ∧ va_O "java/lang/String" a (am_A base) U H ∧ va_OF "java/lang/String" "coder" "B" (.int 0) a (am_A base) U H ∧ va_OF "java/lang/String" "value" "[B" (.ref b) a (am_A base) U H ∧ va_T .byte b bs.length (fun j => .int (bs.getD j 0)) (am_A base) U H
theorem js_I.moved {base a b : Nat} {bs : List Int32} {u U : State} {H : Heap} (hvm : u.vm.Alike U.vm) (h : js_I base a b bs u H) : js_I base a b bs U H := by
  obtain ⟨h1, h2, h3, h4, h5, h6⟩ := h
  exact ⟨va_Zq.moved hvm h1, va_Z.moved hvm h2, va_O.moved hvm h3, va_OF.moved hvm h4, va_OF.moved hvm h5, va_T.moved hvm h6⟩
theorem js_I.kept {base a b : Nat} {bs : List Int32} {U : State} {H H1 : Heap} (h : js_I base a b bs U H) (hq : ∀ a : Nat, a < H.size → ¬ am_A base a → H1[a]? = H[a]?) : js_I base a b bs U H1 := by
  obtain ⟨h1, h2, h3, h4, h5, h6⟩ := h
  exact ⟨va_Zq.kept h1 hq, va_Z.kept h2 hq, va_O.kept h3 hq, va_OF.kept h4 hq, va_OF.kept h5 hq, va_T.kept h6 hq⟩
def js_Pc (base a b : Nat) (bs : List Int32) (As : List Value) : Array Value → State → Prop := fun x U => x = As.toArray ∧ js_I base a b bs U U.heap
def js_Qc (v : Option Value) : Array Value → State → Outcome → State → Prop := fun _ st o t => o = .returned v ∧ t.heap = st.heap
def js_Met (l : Launch) (base a b : Nat) (bs : List Int32) (y : MethodName) (cc : ByteArray) (n : Nat) (rt : Option FieldType) (d : Nat) (As : List Value) (v : Option Value) : Prop :=
  Met l y (.code y cc n rt :: am_tb) (am_rm d 0 0) (js_Pc base a b bs As) (js_Qc v) 0 0 (am_A base)
theorem js_blind {base a b : Nat} {bs : List Int32} {As : List Value} : FrameBlind (js_Pc base a b bs As) := by
  intro x U g mk q
  exact ⟨q.1, js_I.moved (u := U) (U := U.calling g mk x) (Vm.Alike.refl U.vm) q.2⟩
theorem js_good {y : MethodName} {cc : ByteArray} {n : Nat} {rt : Option FieldType} (hc : Cond.code y cc n rt ∈ am_tb) : GoodIn am_tb (.code y cc n rt :: am_tb) := by
  intro w hw
  have hm : w ∈ am_tb := by
    rcases List.mem_cons.mp hw with rfl | h
    · exact hc
    · exact h
  exact ⟨hm, good_of_word (List.mem_filter.mp hm).2⟩
section JSB
variable {l : Launch} {base a b : Nat} {bs : List Int32}
theorem js_ofW {y : MethodName} {cc : ByteArray} {n : Nat} {rt : Option FieldType} {d : Nat} {As : List Value} {v : Option Value} (hpl : plainFor y = true) (hn : (lg_sl As).length ≤ n)
    (body : ∀ (p : Program) (e : Env) (s : State) (m : MethodId) (below : List Frame) (meth : Method) (c : Code) (ls : Array Slot), p.tables.exec = Jvm.exec → c.code = cc → meth.sig.returnType = rt → meth.locks = false → c.maxLocals = n → s.vm.findClass y.cls = some m.cls → (∀ w ∈ am_tb, w.before As.toArray s = true) → js_I base a b bs s s.heap → lv_has ls n (lv_args 0 As) →
      W p l e (am_rm d 0 0) s m As.toArray below meth c s.heap [] 0 0 (MQ below (js_Qc v) As.toArray s 0 0 (am_A base)) (F0 m 0 ls [])) : js_Met l base a b bs y cc n rt d As v := by
  refine am_ofW (cc := cc) (maxL := n) (ret := rt) hpl rfl ?_
  intro p e s m args below meth c s₁ B hml hv
  obtain ⟨rfl, hI⟩ := hv
  have hts0 := atoms_spec (ws := .code y cc n rt :: am_tb) B.pre
  rw [lg_entry_eq]
  exact body p e s m below meth c _ B.exec B.bytes B.returns B.notSynchronized hml (findClass_of_methodNamed B.named) (fun w hw => hts0 w (List.mem_cons_of_mem _ hw)) hI (lv_entry As hn)
variable {p : Program} {e : Env} {R : Room} {s : State} {m : MethodId} {args : Array Value} {below : List Frame} {meth : Method} {c : Code} {H : Heap} {locs : List Loc} {cells slots : Nat} {Q : State → Prop} {cc : ByteArray} {pc nL : Nat} {own : String} {ls : Array Slot} {st0 rest : List Value}
theorem js_back {v : Option Value} {x : Array Value} (hr : va_Run p l e R s m args below meth c H locs cells slots 0 0 (F0 m pc ls st0) rest (js_Qc v x) (am_A base)) (hS : va_S (am_A base) s.heap H locs)
    (kk : ∀ locs1 : List Loc, va_S (am_A base) s.heap H locs1 → W p l e R s m args below meth c H locs1 cells slots Q (F0 m (pc + 3) ls (v.toList ++ rest))) : W p l e R s m args below meth c H locs cells slots Q (F0 m pc ls st0) := by
  intro T hT X
  obtain ⟨v', st₀, t, T', L, h0, X', hL, e1, e2, ⟨hv, hh⟩, st⟩ := hr T hT X
  cases hv
  have hH : T'.heap = H := by rw [e1, hh, h0]
  obtain ⟨t2, a1, b1⟩ := kk (locs ++ L) ⟨hS.1, hS.2.1, fun q hq => (List.mem_append.mp hq).elim (hS.2.2 q) (hL q)⟩ T' hH X'
  exact ⟨t2, st t2 a1, b1⟩
theorem js_callS {idx n' d np : Nat} {y : MethodName} {cy : ByteArray} {rt : Option FieldType} {As : List Value} {v : Option Value} (hM : js_Met l base a b bs y cy n' rt d As v)
    (hx : p.tables.exec = Jvm.exec) (hb : c.code = cc) (hml : c.maxLocals = nL) (hown : s.vm.findClass own = some m.cls) (hts : ∀ w ∈ am_tb, w.before args s = true) (hI : js_I base a b bs s H) (hS : va_S (am_A base) s.heap H locs) (hnl : ls.size = nL)
    (hcd : Cond.code y cy n' rt ∈ am_tb) (hini : (Cond.initialized y.cls).before args s = true) (hlk : (Cond.methodLink own idx y).before args s = true) (hst : (Cond.static y).before args s = true)
    (hd : y.cls ≠ "java/lang/invoke/MethodHandle" ∧ y.cls ≠ "java/lang/invoke/VarHandle" ∧ (parseMethodDescriptor y.desc).map (fun d => d.parameters.length) = some np) (hn : As.length = np) (hfr : d + 1 ≤ R.frames) (hlo : 8 + (n' + 11) + 64 * d ≤ R.locals) (hrs : (rest.map fun v => v.category).sum ≤ 8) (hce : cells ≤ R.cells) (hsl : slots ≤ R.slots) (hdg : decode cc pc = .ok (.invokestatic idx, 3))
    (kk : ∀ locs1 : List Loc, va_S (am_A base) s.heap H locs1 → W p l e R s m args below meth c H locs1 cells slots Q (F0 m (pc + 3) ls (v.toList ++ rest))) : W p l e R s m args below meth c H locs cells slots Q (F0 m pc ls (As.reverse ++ rest)) := by
  have cw := callB_of (R := R) (args := args) (s := s) (own := own) (index := idx) (rm := am_rm d 0 0) (mc := 0) (ms := 0) np hts (js_good hcd) rfl rfl rfl hini hlk hd ⟨hfr, hlo⟩
  exact js_back (va_runS (As := As) (rest := rest) ⟨hx, hb, hml, hown, hts⟩ hM ⟨cw, hst⟩ ⟨js_blind, fun U hU hWm => ⟨rfl, by rw [hU]; exact hI.moved hWm.alike⟩⟩ rfl hn hnl rfl (lv_room hrs) hdg ⟨hce, hsl⟩) hS kk
theorem js_callV {idx n' d np : Nat} {y : MethodName} {cy : ByteArray} {rt : Option FieldType} {As : List Value} {v : Option Value} (hM : js_Met l base a b bs y cy n' rt d (.ref a :: As) v)
    (hx : p.tables.exec = Jvm.exec) (hb : c.code = cc) (hml : c.maxLocals = nL) (hown : s.vm.findClass own = some m.cls) (hts : ∀ w ∈ am_tb, w.before args s = true) (hI : js_I base a b bs s H) (hS : va_S (am_A base) s.heap H locs) (hnl : ls.size = nL)
    (hcd : Cond.code y cy n' rt ∈ am_tb) (hini : (Cond.initialized y.cls).before args s = true) (hlk : (Cond.methodLink own idx y).before args s = true) (him : (Cond.instanceMethod y).before args s = true) (hse : (Cond.selects "java/lang/String" y y).before args s = true)
    (hd : y.cls ≠ "java/lang/invoke/MethodHandle" ∧ y.cls ≠ "java/lang/invoke/VarHandle" ∧ (parseMethodDescriptor y.desc).map (fun d => d.parameters.length) = some np) (hn : As.length = np) (hfr : d + 1 ≤ R.frames) (hlo : 8 + (n' + 11) + 64 * d ≤ R.locals) (hrs : (rest.map fun v => v.category).sum ≤ 8) (hce : cells ≤ R.cells) (hsl : slots ≤ R.slots) (hdg : decode cc pc = .ok (.invokevirtual idx, 3))
    (kk : ∀ locs1 : List Loc, va_S (am_A base) s.heap H locs1 → W p l e R s m args below meth c H locs1 cells slots Q (F0 m (pc + 3) ls (v.toList ++ rest))) : W p l e R s m args below meth c H locs cells slots Q (F0 m pc ls (As.reverse ++ .ref a :: rest)) := by
  have cw := callB_of (R := R) (args := args) (s := s) (own := own) (index := idx) (rm := am_rm d 0 0) (mc := 0) (ms := 0) np hts (js_good hcd) rfl rfl rfl hini hlk hd ⟨hfr, hlo⟩
  obtain ⟨cell, o1, o2, o3, -⟩ := hI.2.2.1
  exact js_back (va_runV (C := "java/lang/String") (As := As) (rest := rest) ⟨hx, hb, hml, hown, hts⟩ hM ⟨cw, him, hse⟩ ⟨js_blind, ⟨cell, o1, o2, o3⟩, fun U hU hWm => ⟨rfl, by rw [hU]; exact hI.moved hWm.alike⟩⟩ rfl hn hnl rfl (lv_room hrs) hdg ⟨hce, hsl⟩) hS kk
end JSB
section JSM
variable {l : Launch} {base a b : Nat} {bs : List Int32}
theorem js_rf {base : Nat} {H : Heap} : va_S (am_A base) H H [] := va_S.rf
theorem js_checkIndex3 {i n : Int32} {x : Value} (hxc : x = .null ∨ ∃ t, x = .ref t) (h1 : ¬ i < 0) (h2 : i < n) : js_Met l base a b bs yJ3_checkIndex_8e157 cJ3_checkIndex_8e157 3 (some .int) 1 [.int i, .int n, x] (some (.int i)) := by
  have hlv : lv_args 0 [.int i, .int n, x] = [(0, .int i), (1, .int n), (2, x)] := by rcases hxc with rfl | ⟨t, rfl⟩ <;> rfl
  refine js_ofW (by decide) (by rcases hxc with rfl | ⟨t, rfl⟩ <;> exact Nat.le_of_ble_eq_true rfl) ?_
  intro p e s m below meth c ls hx hb hr hlocks hml hown hts hI hl
  rw [hlv] at hl
  refine lv_iload_n hx hb dJ3_checkIndex_8e157_0 rfl (lv_at hl 0 rfl) ?_
  refine lv_if_lt hx hb dJ3_checkIndex_8e157_1 (tgt := 9) rfl (fun z => absurd z h1) (fun _ => ?_)
  refine lv_iload_n hx hb dJ3_checkIndex_8e157_4 rfl (lv_at hl 0 rfl) ?_
  refine lv_iload_n hx hb dJ3_checkIndex_8e157_5 rfl (lv_at hl 1 rfl) ?_
  refine lv_icmp_lt hx hb dJ3_checkIndex_8e157_6 (tgt := 16) rfl (fun _ => ?_) (fun z => absurd h2 z)
  refine lv_iload_n hx hb dJ3_checkIndex_8e157_16 rfl (lv_at hl 0 rfl) ?_
  exact W.iret hx hb hr (fun t ht _ => ⟨rfl, ht⟩) (fun q hq => nomatch hq) dJ3_checkIndex_8e157_17
theorem js_checkIndex0 {i n : Int32} (h1 : ¬ i < 0) (h2 : i < n) : js_Met l base a b bs yJ0_checkIndex_df160 cJ0_checkIndex_df160 2 none 2 [.int i, .int n] none := by
  refine js_ofW (by decide) (Nat.le_of_ble_eq_true rfl) ?_
  intro p e s m below meth c ls hx hb hr hlocks hml hown hts hI hl
  have hl : lv_has ls 2 [(0, .int i), (1, .int n)] := hl
  have fin : ∀ x : Value, (x = .null ∨ ∃ t, x = .ref t) → va_Z "jdk/internal/util/Preconditions" "SIOOBE_FORMATTER" "Ljava/util/function/BiFunction;" x (am_A base) s s.heap → W p l e (am_rm 2 0 0) s m [Value.int i, .int n].toArray below meth c s.heap [] 0 0 (MQ below (js_Qc none) [Value.int i, .int n].toArray s 0 0 (am_A base)) (F0 m 0 ls []) := by
    intro x hxc hZ
    refine lv_iload_n hx hb dJ0_checkIndex_df160_0 rfl (lv_at hl 0 rfl) ?_
    refine lv_iload_n hx hb dJ0_checkIndex_df160_1 rfl (lv_at hl 1 rfl) ?_
    refine va_gets hx hb hZ va_S.rf hown (hts _ (am_wd_mem (hint := 531) (by decide +kernel))) (fun _ h9 => h9) dJ0_checkIndex_df160_2 ?_
    refine js_callS (As := [.int i, .int n, x]) (rest := []) (np := 3) (js_checkIndex3 hxc h1 h2) hx hb hml hown hts hI va_S.rf hl.1 (am_wd_mem (hint := 535) (by decide +kernel)) (hts _ (am_wd_mem (hint := 104) (by decide +kernel))) (hts _ (am_wd_mem (hint := 533) (by decide +kernel))) (hts _ (am_wd_mem (hint := 534) (by decide +kernel))) ⟨by decide, by decide, by decide +kernel⟩ rfl (by decide) (by decide) (by decide) (Nat.le_refl _) (Nat.le_refl _) dJ0_checkIndex_df160_5 ?_
    intro locs1 hS1
    refine lv_pop hx hb dJ0_checkIndex_df160_8 rfl ?_
    exact W.vret hx hb hr (fun t ht _ => ⟨rfl, ht⟩) hS1.2.2 dJ0_checkIndex_df160_9
  rcases hI.1 with h | ⟨t, h⟩
  · exact fin _ (Or.inl rfl) h
  · exact fin _ (Or.inr ⟨t, rfl⟩) h
theorem js_charAt1 {i : Int32} (hin : vp_in i bs.length) (hlt : i < Int32.ofNat bs.length) {v : Int32} (hv : (((bs.getD i.toNatClampNeg 0) &&& 255).toUInt32 % 65536).toInt32 = v) (hn : narrow .char (.int v) = .int v) : js_Met l base a b bs yJ1_charAt_3b067 cJ1_charAt_3b067 2 (some .char) 3 [.ref b, .int i] (some (.int v)) := by
  refine js_ofW (by decide) (Nat.le_of_ble_eq_true rfl) ?_
  intro p e s m below meth c ls hx hb hr hlocks hml hown hts hI hl
  have hl : lv_has ls 2 [(0, .ref b), (1, .int i)] := hl
  have h0 : ¬ i < 0 := fun z => hin (Or.inl z)
  refine lv_iload_n hx hb dJ1_charAt_3b067_0 rfl (lv_at hl 1 rfl) ?_
  refine lv_aload_n hx hb dJ1_charAt_3b067_1 rfl (lv_at hl 0 rfl) ?_
  refine va_tlen hx hb hI.2.2.2.2.2 va_S.rf rfl dJ1_charAt_3b067_2 ?_
  refine js_callS (As := [.int i, .int (Int32.ofNat bs.length)]) (rest := []) (np := 2) (js_checkIndex0 h0 hlt) hx hb hml hown hts hI va_S.rf hl.1 (am_wd_mem (hint := 530) (by decide +kernel)) (hts _ (am_wd_mem (hint := 102) (by decide +kernel))) (hts _ (am_wd_mem (hint := 528) (by decide +kernel))) (hts _ (am_wd_mem (hint := 529) (by decide +kernel))) ⟨by decide, by decide, by decide +kernel⟩ rfl (by decide) (by decide) (by decide) (Nat.le_refl _) (Nat.le_refl _) dJ1_charAt_3b067_3 ?_
  intro locs1 hS1
  refine lv_aload_n hx hb dJ1_charAt_3b067_6 rfl (lv_at hl 0 rfl) ?_
  refine lv_iload_n hx hb dJ1_charAt_3b067_7 rfl (lv_at hl 1 rfl) ?_
  refine va_tb hx hb hI.2.2.2.2.2 hS1 hin rfl dJ1_charAt_3b067_8 ?_
  refine lv_sipush hx hb dJ1_charAt_3b067_9 (v := 255) (by decide) ?_
  refine lv_iand hx hb dJ1_charAt_3b067_12 ?_
  refine lv_i2c hx hb dJ1_charAt_3b067_13 hv ?_
  exact W.zret hx hb hr hn (fun t ht _ => ⟨rfl, ht⟩) hS1.2.2 dJ1_charAt_3b067_14
theorem js_coder : js_Met l base a b bs yJ0_coder_7d493 cJ0_coder_7d493 1 (some .byte) 1 [.ref a] (some (.int 0)) := by
  refine js_ofW (by decide) (Nat.le_of_ble_eq_true rfl) ?_
  intro p e s m below meth c ls hx hb hr hlocks hml hown hts hI hl
  have hl : lv_has ls 1 [(0, .ref a)] := hl
  refine va_gets hx hb hI.2.1 va_S.rf hown (hts _ (am_wd_mem (hint := 515) (by decide +kernel))) (fun _ h9 => h9) dJ0_coder_7d493_0 ?_
  refine lv_if_eq hx hb dJ0_coder_7d493_3 (tgt := 13) rfl (fun z => absurd z (by decide)) (fun _ => ?_)
  refine lv_aload_n hx hb dJ0_coder_7d493_6 rfl (lv_at hl 0 rfl) ?_
  refine vk_getf hx hb hI.2.2.2.1 va_S.rf hown (hts _ (am_wd_mem (hint := 1712) (by decide +kernel))) (fun _ h9 => h9) dJ0_coder_7d493_7 ?_
  refine lv_goto hx hb dJ0_coder_7d493_10 (tgt := 14) rfl ?_
  exact W.zret hx hb hr rfl (fun t ht _ => ⟨rfl, ht⟩) (fun q hq => nomatch hq) dJ0_coder_7d493_14
theorem js_isLatin1 : js_Met l base a b bs yJ0_isLatin1_aae02 cJ0_isLatin1_aae02 1 (some .boolean) 1 [.ref a] (some (.int 1)) := by
  refine js_ofW (by decide) (Nat.le_of_ble_eq_true rfl) ?_
  intro p e s m below meth c ls hx hb hr hlocks hml hown hts hI hl
  have hl : lv_has ls 1 [(0, .ref a)] := hl
  refine va_gets hx hb hI.2.1 va_S.rf hown (hts _ (am_wd_mem (hint := 515) (by decide +kernel))) (fun _ h9 => h9) dJ0_isLatin1_aae02_0 ?_
  refine lv_if_eq hx hb dJ0_isLatin1_aae02_3 (tgt := 17) rfl (fun z => absurd z (by decide)) (fun _ => ?_)
  refine lv_aload_n hx hb dJ0_isLatin1_aae02_6 rfl (lv_at hl 0 rfl) ?_
  refine vk_getf hx hb hI.2.2.2.1 va_S.rf hown (hts _ (am_wd_mem (hint := 1712) (by decide +kernel))) (fun _ h9 => h9) dJ0_isLatin1_aae02_7 ?_
  refine lv_if_ne hx hb dJ0_isLatin1_aae02_10 (tgt := 17) rfl (fun z => absurd rfl z) (fun _ => ?_)
  refine lv_iconst hx hb dJ0_isLatin1_aae02_13 (v := 1) (by decide) ?_
  refine lv_goto hx hb dJ0_isLatin1_aae02_14 (tgt := 18) rfl ?_
  exact W.zret hx hb hr rfl (fun t ht _ => ⟨rfl, ht⟩) (fun q hq => nomatch hq) dJ0_isLatin1_aae02_18
theorem js_length (hs : Int32.ofNat bs.length >>> ((0 : Int32) &&& 31) = Int32.ofNat bs.length) : js_Met l base a b bs yJ0_length_8abf5 cJ0_length_8abf5 1 (some .int) 2 [.ref a] (some (.int (Int32.ofNat bs.length))) := by
  refine js_ofW (by decide) (Nat.le_of_ble_eq_true rfl) ?_
  intro p e s m below meth c ls hx hb hr hlocks hml hown hts hI hl
  have hl : lv_has ls 1 [(0, .ref a)] := hl
  refine lv_aload_n hx hb dJ0_length_8abf5_0 rfl (lv_at hl 0 rfl) ?_
  refine vk_getf hx hb hI.2.2.2.2.1 va_S.rf hown (hts _ (am_wd_mem (hint := 1711) (by decide +kernel))) (fun _ h9 => h9) dJ0_length_8abf5_1 ?_
  refine va_tlen hx hb hI.2.2.2.2.2 va_S.rf rfl dJ0_length_8abf5_4 ?_
  refine lv_aload_n hx hb dJ0_length_8abf5_5 rfl (lv_at hl 0 rfl) ?_
  refine js_callV (As := []) (rest := [.int (Int32.ofNat bs.length)]) (np := 0) js_coder hx hb hml hown hts hI va_S.rf hl.1 (am_wd_mem (hint := 514) (by decide +kernel)) (hts _ (am_wd_mem (hint := 102) (by decide +kernel))) (hts _ (am_wd_mem (hint := 511) (by decide +kernel))) (hts _ (am_wd_mem (hint := 512) (by decide +kernel))) (hts _ (am_wd_mem (hint := 513) (by decide +kernel))) ⟨by decide, by decide, by decide +kernel⟩ rfl (by decide) (by decide) (Nat.le_of_ble_eq_true rfl) (Nat.le_refl _) (Nat.le_refl _) dJ0_length_8abf5_6 ?_
  intro locs1 hS1
  refine lv_ishr hx hb dJ0_length_8abf5_9 ?_
  rw [hs]
  exact W.iret hx hb hr (fun t ht _ => ⟨rfl, ht⟩) hS1.2.2 dJ0_length_8abf5_10
theorem js_charAt {i : Int32} (hin : vp_in i bs.length) (hlt : i < Int32.ofNat bs.length) {v : Int32} (hv : (((bs.getD i.toNatClampNeg 0) &&& 255).toUInt32 % 65536).toInt32 = v) (hn : narrow .char (.int v) = .int v) : js_Met l base a b bs yJ0_charAt_5068e cJ0_charAt_5068e 2 (some .char) 4 [.ref a, .int i] (some (.int v)) := by
  refine js_ofW (by decide) (Nat.le_of_ble_eq_true rfl) ?_
  intro p e s m below meth c ls hx hb hr hlocks hml hown hts hI hl
  have hl : lv_has ls 2 [(0, .ref a), (1, .int i)] := hl
  refine lv_aload_n hx hb dJ0_charAt_5068e_0 rfl (lv_at hl 0 rfl) ?_
  refine js_callV (As := []) (rest := []) (np := 0) js_isLatin1 hx hb hml hown hts hI va_S.rf hl.1 (am_wd_mem (hint := 524) (by decide +kernel)) (hts _ (am_wd_mem (hint := 102) (by decide +kernel))) (hts _ (am_wd_mem (hint := 521) (by decide +kernel))) (hts _ (am_wd_mem (hint := 522) (by decide +kernel))) (hts _ (am_wd_mem (hint := 523) (by decide +kernel))) ⟨by decide, by decide, by decide +kernel⟩ rfl (by decide) (by decide) (by decide) (Nat.le_refl _) (Nat.le_refl _) dJ0_charAt_5068e_1 ?_
  intro locs1 hS1
  refine lv_if_eq hx hb dJ0_charAt_5068e_4 (tgt := 16) rfl (fun z => absurd z (by decide)) (fun _ => ?_)
  refine lv_aload_n hx hb dJ0_charAt_5068e_7 rfl (lv_at hl 0 rfl) ?_
  refine vk_getf hx hb hI.2.2.2.2.1 hS1 hown (hts _ (am_wd_mem (hint := 1711) (by decide +kernel))) (fun _ h9 => h9) dJ0_charAt_5068e_8 ?_
  refine lv_iload_n hx hb dJ0_charAt_5068e_11 rfl (lv_at hl 1 rfl) ?_
  refine js_callS (As := [.ref b, .int i]) (rest := []) (np := 2) (js_charAt1 hin hlt hv hn) hx hb hml hown hts hI hS1 hl.1 (am_wd_mem (hint := 527) (by decide +kernel)) (hts _ (am_wd_mem (hint := 103) (by decide +kernel))) (hts _ (am_wd_mem (hint := 525) (by decide +kernel))) (hts _ (am_wd_mem (hint := 526) (by decide +kernel))) ⟨by decide, by decide, by decide +kernel⟩ rfl (by decide) (by decide) (by decide) (Nat.le_refl _) (Nat.le_refl _) dJ0_charAt_5068e_12 ?_
  intro locs2 hS2
  exact W.zret hx hb hr hn (fun t ht _ => ⟨rfl, ht⟩) hS2.2.2 dJ0_charAt_5068e_15
end JSM
