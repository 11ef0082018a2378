/-! ## soundness: the heap -/
def am_slE (e : va_E) : Nat := match e with
  | .inl (_, n, _) => n
  | .inr (ci, _) => if ci = 10 then 6 else match am_cl[ci]? with
    | some q => q.2.2
    | none => 0
def am_sl (h : am_H) : Nat := (h.map am_slE).sum
theorem am_sl_push (h : am_H) (e : va_E) : am_sl (h ++ [e]) = am_sl h + am_slE e := by simp [am_sl]
/-- what goes beside the words: nest mates' links, arrays of objects, String constants, the script -/
def am_Str (ad : Nat → Nat) (base : Nat) (U : State) (H : Heap) : Prop :=
  va_Z "java/lang/String" "COMPACT_STRINGS" "Z" (.int 1) (am_A base) U H ∧
  ∃ adV : Nat → Nat, ∀ i : Nat, i < 25 → va_O "java/lang/String" (ad (am_SB + i)) (am_A base) U H ∧ va_OF "java/lang/String" "coder" "B" (.int 0) (ad (am_SB + i)) (am_A base) U H ∧ va_OF "java/lang/String" "value" "[B" (.ref (adV i)) (ad (am_SB + i)) (am_A base) U H ∧ va_T .byte (adV i) (am_byt.getD i []).length (fun j => .int ((am_byt.getD i []).getD j 0)) (am_A base) U H
def ax_bad : List Cond := [.castable RX99 RX99, .declares ⟨"java/lang/RuntimeException", "<init>", "(Ljava/lang/String;)V"⟩, .declares ⟨"java/lang/Exception", "<init>", "(Ljava/lang/String;)V"⟩, .declares ⟨"java/lang/Throwable", "<init>", "(Ljava/lang/String;)V"⟩]
/-- what a throw needs: statics of the JDK, the texts of the two messages -/
def am_Thr (base : Nat) (U : State) (H : Heap) : Prop :=
  va_Zq "jdk/internal/util/Preconditions" "SIOOBE_FORMATTER" "Ljava/util/function/BiFunction;" (am_A base) U H ∧ vx_Zq Bundle.tN "UNASSIGNED_STACK" Bundle.steD (am_A base) U H ∧ vx_Zq Bundle.tN "SUPPRESSED_SENTINEL" Bundle.listD (am_A base) U H ∧ (∀ w ∈ ax_bad, va_Nw w U) ∧ (∃ sa : Nat, vk_R "DateVale" 296 "no such chair" sa U) ∧ ∃ sa : Nat, vk_R "DateVale" 305 "no such rest" sa U
def am_Ex (ad : Nat → Nat) (base : Nat) (sc : Nat × (Nat → Int32)) (U : State) (H : Heap) : Prop :=
  (∀ w ∈ lw_tbl, am_isN w = true → va_Nw w U) ∧ (va_AO "DateVale$Stand" U ∧ va_AO "DateVale$Mark" U) ∧ (∀ q ∈ am_S, vk_R q.1 q.2.1 (am_txt q.2.2) (ad (am_SB + q.2.2)) U) ∧ (am_Str ad base U H ∧ am_Thr base U H) ∧ va_X (ad am_SC) sc.1 sc.2 U H ∧ ad am_SC < base ∧ base ≤ H.size
theorem am_cls : ∀ (ci : Nat) (q : vw_C), am_cl[ci]? = some q → ci < 10 → (∀ k, k < q.2.2 → parseFieldDescriptor (q.2.1 k).2.2.1 = some (am_fty ci k)) ∧ (∀ a, a < q.2.2 → ∀ b, b < q.2.2 → a ≠ b → (q.2.1 a).2.1 ≠ (q.2.1 b).2.1) := by
  intro ci q hq hc
  match ci, hq, hc with
  | 0, hq, _ => cases hq; exact ⟨tyX0_ok, nmX0⟩
  | 1, hq, _ => cases hq; exact ⟨tyX1_ok, nmX1⟩
  | 2, hq, _ => cases hq; exact ⟨tyX2_ok, nmX2⟩
  | 3, hq, _ => cases hq; exact ⟨tyX3_ok, nmX3⟩
  | 4, hq, _ => cases hq; exact ⟨tyX5_ok, nmX5⟩
  | 5, hq, _ => cases hq; exact ⟨tyX6_ok, nmX6⟩
  | 6, hq, _ => cases hq; exact ⟨tyX7_ok, nmX7⟩
  | 7, hq, _ => cases hq; exact ⟨tyX8_ok, nmX8⟩
  | 8, hq, _ => cases hq; exact ⟨tyX9_ok, nmX9⟩
  | 9, hq, _ => cases hq; exact ⟨tyX10_ok, nmX10⟩
  | k + 10, _, hc => omega
def am_clw (q : vw_C) : List Cond := .instantiable q.1 q.2.2 :: .initialized q.1 :: u_ws q.1 q.2.1 q.2.2
theorem am_cls_all : ((am_cl.take 10).all (fun q => (am_clw q).all (fun w => goodWord w && decide (w ∈ lw_tbl)))) = true := by decide +kernel
theorem am_cls_w (ci : Nat) (q : vw_C) (hq : am_cl[ci]? = some q) (hc : ci < 10) : ∀ w ∈ am_clw q, w ∈ am_tb := by
  intro w hw
  have h1 : (am_cl.take 10)[ci]? = some q := by rw [List.getElem?_take]; rw [if_pos hc]; exact hq
  have h2 := List.all_eq_true.mp am_cls_all q (List.mem_of_getElem? h1)
  have h3 := List.all_eq_true.mp h2 w hw
  rw [Bool.and_eq_true, decide_eq_true_eq] at h3
  exact List.mem_filter.mpr ⟨h3.2, h3.1⟩
theorem am_cl_lt {ci : Nat} {q : vw_C} (hq : am_cl[ci]? = some q) (hn : 0 < q.2.2) : ci < 10 := by
  match ci, hq with
  | 0, _ => omega
  | 1, _ => omega
  | 2, _ => omega
  | 3, _ => omega
  | 4, _ => omega
  | 5, _ => omega
  | 6, _ => omega
  | 7, _ => omega
  | 8, _ => omega
  | 9, _ => omega
  | 10, hq => cases hq; exact absurd hn (by decide)
  | k + 11, hq => simp [am_cl] at hq
theorem am_fit_ok {ty : FieldType} {v : Value} (h : am_fit ty v = true) (ad : Nat → Nat) : narrow ty (am_cv ad v) = am_cv ad v ∧ fits ty (am_cv ad v) = true := by
  cases ty <;> cases v <;> first | (simp [am_fit] at h; done) | exact ⟨rfl, rfl⟩ | skip
  rename_i x
  simp only [am_fit, Bool.or_eq_true, beq_iff_eq] at h
  rcases h with rfl | rfl
  · exact ⟨rfl, rfl⟩
  · exact ⟨rfl, rfl⟩
theorem am_tys_at (dA : Nat → ClassId) (t : Nat) (ht : t < 6) : (am_tys dA)[t]? = some (dA t, am_ty t) := by
  match t, ht with
  | 0, _ => rfl
  | 1, _ => rfl
  | 2, _ => rfl
  | 3, _ => rfl
  | 4, _ => rfl
  | 5, _ => rfl
  | k + 6, h => omega
theorem am_put1 {D : va_G} {ad : Nat → Nat} {dA : Nat → ClassId} {base : Nat} {h : am_H} {H H1 : Heap} {a : Nat} {e0 e : va_E} (ha : am_Ad ad base) (hl : h.length ≤ am_SB) (hP : va_P D am_cl (am_ws ad dA h) H) (he : h[a]? = some e0) (hat : va_at D am_cl (ad a, am_cE ad dA e) H1) (oq : ∀ q : Nat, q ≠ ad a → H1[q]? = H[q]?) : va_P D am_cl (am_ws ad dA (h.set a e)) H1 := by
  rw [← am_ws_set]
  exact hP.set (am_D ha hl) (am_ws_at he) hat oq
theorem am_adA {ad : Nat → Nat} {base : Nat} {h : am_H} {a : Nat} {e0 : va_E} (ha : am_Ad ad base) (hl : h.length ≤ am_SB) (he : h[a]? = some e0) : am_A base (ad a) := by
  have := (List.getElem?_eq_some_iff.mp he).1
  show base ≤ ad a
  rw [ha a (by omega)]
  omega
theorem am_updcell (cA : ClassId) (n j : Nat) (f : Nat → Int32) (x : Int32) : (vp_cell cA (n, .inl f)).setSlot j (.int x) = vp_cell cA (n, .inl (upd f j x)) := by
  rw [vp_cell_i, vp_cell_i, arrV_store]
  congr 1
  funext q
  by_cases hq : q = j
  · subst hq; simp [updV, upd]
  · simp [updV, upd, hq]
theorem am_updcellL (cA : ClassId) (n j : Nat) (f : Nat → Int64) (x : Int64) : (vp_cell cA (n, .inr (.inl f))).setSlot j (.long x) = vp_cell cA (n, .inr (.inl (vp_updL f j x))) := by
  rw [vp_cell_l, vp_cell_l, arrV_store]
  congr 1
  funext q
  by_cases hq : q = j
  · subst hq; simp [updV, vp_updL]
  · simp [updV, vp_updL, hq]
theorem am_updcellR (cA : ClassId) (n j : Nat) (f : Nat → Option Nat) (x : Nat) : (vp_cell cA (n, .inr (.inr (.inr (.inr f))))).setSlot j (.ref x) = vp_cell cA (n, .inr (.inr (.inr (.inr (va_up f j (some x)))))) := by
  rw [vp_cell_q, vp_cell_q, arrV_store]
  congr 1
  funext q
  by_cases hq : q = j
  · subst hq; simp [updV, va_up, va_rf]
  · simp [updV, va_up, hq]
theorem am_nar_b (x : Int32) : narrow .byte (.int x) = .int (vp_nar .byte x) := rfl
theorem am_nar_z (x : Int32) : narrow .boolean (.int x) = .int (vp_nar .boolean x) := rfl
/-- the context of a walk -/
def am_Ctx (p : Program) (s : State) (m : MethodId) (args : Array Value) (meth : Method) (c : Code) (cc : ByteArray) (nL : Nat) (own : String) (ini : Bool) (R : Room) (D : va_G) (dA : Nat → ClassId) (ad : Nat → Nat) (base : Nat) (sc : Nat × (Nat → Int32)) : Prop :=
  p.tables.exec = Jvm.exec ∧ c.code = cc ∧ c.maxLocals = nL ∧ s.vm.findClass own = some m.cls ∧ (∀ w ∈ am_tb, w.before args s = true) ∧ va_K D am_cl (am_tys dA) s ∧ am_Ad ad base ∧ am_Ex ad base sc s s.heap ∧ (ini = true → meth.name = "<init>") ∧ 1 ≤ R.frames ∧ 64 ≤ R.locals
/-- the world: the cells, and how many there are -/
def am_Wd (D : va_G) (dA : Nat → ClassId) (ad : Nat → Nat) (base : Nat) (h : am_H) (H : Heap) : Prop := va_P D am_cl (am_ws ad dA h) H ∧ H.size = base + h.length ∧ h.length ≤ am_SB
theorem am_gF_ok {h : am_H} {a ci k : Nat} {v : Value} (e : am_gF h a ci k = some v) : ∃ fs, h[a]? = some (.inr (ci, fs)) ∧ fs[k]? = some v := by
  unfold am_gF at e
  split at e
  · split at e
    · rename_i h1 h2
      subst h2
      exact ⟨_, h1, e⟩
    · cases e
  · cases e
theorem am_pF_ok {h h' : am_H} {a ci k : Nat} {v : Value} (e : am_pF h a ci k v = some h') : ∃ fs, h[a]? = some (.inr (ci, fs)) ∧ k < fs.length ∧ am_fit (am_fty ci k) v = true ∧ h' = h.set a (.inr (ci, fs.set k v)) := by
  unfold am_pF at e
  split at e
  · split at e
    · rename_i h1 h2
      obtain ⟨rfl, h3, h4⟩ := h2
      cases e
      exact ⟨_, h1, h3, h4, rfl⟩
    · cases e
  · cases e
theorem am_aI_ok {h : am_H} {t a : Nat} {i x : Int32} (e : am_aI h t a i = some x) : ∃ n f, h[a]? = some (.inl (t, n, .inl f)) ∧ vp_in i n ∧ x = f i.toNatClampNeg := by
  unfold am_aI at e
  split at e
  · split at e
    · rename_i h1 h2
      obtain ⟨rfl, h3⟩ := h2
      cases e
      exact ⟨_, _, h1, h3, rfl⟩
    · cases e
  · cases e
theorem am_aL_ok {h : am_H} {a : Nat} {i : Int32} {x : Int64} (e : am_aL h a i = some x) : ∃ n f, h[a]? = some (.inl (1, n, .inr (.inl f))) ∧ vp_in i n ∧ x = f i.toNatClampNeg := by
  unfold am_aL at e
  split at e
  · split at e
    · rename_i h1 h2
      obtain ⟨rfl, h3⟩ := h2
      cases e
      exact ⟨_, _, h1, h3, rfl⟩
    · cases e
  · cases e
theorem am_aR_ok {h : am_H} {a : Nat} {i : Int32} {x : Nat} (e : am_aR h a i = some x) : ∃ t n f, (t = 4 ∨ t = 5) ∧ h[a]? = some (.inl (t, n, .inr (.inr (.inr (.inr f))))) ∧ vp_in i n ∧ f i.toNatClampNeg = some x := by
  unfold am_aR at e
  split at e
  · split at e
    · rename_i h1 h2
      exact ⟨_, _, _, h2.1, h1, h2.2, e⟩
    · cases e
  · cases e
theorem am_sI_ok {h h' : am_H} {t a : Nat} {i x : Int32} (e : am_sI h t a i x = some h') : ∃ n f, h[a]? = some (.inl (t, n, .inl f)) ∧ vp_in i n ∧ h' = h.set a (.inl (t, n, .inl (upd f i.toNatClampNeg (am_nar t x)))) := by
  unfold am_sI at e
  split at e
  · split at e
    · rename_i h1 h2
      obtain ⟨rfl, h3⟩ := h2
      cases e
      exact ⟨_, _, h1, h3, rfl⟩
    · cases e
  · cases e
theorem am_sL_ok {h h' : am_H} {a : Nat} {i : Int32} {x : Int64} (e : am_sL h a i x = some h') : ∃ n f, h[a]? = some (.inl (1, n, .inr (.inl f))) ∧ vp_in i n ∧ h' = h.set a (.inl (1, n, .inr (.inl (vp_updL f i.toNatClampNeg x)))) := by
  unfold am_sL at e
  split at e
  · split at e
    · rename_i h1 h2
      obtain ⟨rfl, h3⟩ := h2
      cases e
      exact ⟨_, _, h1, h3, rfl⟩
    · cases e
  · cases e
theorem am_sR_ok {h h' : am_H} {a v : Nat} {i : Int32} (e : am_sR h a i v = some h') : ∃ t ci n f vs, h[a]? = some (.inl (t, n, .inr (.inr (.inr (.inr f))))) ∧ h[v]? = some (.inr (ci, vs)) ∧ am_okR t ci = true ∧ vp_in i n ∧ h' = h.set a (.inl (t, n, .inr (.inr (.inr (.inr (va_up f i.toNatClampNeg (some v))))))) := by
  unfold am_sR at e
  split at e
  · split at e
    · rename_i h1 h2 h3
      cases e
      exact ⟨_, _, _, _, _, h1, h2, h3.1, h3.2, rfl⟩
    · cases e
  · cases e
theorem am_len_ok {h : am_H} {a : Nat} {x : Int32} (e : am_len h a = some x) : ∃ t n b, t < 6 ∧ h[a]? = some (.inl (t, n, b)) ∧ x = Int32.ofNat n := by
  unfold am_len at e
  split at e
  · split at e
    · rename_i h1 h2
      cases e
      exact ⟨_, _, _, h2, h1, rfl⟩
    · cases e
  · cases e
theorem am_cp_ok {h h' : am_H} {a0 a1 : Nat} {sp dp n : Int32} (e : am_cp h a0 sp a1 dp n = some h') : ∃ n0 n1 f g, h[a0]? = some (.inl (0, n0, .inl f)) ∧ h[a1]? = some (.inl (0, n1, .inl g)) ∧ ¬ sp < 0 ∧ ¬ dp < 0 ∧ ¬ n < 0 ∧ sp.toNatClampNeg + n.toNatClampNeg ≤ n0 ∧ dp.toNatClampNeg + n.toNatClampNeg ≤ n1 ∧ h' = h.set a1 (.inl (0, n1, .inl (va_cpy f g sp.toNatClampNeg dp.toNatClampNeg n.toNatClampNeg))) := by
  unfold am_cp at e
  split at e
  · split at e
    · rename_i h1 h2 h3
      obtain ⟨rfl, rfl, h4, h5, h6, h7, h8⟩ := h3
      cases e
      exact ⟨_, _, _, _, h1, h2, h4, h5, h6, h7, h8, rfl⟩
    · cases e
  · cases e
section AMH
variable {p : Program} {l : Launch} {e : Env} {R : Room} {s : State} {m : MethodId} {args : Array Value} {below : List Frame} {meth : Method} {c : Code} {H : Heap} {locs : List Loc} {cells slots : Nat} {Q : State → Prop}
variable {cc : ByteArray} {pc nL : Nat} {own : String} {ini : Bool} {D : va_G} {dA : Nat → ClassId} {ad : Nat → Nat} {base : Nat} {sc : Nat × (Nat → Int32)} {lsA : Array Slot} {st : List Value} {h : am_H}
/-- putfield -/
theorem am_put {idx ci k hint a : Nat} {v : Value} {fs : List Value} {rest : List Value} (X : am_Ctx p s m args meth c cc nL own ini R D dA ad base sc) (hW : am_Wd D dA ad base h H) (hS : va_S (am_A base) s.heap H locs)
    (hck : am_ckF own ini true idx ci k hint = true) (hdg : decode cc pc = .ok (.putfield idx, 3)) (he : h[a]? = some (.inr (ci, fs))) (hk : k < fs.length) (hfit : am_fit (am_fty ci k) v = true)
    (kk : ∀ (H1 : Heap) (locs1 : List Loc), am_Wd D dA ad base (h.set a (.inr (ci, fs.set k v))) H1 → va_S (am_A base) s.heap H1 locs1 → W p l e R s m args below meth c H1 locs1 cells slots Q (F0 m (pc + 3) lsA rest)) :
    W p l e R s m args below meth c H locs cells slots Q (F0 m pc lsA (am_cv ad v :: .ref (ad a) :: rest)) := by
  obtain ⟨hx, hb, -, hown, hts, hK, ha, hEx, hini, -, -⟩ := X
  obtain ⟨hP, hsz, hl⟩ := hW
  unfold am_ckF at hck
  split at hck
  · rename_i C T N hc
    rw [Bool.and_eq_true, decide_eq_true_eq] at hck
    obtain ⟨hkN, hck⟩ := hck
    have hci : ci < 10 := am_cl_lt hc (by show 0 < N; omega)
    obtain ⟨hty, hnm⟩ := am_cls ci _ hc hci
    have hin : ∀ w ∈ u_ws C T N, w ∈ am_tb := fun w hw => am_cls_w ci _ hc hci w (List.mem_cons_of_mem _ (List.mem_cons_of_mem _ hw))
    have hap := va_apart (own := own) hts hin (am_fty ci) hty hnm hK hc
    have hws := am_ws_at (ad := ad) (dA := dA) he
    obtain ⟨r, h1, cell, q1, q2, q3, q4⟩ := hP a _ hws
    have hr : r = (C, T, N) := Option.some.inj (h1.symm.trans hc)
    subst hr
    obtain ⟨hSl, hfc, kC, hkC, hkind⟩ := hK.1 ci _ hc
    obtain ⟨cf, kf, fi, f, hi, hsl⟩ := hSl k hkN
    have hst := (u_facts hfc hkC (u_lays hts hin hkN) hi).1
    have hlay := hts _ (hin _ (u_in_lay hkN))
    obtain ⟨hn1, hn2⟩ := am_fit_ok hfit ad
    have fin : ∀ H1 : Heap, H1[ad a]? = some (cell.setSlot f.slot (am_cv ad v)) → H1.size = H.size → (∀ q, q ≠ ad a → H1[q]? = H[q]?) → W p l e R s m args below meth c H1 (locs ++ [⟨ad a, f.slot⟩]) cells slots Q (F0 m (pc + 3) lsA rest) := by
      intro H1 e1 e2 e3
      refine kk H1 _ ⟨am_put1 ha hl hP he ?_ e3, by rw [e2, hsz]; simp, by simpa using hl⟩ (hS.put e2 e3 (am_adA ha hl he))
      rw [hsl] at e1
      refine ⟨_, hc, t_OB.to (V := updV (vp_V (fs.map (am_cv ad))) k (am_cv ad v)) ⟨_, e1, q2, q3, t_set q4 hap hkN (am_cv ad v)⟩ (fun j _ => ?_)⟩
      rw [vp_updV_set (by simpa using hk), List.map_set]
    rw [Bool.or_eq_true, Bool.and_eq_true, Bool.and_eq_true] at hck
    rcases hck with ⟨hw, hq⟩ | ⟨hw, hq⟩
    · have hlink := hts _ (am_wd_mem hw)
      by_cases hfin : (T k).2.2.2 = true
      · simp only [hfin, Bool.not_true, Bool.false_or, Bool.and_eq_true, decide_eq_true_eq] at hq
        unfold u_lay at hlay
        rw [if_pos hfin] at hlay
        have hcf : m.cls = cf := by
          obtain ⟨_, _, c', _, _, _, -, -, hf', -, -, -, hown2, -⟩ := Cond.laysFinal_spec hlay
          have e1 : c' = cf := by have := hi.symm.trans hf'; simp at this; exact this.1.symm
          rw [hq.2] at hown2
          rw [← e1]; exact Option.some.inj (hown.symm.trans hown2)
        have h6 := u_fits hfc hkC hkind (Or.inr hlay) hi (hty k hkN) hn1 hn2
        exact W.putFinK hx hb hown hlink hi hst hcf (hini hq.1) (by rw [q2]; exact h6) q1 q3 (by rw [hsl]; exact k2_hasslot (q4 k hkN)) rfl rfl hdg fin
      · unfold u_lay at hlay
        rw [if_neg hfin] at hlay
        have h6 := u_store hfc hkC hkind hlay hi (hty k hkN) hn1 hn2
        exact W.putK hx hb (f := f) ⟨hown, hlink, ⟨_, _, _, hi⟩, hst⟩ (by rw [q2]; exact h6) q1 q3 (by rw [hsl]; exact k2_hasslot (q4 k hkN)) rfl rfl hdg fin
    · have hnot : ¬ (T k).2.2.2 = true := by
        intro z
        simp [z] at hq
      unfold u_lay at hlay
      rw [if_neg hnot] at hlay
      have h6 := u_store hfc hkC hkind hlay hi (hty k hkN) hn1 hn2
      exact va_WputK hx hb (f := f) hown (va_Nw.use rfl (hEx.1 _ (am_wn_mem hw) rfl)) hi hst (by rw [q2]; exact h6) q1 q3 (by rw [hsl]; exact k2_hasslot (q4 k hkN)) rfl rfl hdg fin
  · cases hck
/-- getfield -/
theorem am_get {idx ci k hint a : Nat} {v : Value} {fs : List Value} {rest : List Value} (X : am_Ctx p s m args meth c cc nL own ini R D dA ad base sc) (hW : am_Wd D dA ad base h H)
    (hck : am_ckF own ini false idx ci k hint = true) (hdg : decode cc pc = .ok (.getfield idx, 3)) (he : h[a]? = some (.inr (ci, fs))) (hk : fs[k]? = some v)
    (kk : W p l e R s m args below meth c H locs cells slots Q (F0 m (pc + 3) lsA (am_cv ad v :: rest))) :
    W p l e R s m args below meth c H locs cells slots Q (F0 m pc lsA (.ref (ad a) :: rest)) := by
  obtain ⟨hx, hb, -, hown, hts, hK, ha, hEx, hini, -, -⟩ := X
  obtain ⟨hP, hsz, hl⟩ := hW
  unfold am_ckF at hck
  split at hck
  · rename_i C T N hc
    rw [Bool.and_eq_true, decide_eq_true_eq] at hck
    obtain ⟨hkN, hck⟩ := hck
    have hci : ci < 10 := am_cl_lt hc (by show 0 < N; omega)
    have hin : ∀ w ∈ u_ws C T N, w ∈ am_tb := fun w hw => am_cls_w ci _ hc hci w (List.mem_cons_of_mem _ (List.mem_cons_of_mem _ hw))
    have hws := am_ws_at (ad := ad) (dA := dA) he
    have hv : (fs.map (am_cv ad))[k]? = some (am_cv ad v) := by rw [List.getElem?_map, hk]; rfl
    rw [Bool.or_eq_true, Bool.and_eq_true, Bool.and_eq_true] at hck
    rcases hck with ⟨hw, -⟩ | ⟨hw, -⟩
    · exact va_get hx hb hts hin hown hK hP a hws hc k hkN (hts _ (am_wd_mem hw)) (fun _ h9 => h9) hv hdg kk
    · exact va_getN hx hb hts hin hown hK hP a hws hc k hkN (va_Nw.use rfl (hEx.1 _ (am_wn_mem hw) rfl)) (fun _ h9 => h9) hv hdg kk
  · cases hck
theorem am_push {e0 : va_E} {H1 : Heap} (ha : am_Ad ad base) (hW : am_Wd D dA ad base h H) (hl : h.length < am_SB) (z1 : H1.size = H.size + 1) (o1 : ∀ q, q < H.size → H1[q]? = H[q]?) (hat : va_at D am_cl (ad h.length, am_cE ad dA e0) H1) : am_Wd D dA ad base (h ++ [e0]) H1 := by
  obtain ⟨hP, hsz, hl2⟩ := hW
  refine ⟨?_, by rw [z1, hsz]; simp; omega, by simp; omega⟩
  rw [am_ws_push]
  refine va_P.app (hP.kept fun k x hx => o1 x.1 ((hP k x hx).lt)) (fun k x hx => ?_)
  have hz : k < 1 := (List.getElem?_eq_some_iff.mp hx).1
  rw [show k = 0 by omega] at hx
  cases hx
  exact hat
theorem am_S1 {H1 : Heap} (hS : va_S (am_A base) s.heap H locs) (z1 : H1.size = H.size + 1) (o1 : ∀ q, q < H.size → H1[q]? = H[q]?) : va_S (am_A base) s.heap H1 locs := ⟨Nat.le_trans hS.1 (by omega), fun x h1 h2 => (o1 x (Nat.lt_of_lt_of_le h1 hS.1)).trans (hS.2.1 x h1 h2), hS.2.2⟩
/-- no more cells are there than were made -/
theorem am_sized {g : JFrame} (kk : H.size ≤ s.heap.size + cells → W p l e R s m args below meth c H locs cells slots Q g) : W p l e R s m args below meth c H locs cells slots Q g := fun T hT X => kk (by rw [← hT]; exact X.same.2.2.1) T hT X
theorem am_catsum (ad : Nat → Nat) (r : List Value) : ((r.map (am_cv ad)).map fun v => v.category).sum = (r.map fun v => v.category).sum := by
  rw [List.map_map]
  congr 1
  apply List.map_congr_left
  intro v _
  exact am_cat ad v
theorem am_w_oi : Cond.instanceMethod objectInit ∈ am_tb := am_wd_mem (hint := 119) (by decide +kernel)
theorem am_w_oc : Cond.code objectInit ⟨#[0xb1]⟩ 1 none ∈ am_tb := am_wd_mem (hint := 120) (by decide +kernel)
theorem am_w_cs : Cond.static arraycopyName ∈ am_tb := am_wd_mem (hint := 713) (by decide +kernel)
theorem am_w_cn : Cond.native arraycopyName ∈ am_tb := am_wd_mem (hint := 714) (by decide +kernel)
theorem am_w_ci : Cond.initialized "java/lang/System" ∈ am_tb := am_wd_mem (hint := 106) (by decide +kernel)
set_option maxHeartbeats 4000000 in
theorem am_h_snd {i : am_I} {st' : List Value} {h' : am_H} (X : am_Ctx p s m args meth c cc nL own ini R D dA ad base sc) (hnl : lsA.size = nL) (hW : am_Wd D dA ad base h H) (hS : va_S (am_A base) s.heap H locs)
    (hdg : decode cc pc = .ok (i.1, i.2.1)) (hln : i.2.1 = am_ln i.1) (hck : am_ck own ini i = true) (ee : am_h sc i st h = some (st', h'))
    (hex : s.heap.size + cells = base + h.length) (hcells : cells + (h'.length - h.length) ≤ R.cells) (hslots : slots + (am_sl h' - am_sl h) ≤ R.slots)
    (kk : ∀ (H1 : Heap) (locs1 : List Loc), am_Wd D dA ad base h' H1 → va_S (am_A base) s.heap H1 locs1 → W p l e R s m args below meth c H1 locs1 (cells + (h'.length - h.length)) (slots + (am_sl h' - am_sl h)) Q (F0 m (pc + i.2.1) lsA (st'.map (am_cv ad)))) :
    W p l e R s m args below meth c H locs cells slots Q (F0 m pc lsA (st.map (am_cv ad))) := by
  obtain ⟨ins, len, x, y, hint, K⟩ := i
  simp only at hdg hln kk
  have hlen : len = am_ln ins := hln
  subst hlen
  obtain ⟨hx, hb, hml, hown, hts, hK, ha, hEx, hini, hR1, hR2⟩ := id X
  obtain ⟨hP, hsz, hl⟩ := id hW
  have kk0 : h' = h → W p l e R s m args below meth c H locs cells slots Q (F0 m (pc + am_ln ins) lsA (st'.map (am_cv ad))) := by
    intro z
    subst z
    exact W.widen (Nat.le_add_right _ _) (Nat.le_add_right _ _) (kk H locs hW hS)
  have kkw : ∀ (H1 : Heap) (locs1 : List Loc), am_Wd D dA ad base h' H1 → va_S (am_A base) s.heap H1 locs1 → W p l e R s m args below meth c H1 locs1 cells slots Q (F0 m (pc + am_ln ins) lsA (st'.map (am_cv ad))) := fun H1 locs1 h1 h2 => W.widen (Nat.le_add_right _ _) (Nat.le_add_right _ _) (kk H1 locs1 h1 h2)
  unfold am_h at ee
  split at ee
  · rename_i heq
    cases heq
    split at ee
    · cases ee
    · rename_i hne
      cases ee
      exact lv_idiv hx hb hdg hne (kk0 rfl)
  · rename_i heq
    cases heq
    split at ee
    · cases ee
    · rename_i hne
      cases ee
      exact lv_irem hx hb hdg hne (kk0 rfl)
  · rename_i heq
    cases heq
    split at ee
    · cases ee
    · rename_i hne
      cases ee
      exact lv_ldiv hx hb hdg hne (kk0 rfl)
  · rename_i heq
    cases heq
    split at ee
    · cases ee
    · rename_i hne
      cases ee
      exact lv_lrem hx hb hdg hne (kk0 rfl)
  · -- getfield
    rename_i a r heq
    cases heq
    cases hg : am_gF h a x y with
    | none => rw [hg] at ee; cases ee
    | some v =>
      rw [hg] at ee
      cases ee
      obtain ⟨fs, h1, h2⟩ := am_gF_ok hg
      exact am_get X hW hck hdg h1 h2 (kk0 rfl)
  · -- putfield
    rename_i v a r heq
    cases heq
    cases hg : am_pF h a x y v with
    | none => rw [hg] at ee; cases ee
    | some h1 =>
      rw [hg] at ee
      cases ee
      obtain ⟨fs, h1, h2, h3, rfl⟩ := am_pF_ok hg
      exact am_put X hW hS hck hdg h1 h2 h3 (fun H1 locs1 g1 g2 => kkw H1 locs1 g1 g2)
  · -- iaload
    rename_i j a r heq
    cases heq
    split at ee
    · rename_i v hg
      cases ee
      obtain ⟨n, f, h1, h2, rfl⟩ := am_aI_ok hg
      exact va_iald hx hb hK hP a 0 (am_ws_at h1) (am_tys_at dA 0 (by decide)) h2 hdg (kk0 rfl)
    · split at ee
      · rename_i hsc
        obtain ⟨rfl, hin⟩ := hsc
        cases ee
        exact va_sld hx hb hEx.2.2.2.2.1 (Nat.lt_of_lt_of_le hEx.2.2.2.2.2.1 hEx.2.2.2.2.2.2) (Nat.not_le.mpr hEx.2.2.2.2.2.1) hS hin hdg (kk0 rfl)
      · cases ee
  · -- baload
    rename_i j a r heq
    cases heq
    cases hg : am_aI h x a j with
    | none => rw [hg] at ee; cases ee
    | some v =>
      rw [hg] at ee
      cases ee
      obtain ⟨n, f, h1, h2, rfl⟩ := am_aI_ok hg
      simp only [am_ck, Bool.or_eq_true, beq_iff_eq] at hck
      rcases hck with rfl | rfl
      · exact va_bald hx hb hK hP a 2 (am_ws_at h1) (am_tys_at dA 2 (by decide)) h2 hdg (kk0 rfl)
      · exact va_zald hx hb hK hP a 3 (am_ws_at h1) (am_tys_at dA 3 (by decide)) h2 hdg (kk0 rfl)
  · -- laload
    rename_i j a r heq
    cases heq
    cases hg : am_aL h a j with
    | none => rw [hg] at ee; cases ee
    | some v =>
      rw [hg] at ee
      cases ee
      obtain ⟨n, f, h1, h2, rfl⟩ := am_aL_ok hg
      exact va_lald hx hb hK hP a 1 (am_ws_at h1) (am_tys_at dA 1 (by decide)) h2 hdg (kk0 rfl)
  · -- aaload
    rename_i j a r heq
    cases heq
    cases hg : am_aR h a j with
    | none => rw [hg] at ee; cases ee
    | some v =>
      rw [hg] at ee
      cases ee
      obtain ⟨t, n, f, ht, h1, h2, h3⟩ := am_aR_ok hg
      have hv : va_rf ((fun j => (f j).map ad) j.toNatClampNeg) = .ref (ad v) := by simp [h3, va_rf]
      have kk1 := kk0 rfl
      rcases ht with rfl | rfl
      · refine va_aldq hx hb hK hP a 4 (am_ws_at h1) (am_tys_at dA 4 (by decide)) h2 hdg ?_
        rw [hv]
        exact kk1
      · refine va_aldq hx hb hK hP a 5 (am_ws_at h1) (am_tys_at dA 5 (by decide)) h2 hdg ?_
        rw [hv]
        exact kk1
  · -- iastore
    rename_i v j a r heq
    cases heq
    cases hg : am_sI h 0 a j v with
    | none => rw [hg] at ee; cases ee
    | some h1 =>
      rw [hg] at ee
      cases ee
      obtain ⟨n, f, h1, h2, rfl⟩ := am_sI_ok hg
      refine W.iast hx hb (hP a _ (am_ws_at h1)) ((hK.2 0 _ (am_tys_at dA 0 (by decide))).1 n (fun j => .int (f j))) (fun q => by cases q) (by show ¬ (j < 0 ∨ (arrV _ _ _).slots.size ≤ _); rw [arrV_size]; exact h2) rfl rfl hdg fun H1 e1 z oq => ?_
      refine kkw H1 _ ⟨am_put1 ha hl hP h1 ?_ oq, by rw [z, hsz]; simp, by simpa using hl⟩ (hS.put z oq (am_adA ha hl h1))
      show H1[ad a]? = some (vp_cell (dA 0) (n, .inl (upd f j.toNatClampNeg v)))
      rw [e1, ← am_updcell]
      rfl
  · -- bastore
    rename_i v j a r heq
    cases heq
    cases hg : am_sI h x a j v with
    | none => rw [hg] at ee; cases ee
    | some h1 =>
      rw [hg] at ee
      cases ee
      obtain ⟨n, f, h1, h2, rfl⟩ := am_sI_ok hg
      simp only [am_ck, Bool.or_eq_true, beq_iff_eq] at hck
      rcases hck with rfl | rfl
      · refine W.bast hx hb (hP a _ (am_ws_at h1)) ((hK.2 2 _ (am_tys_at dA 2 (by decide))).1 n (fun j => .int (f j))) (fun q => by cases q) (by show ¬ (j < 0 ∨ (arrV _ _ _).slots.size ≤ _); rw [arrV_size]; exact h2) rfl rfl hdg fun H1 e1 z oq => ?_
        refine kkw H1 _ ⟨am_put1 ha hl hP h1 ?_ oq, by rw [z, hsz]; simp, by simpa using hl⟩ (hS.put z oq (am_adA ha hl h1))
        show H1[ad a]? = some (vp_cell (dA 2) (n, .inl (upd f j.toNatClampNeg (vp_nar .byte v))))
        rw [e1, ← am_updcell]
        rfl
      · refine W.zast hx hb (hP a _ (am_ws_at h1)) ((hK.2 3 _ (am_tys_at dA 3 (by decide))).1 n (fun j => .int (f j))) (fun q => by cases q) (by show ¬ (j < 0 ∨ (arrV _ _ _).slots.size ≤ _); rw [arrV_size]; exact h2) rfl rfl hdg fun H1 e1 z oq => ?_
        refine kkw H1 _ ⟨am_put1 ha hl hP h1 ?_ oq, by rw [z, hsz]; simp, by simpa using hl⟩ (hS.put z oq (am_adA ha hl h1))
        show H1[ad a]? = some (vp_cell (dA 3) (n, .inl (upd f j.toNatClampNeg (vp_nar .boolean v))))
        rw [e1, ← am_updcell]
        rfl
  · -- lastore
    rename_i v j a r heq
    cases heq
    cases hg : am_sL h a j v with
    | none => rw [hg] at ee; cases ee
    | some h1 =>
      rw [hg] at ee
      cases ee
      obtain ⟨n, f, h1, h2, rfl⟩ := am_sL_ok hg
      refine W.last hx hb (hP a _ (am_ws_at h1)) ((hK.2 1 _ (am_tys_at dA 1 (by decide))).1 n (fun j => .long (f j))) (fun q => by cases q) (by show ¬ (j < 0 ∨ (arrV _ _ _).slots.size ≤ _); rw [arrV_size]; exact h2) rfl rfl hdg fun H1 e1 z oq => ?_
      refine kkw H1 _ ⟨am_put1 ha hl hP h1 ?_ oq, by rw [z, hsz]; simp, by simpa using hl⟩ (hS.put z oq (am_adA ha hl h1))
      show H1[ad a]? = some (vp_cell (dA 1) (n, .inr (.inl (vp_updL f j.toNatClampNeg v))))
      rw [e1, ← am_updcellL]
      rfl
  · -- aastore
    rename_i v j a r heq
    cases heq
    cases hg : am_sR h a j v with
    | none => rw [hg] at ee; cases ee
    | some h1 =>
      rw [hg] at ee
      cases ee
      obtain ⟨t, ci, n, f, vs, h1, h2, h3, h4, rfl⟩ := am_sR_ok hg
      obtain ⟨q, hq, ht6, hqc⟩ : ∃ q : vw_C, am_cl[ci]? = some q ∧ t < 6 ∧ am_ty t = .object q.1 := by
        simp only [am_okR, Bool.or_eq_true, Bool.and_eq_true, beq_iff_eq] at h3
        rcases h3 with ⟨rfl, rfl⟩ | ⟨rfl, rfl⟩
        · exact ⟨_, rfl, by decide, rfl⟩
        · exact ⟨_, rfl, by decide, rfl⟩
      have hlt : j.toNatClampNeg < n := Nat.not_le.mp fun z => h4 (Or.inr z)
      have h0 : ¬ j < 0 := fun z => h4 (Or.inl z)
      obtain ⟨r', hr', cellV, g1, g2, g3, -⟩ := hP v _ (am_ws_at h2)
      have hcls := (hK.1 ci q hq).2
      have hRA := (hK.2 t _ (am_tys_at dA t ht6)).2
      rw [hqc] at hRA
      obtain ⟨kA, comp, k1, k2, k3, -⟩ := hRA
      have hcomp : comp = D.1 ci := Option.some.inj (k3.symm.trans hcls.1)
      subst hcomp
      obtain ⟨kC, hkC, -⟩ := hcls.2
      refine W.aast hx hb (hP a _ (am_ws_at h1)) (fun q h => by cases h) (fun h => by cases h) k1 k2 rfl hkC ⟨h0, by show _ < (arrV _ _ _).slots.size; rw [arrV_size]; exact hlt⟩ g1 (fun q h => by rw [g3] at h; cases h) (by rw [g2]; exact hkC) (by rw [g2]; exact va_assign hcls) rfl rfl hdg fun H1 e1 z oq => ?_
      refine kkw H1 _ ⟨am_put1 ha hl hP h1 ?_ oq, by rw [z, hsz]; simp, by simpa using hl⟩ (hS.put z oq (am_adA ha hl h1))
      have hf : (fun j1 => Option.map ad (va_up f j.toNatClampNeg (some v) j1)) = va_up (fun j => (f j).map ad) j.toNatClampNeg (some (ad v)) := by
        funext z
        simp only [va_up]
        split <;> rfl
      show H1[ad a]? = some (vp_cell (dA t) (n, .inr (.inr (.inr (.inr (fun j1 => Option.map ad (va_up f j.toNatClampNeg (some v) j1)))))))
      rw [e1, hf, ← am_updcellR]
      rfl
  · -- arraylength
    rename_i a r heq
    cases heq
    split at ee
    · rename_i v hg
      cases ee
      obtain ⟨t, n, b, ht, h1, rfl⟩ := am_len_ok hg
      have hn : (am_cA ad (n, b)).1 = n := by
        rcases b with b | b | b | b | b <;> rfl
      exact va_alen hx hb hK hP a t (am_ws_at h1) (am_tys_at dA t ht) (by rw [hn]) hdg (kk0 rfl)
    · split at ee
      · rename_i hsc
        subst hsc
        cases ee
        exact va_slen hx hb hEx.2.2.2.2.1 (Nat.lt_of_lt_of_le hEx.2.2.2.2.2.1 hEx.2.2.2.2.2.2) (Nat.not_le.mpr hEx.2.2.2.2.2.1) hS hdg (kk0 rfl)
      · cases ee
  · -- new
    rename_i heq
    cases heq
    split at ee
    · rename_i hlt
      cases hg : am_def x with
      | none => rw [hg] at ee; cases ee
      | some fs =>
        rw [hg] at ee
        cases ee
        unfold am_def at hg
        simp only [am_ck] at hck
        split at hg
        · rename_i q hq
          cases hg
          rw [hq] at hck
          rw [Bool.and_eq_true, decide_eq_true_eq] at hck
          obtain ⟨hci, hck⟩ := hck
          have hin : ∀ w ∈ am_clw q, w ∈ am_tb := am_cls_w x q hq hci
          have hin2 : ∀ w ∈ u_ws q.1 q.2.1 q.2.2, w ∈ am_tb := fun w hw => hin w (List.mem_cons_of_mem _ (List.mem_cons_of_mem _ hw))
          obtain ⟨hty, -⟩ := am_cls x q hq hci
          have hKn := hK.1 x q hq
          have e1 : (h ++ [Sum.inr (x, List.map (fun k => defaultValue (am_fty x k)) (List.range q.2.2))] : am_H).length - h.length = 1 := by simp
          have e2 : am_sl (h ++ [Sum.inr (x, List.map (fun k => defaultValue (am_fty x k)) (List.range q.2.2))]) - am_sl h = q.2.2 := by
            rw [am_sl_push]
            have hx10 : ¬ x = 10 := by omega
            simp only [am_slE, if_neg hx10, hq]
            omega
          rw [e1] at hcells
          rw [e2] at hslots
          simp only [e1, e2] at kk
          refine W.newcK hx hb hown (hts _ (am_wd_mem hck)) (hts _ (hin _ List.mem_cons_self)) (hts _ (hin _ (List.mem_cons_of_mem _ List.mem_cons_self))) rfl hdg hcells hslots hKn.2.1 rfl fun H1 kC hkC c1 z1 o1 => ?_
          have had : ad h.length = H.size := by rw [ha _ hlt, hsz]
          have hwd := am_push (D := D) (dA := dA) (e0 := .inr (x, List.map (fun k => defaultValue (am_fty x k)) (List.range q.2.2))) ha hW hlt z1 o1 ⟨q, hq, by
            show t_OB (ad h.length) (D.1 x) q.2.2 (D.2 x) H1 _
            rw [had]
            refine (u_born (am_fty x) hts hin2 hKn hkC c1 hty).to (fun j hj => ?_)
            simp only [vp_V, List.map_map, List.getD_eq_getElem?_getD, List.getElem?_map, List.getElem?_range hj]
            show _ = am_cv ad (defaultValue (am_fty x j))
            cases am_fty x j <;> rfl⟩
          have := kk H1 locs hwd (am_S1 hS z1 o1)
          simp only [List.map_cons, am_cv, had] at this
          exact this
        · cases hg
    · cases ee
  · -- newarray
    rename_i n r heq
    cases heq
    split at ee
    · rename_i hc
      obtain ⟨hlt, hn0, hn1⟩ := hc
      cases ee
      simp only [am_ck, Bool.and_eq_true, decide_eq_true_eq] at hck
      obtain ⟨⟨ht4, hty⟩, hw⟩ := hck
      have e1 : (h ++ [Sum.inl (x, n.toNatClampNeg, am_zero x)] : am_H).length - h.length = 1 := by simp
      have e2 : am_sl (h ++ [Sum.inl (x, n.toNatClampNeg, am_zero x)]) - am_sl h = n.toNatClampNeg := by
        rw [am_sl_push]
        simp only [am_slE]
        omega
      rw [e1] at hcells
      rw [e2] at hslots
      simp only [e1, e2] at kk
      have had : ad h.length = H.size := by rw [ha _ hlt, hsz]
      have hcb : componentBytes (am_ty x) ≤ 8 := by
        match x, ht4 with
        | 0, _ => decide
        | 1, _ => decide
        | 2, _ => decide
        | 3, _ => decide
        | k + 4, h => omega
      refine va_newaK hx hb (hts _ (am_wd_mem (hty.symm ▸ hw))) rfl hdg rfl hn0 rfl (by rw [hty]; exact Nat.le_trans (Nat.mul_le_mul hn1 hcb) (by decide)) hcells hslots rfl fun H1 cA c1 z1 o1 hAr hNm => ?_
      rw [hty] at c1 hNm
      have hcA : cA = dA x := by
        have hRA := (hK.2 x _ (am_tys_at dA x (by omega))).2
        have : s.vm.findClass ("[" ++ (am_ty x).toString) = some (dA x) := by
          match x, ht4, hRA with
          | 0, _, h => exact h
          | 1, _, h => exact h
          | 2, _, h => exact h
          | 3, _, h => exact h
          | k + 4, h, _ => omega
        exact Option.some.inj (hNm.symm.trans this)
      subst hcA
      have hwd := am_push (D := D) (dA := dA) (e0 := .inl (x, n.toNatClampNeg, am_zero x)) ha hW hlt z1 o1 (by
        show H1[ad h.length]? = some (vp_cell (dA x) (am_cA ad (n.toNatClampNeg, am_zero x)))
        rw [had, c1]
        match x, ht4 with
        | 0, _ => rfl
        | 1, _ => rfl
        | 2, _ => rfl
        | 3, _ => rfl
        | k + 4, h => omega)
      have := kk H1 locs hwd (am_S1 hS z1 o1)
      simp only [List.map_cons, am_cv, had] at this
      exact this
    · cases ee
  · -- anewarray
    rename_i n r heq
    cases heq
    split at ee
    · rename_i hc
      obtain ⟨hlt, hn0, hn1⟩ := hc
      cases ee
      have e1 : (h ++ [Sum.inl (x, n.toNatClampNeg, Sum.inr (Sum.inr (Sum.inr (Sum.inr (fun _ => none)))))] : am_H).length - h.length = 1 := by simp
      have e2 : am_sl (h ++ [Sum.inl (x, n.toNatClampNeg, Sum.inr (Sum.inr (Sum.inr (Sum.inr (fun _ => none)))))]) - am_sl h = n.toNatClampNeg := by
        rw [am_sl_push]
        simp only [am_slE]
        omega
      rw [e1] at hcells
      rw [e2] at hslots
      simp only [e1, e2] at kk
      have had : ad h.length = H.size := by rw [ha _ hlt, hsz]
      simp only [am_ck, Bool.or_eq_true, Bool.and_eq_true, beq_iff_eq] at hck
      obtain ⟨C, hC, hx6, hlk, hao⟩ : ∃ C, am_ty x = .object C ∧ x < 6 ∧ (Cond.classLink own _ C).before args s = true ∧ va_AO C s := by
        rcases hck with ⟨rfl, hw⟩ | ⟨rfl, hw⟩
        · exact ⟨_, rfl, by decide, hts _ (am_wd_mem hw), hEx.2.1.1⟩
        · exact ⟨_, rfl, by decide, hts _ (am_wd_mem hw), hEx.2.1.2⟩
      refine W.anew hx hb hown hlk (va_AO.use hao) rfl hdg rfl hn0 (Nat.le_trans (Nat.mul_le_mul_right 4 hn1) (by decide)) hcells hslots fun cA kA comp f1 f2 f3 f4 => ?_
      have hRA := (hK.2 x _ (am_tys_at dA x hx6)).2
      rw [hC] at hRA
      obtain ⟨kA', comp', k1, k2, k3, k4⟩ := hRA
      have hcA : cA = dA x := Option.some.inj (f1.symm.trans k4)
      subst hcA
      generalize hH1 : H.push ({ cls := dA x, slots := Array.replicate n.toNatClampNeg .null, vm := .none } : Cell) = H1
      have z1 : H1.size = H.size + 1 := by rw [← hH1, Array.size_push]
      have c1 : H1[H.size]? = some (arrV (dA x) n.toNatClampNeg (fun _ => .null)) := by rw [← hH1, Array.getElem?_push_size, ← arrV_new]
      have o1 : ∀ q : Nat, q < H.size → H1[q]? = H[q]? := fun q hq => by rw [← hH1, Array.getElem?_push, if_neg (Nat.ne_of_lt hq)]
      have hwd := am_push (D := D) (dA := dA) (e0 := .inl (x, n.toNatClampNeg, .inr (.inr (.inr (.inr (fun _ => none)))))) ha hW hlt z1 o1 (by
        show H1[ad h.length]? = some (vp_cell (dA x) (n.toNatClampNeg, .inr (.inr (.inr (.inr (fun _ => none))))))
        rw [had, c1]
        rfl)
      have := kk H1 locs hwd (am_S1 hS z1 o1)
      simp only [List.map_cons, am_cv, had] at this
      exact this
    · cases ee
  · -- Object.<init>
    rename_i r heq
    cases heq
    split at ee
    · rename_i hc
      cases ee
      refine W.objInit hx hb hown (hts _ (am_wd_mem hck)) (hts _ am_w_oi) (hts _ am_w_oc) rfl (by rw [hml]; exact hnl) rfl hdg hR1 ?_ (kk0 rfl)
      have := lv_room (m := m) (pc := pc) (ls := lsA) (rest := []) (st := st'.map (am_cv ad)) (by rw [am_catsum]; exact hc)
      exact Nat.le_trans (Nat.add_le_add_right this 12) (by omega)
    · cases ee
  · -- arraycopy
    rename_i n dp a1 sp a0 r heq
    cases heq
    split at ee
    · rename_i hc
      cases hg : am_cp h a0 sp a1 dp n with
      | none => rw [hg] at ee; cases ee
      | some h1 =>
        rw [hg] at ee
        cases ee
        obtain ⟨n0, n1, f, g, g1, g2, g3, g4, g5, g6, g7, rfl⟩ := am_cp_ok hg
        refine va_copyi hx hb (by rw [hml]; exact hnl.symm) hown (hts _ (am_wd_mem hck)) (hts _ am_w_cn) (hts _ am_w_cs) (hts _ am_w_ci) hK hP (am_D ha hl) hS a0 a1 0 0 (am_ws_at g1) (am_ws_at g2) (am_tys_at dA 0 (by decide)) (am_tys_at dA 0 (by decide)) rfl g3 g4 g5 g6 g7 (fun _ _ => rfl) hR1 ?_ hdg ?_
        · rw [am_catsum]
          have hnw : nativeFrameWords "java/lang/System" "arraycopy" 5 = 7 := by decide +kernel
          omega
        · intro H1 locs1 q1 _ q2
          refine am_sized fun hz => kkw H1 locs1 ⟨?_, ?_, by simpa using hl⟩ q2
          · rw [← am_ws_set]
            exact q1
          · have hi : a1 < h.length := (List.getElem?_eq_some_iff.mp g2).1
            have hq1 : va_P D am_cl (am_ws ad dA (h.set a1 (.inl (0, n1, .inl (va_cpy f g sp.toNatClampNeg dp.toNatClampNeg n.toNatClampNeg))))) H1 := by
              rw [← am_ws_set]
              exact q1
            have hl8 : h.length - 1 < h.length := Nat.sub_lt (Nat.lt_of_le_of_lt (Nat.zero_le _) hi) (by decide)
            have hl9 : h.length - 1 < (h.set a1 (.inl (0, n1, .inl (va_cpy f g sp.toNatClampNeg dp.toNatClampNeg n.toNatClampNeg)))).length := by
              rw [List.length_set]
              exact hl8
            have hlt := (hq1 _ _ (am_ws_at (List.getElem?_eq_getElem hl9))).lt
            have hlt2 : base + (h.length - 1) < H1.size := by
              rw [← ha _ (Nat.lt_of_lt_of_le hl8 hl)]
              exact hlt
            rw [List.length_set]
            generalize h.length = len at hi hl8 hl9 hlt2 hex hz hsz ⊢
            omega
    · cases ee
  · cases ee
end AMH
