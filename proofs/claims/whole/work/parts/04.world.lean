/-! ## String constants: 25 texts, where they are loaded -/
def am_txt (i : Nat) : String := (["house", "beds", "lends", "day", "of", "on", "says", "clash", "stays", "fades", "date", "move", "send", "build", "plain", "big", "early", "leap", "not", "and", "or", "loud", "full", "month", "times"] : List String).getD i ""
def am_byt : List (List Int32) := [[104, 111, 117, 115, 101], [98, 101, 100, 115], [108, 101, 110, 100, 115], [100, 97, 121], [111, 102], [111, 110], [115, 97, 121, 115], [99, 108, 97, 115, 104], [115, 116, 97, 121, 115], [102, 97, 100, 101, 115], [100, 97, 116, 101], [109, 111, 118, 101], [115, 101, 110, 100], [98, 117, 105, 108, 100], [112, 108, 97, 105, 110], [98, 105, 103], [101, 97, 114, 108, 121], [108, 101, 97, 112], [110, 111, 116], [97, 110, 100], [111, 114], [108, 111, 117, 100], [102, 117, 108, 108], [109, 111, 110, 116, 104], [116, 105, 109, 101, 115]]
def am_S : List (String × Nat × Nat) := [("DateVale$Reader", 33, 0), ("DateVale$Tape", 66, 0), ("DateVale$Tape", 72, 1), ("DateVale$Tape", 74, 2), ("DateVale$Tape", 76, 3), ("DateVale$Tape", 78, 4), ("DateVale$Tape", 80, 5), ("DateVale$Tape", 82, 6), ("DateVale$Tape", 84, 7), ("DateVale$Tape", 86, 8), ("DateVale$Tape", 88, 9), ("DateVale$Tape", 90, 10), ("DateVale$Tape", 92, 11), ("DateVale$Tape", 94, 12), ("DateVale$Tape", 96, 13), ("DateVale$Tape", 98, 14), ("DateVale$Tape", 100, 15), ("DateVale$Tape", 102, 16), ("DateVale$Tape", 104, 17), ("DateVale$Tape", 106, 18), ("DateVale$Tape", 108, 19), ("DateVale$Tape", 110, 20), ("DateVale$Reader", 84, 1), ("DateVale$Reader", 42, 2), ("DateVale$Reader", 47, 3), ("DateVale$Reader", 192, 14), ("DateVale$Reader", 194, 15), ("DateVale$Reader", 196, 16), ("DateVale$Reader", 198, 17), ("DateVale$Reader", 119, 4), ("DateVale$Reader", 121, 5), ("DateVale$Reader", 123, 6), ("DateVale$Reader", 52, 7), ("DateVale$Reader", 57, 8), ("DateVale$Reader", 62, 9), ("DateVale$Law", 55, 18), ("DateVale$Law", 75, 21), ("DateVale$Law", 77, 22), ("DateVale$Law", 79, 23), ("DateVale$Law", 81, 24), ("DateVale$Law", 43, 19), ("DateVale$Law", 49, 20), ("DateVale$Reader", 174, 10), ("DateVale$Reader", 176, 11), ("DateVale$Reader", 178, 12), ("DateVale$Reader", 180, 13)]
/-! ## the words that a method may hand on, and those that go beside them -/
def am_tb : List Cond := lw_tbl.filter goodWord
def am_isN (w : Cond) : Bool := match w with
  | .fieldLinkNest .. => true
  | .methodLinkNest .. => true
  | _ => false
def am_wd (hint : Nat) (w : Cond) : Bool := goodWord w && decide (lw_tbl[hint]? = some w)
def am_wn (hint : Nat) (w : Cond) : Bool := decide (lw_tbl[hint]? = some w)
theorem am_wd_mem {hint : Nat} {w : Cond} (h : am_wd hint w = true) : w ∈ am_tb := by
  unfold am_wd at h
  rw [Bool.and_eq_true, decide_eq_true_eq] at h
  exact List.mem_filter.mpr ⟨List.mem_of_getElem? h.2, h.1⟩
theorem am_wn_mem {hint : Nat} {w : Cond} (h : am_wn hint w = true) : w ∈ lw_tbl := by
  unfold am_wn at h
  rw [decide_eq_true_eq] at h
  exact List.mem_of_getElem? h
def am_ckF (own : String) (ini put : Bool) (idx ci k hint : Nat) : Bool := match am_cl[ci]? with
  | some (_, T, N) => decide (k < N) && ((am_wd hint (.fieldLink own idx (T k).1 (T k).2.1 (T k).2.2.1) && (!put || !(T k).2.2.2 || (ini && decide ((T k).1 = own)))) || (am_wn hint (.fieldLinkNest own idx (T k).1 (T k).2.1 (T k).2.2.1 "DateVale") && (!put || !(T k).2.2.2)))
  | none => false
/-- the length of an instruction (that of a switch is its own) -/
def am_ln (i : Instr) : Nat := match i with
  | .bipush _ => 2
  | .sipush _ => 3
  | .ldc _ => 2
  | .ldc_w _ => 3
  | .ldc2_w _ => 3
  | .iload _ => 2
  | .lload _ => 2
  | .aload _ => 2
  | .istore _ => 2
  | .lstore _ => 2
  | .astore _ => 2
  | .iinc _ _ => 3
  | .goto _ => 3
  | .ifCond _ _ => 3
  | .if_icmp _ _ => 3
  | .getfield _ => 3
  | .putfield _ => 3
  | .new _ => 3
  | .newarray _ => 2
  | .anewarray _ => 3
  | .invokevirtual _ => 3
  | .invokespecial _ => 3
  | .invokestatic _ => 3
  | _ => 1
def am_isSw (i : Instr) : Bool := match i with
  | .tableswitch .. => true
  | _ => false
/-- that an instruction's numbers are those of its links -/
def am_ck (own : String) (ini : Bool) (i : am_I) : Bool := match i with
  | (.iconst n, _, _, _, _, .int v) => decide (Int32.ofInt n = v)
  | (.bipush n, _, _, _, _, .int v) => decide ((Int8.ofInt n).toInt32 = v)
  | (.sipush n, _, _, _, _, .int v) => decide ((Int16.ofInt n).toInt32 = v)
  | (.lconst n, _, _, _, _, .long v) => decide (Int64.ofNat (n : Nat) = v)
  | (.ldc idx, _, _, _, hint, .int v) => am_wd hint (.constant own idx v)
  | (.ldc idx, _, _, _, _, .ref a) => decide (am_SB ≤ a) && decide ((own, idx, a - am_SB) ∈ am_S)
  | (.ldc_w idx, _, _, _, hint, .int v) => am_wd hint (.constant own idx v)
  | (.ldc2_w idx, _, _, _, hint, .long v) => am_wd hint (.constantLong own idx v)
  | (.iinc _ n, _, _, _, _, .int v) => decide (Int32.ofInt n = v)
  | (.iconst _, _, _, _, _, _) => false
  | (.bipush _, _, _, _, _, _) => false
  | (.sipush _, _, _, _, _, _) => false
  | (.lconst _, _, _, _, _, _) => false
  | (.ldc _, _, _, _, _, _) => false
  | (.ldc_w _, _, _, _, _, _) => false
  | (.ldc2_w _, _, _, _, _, _) => false
  | (.iinc _ _, _, _, _, _, _) => false
  | (.getfield idx, _, ci, k, hint, _) => am_ckF own ini false idx ci k hint
  | (.putfield idx, _, ci, k, hint, _) => am_ckF own ini true idx ci k hint
  | (.new idx, _, ci, _, hint, _) => decide (ci < 10) && match am_cl[ci]? with
    | some q => am_wd hint (.classLink own idx q.1)
    | none => false
  | (.newarray at', _, t, _, hint, _) => decide (t < 4) && decide (newarray.typeOf at' = am_ty t) && am_wd hint (.arrayClass (am_ty t))
  | (.anewarray idx, _, t, _, hint, _) => (t == 4 && am_wd hint (.classLink own idx "DateVale$Stand")) || (t == 5 && am_wd hint (.classLink own idx "DateVale$Mark"))
  | (.baload, _, t, _, _, _) => t == 2 || t == 3
  | (.bastore, _, t, _, _, _) => t == 2 || t == 3
  | (.invokespecial idx, _, 999, _, hint, _) => am_wd hint (.methodLink own idx objectInit)
  | (.invokestatic idx, _, 998, _, hint, _) => am_wd hint (.methodLink own idx arraycopyName)
  | _ => true
/-! ## values, cells and worlds -/
def am_cv (ad : Nat → Nat) (v : Value) : Value := match v with
  | .ref i => .ref (ad i)
  | w => w
def am_cA (ad : Nat → Nat) (a : vp_A) : vp_A := match a with
  | (n, .inr (.inr (.inr (.inr f)))) => (n, .inr (.inr (.inr (.inr (fun j => (f j).map ad)))))
  | w => w
def am_cE (ad : Nat → Nat) (dA : Nat → ClassId) (e : va_E) : va_E := match e with
  | .inl (t, a) => .inl (dA t, am_cA ad a)
  | .inr (ci, fs) => .inr (ci, fs.map (am_cv ad))
def am_ws (ad : Nat → Nat) (dA : Nat → ClassId) (h : am_H) : va_W := h.mapIdx (fun i e => (ad i, am_cE ad dA e))
theorem am_ws_get (ad : Nat → Nat) (dA : Nat → ClassId) (h : am_H) (i : Nat) : (am_ws ad dA h)[i]? = (h[i]?).map (fun e => (ad i, am_cE ad dA e)) := by
  unfold am_ws
  rw [List.getElem?_mapIdx]
theorem am_ws_at {ad : Nat → Nat} {dA : Nat → ClassId} {h : am_H} {i : Nat} {e : va_E} (he : h[i]? = some e) : (am_ws ad dA h)[i]? = some (ad i, am_cE ad dA e) := by
  rw [am_ws_get, he]; rfl
theorem am_ws_set {ad : Nat → Nat} {dA : Nat → ClassId} {h : am_H} {i : Nat} {e : va_E} : (am_ws ad dA h).set i (ad i, am_cE ad dA e) = am_ws ad dA (h.set i e) := by
  apply List.ext_getElem?
  intro j
  rw [am_ws_get, List.getElem?_set, List.getElem?_set, am_ws_get]
  have hl : (am_ws ad dA h).length = h.length := by simp [am_ws]
  rw [hl]
  by_cases hj : i = j
  · subst hj
    by_cases h2 : i < h.length
    · simp [h2]
    · simp [h2]
  · simp [hj]
theorem am_ws_push {ad : Nat → Nat} {dA : Nat → ClassId} {h : am_H} {e : va_E} : am_ws ad dA (h ++ [e]) = am_ws ad dA h ++ [(ad h.length, am_cE ad dA e)] := by
  unfold am_ws
  rw [List.mapIdx_append]
  simp
def am_tys (dA : Nat → ClassId) : List (ClassId × FieldType) := [(dA 0, .int), (dA 1, .long), (dA 2, .byte), (dA 3, .boolean), (dA 4, .object "DateVale$Stand"), (dA 5, .object "DateVale$Mark")]
def am_A (base : Nat) : Nat → Prop := fun q => base ≤ q
/-- the addresses: the law's own cells lie behind each other from base on; all others lie below -/
def am_Ad (ad : Nat → Nat) (base : Nat) : Prop := ∀ i, i < am_SB → ad i = base + i
theorem am_D {ad : Nat → Nat} {dA : Nat → ClassId} {base : Nat} {h : am_H} (ha : am_Ad ad base) (hl : h.length ≤ am_SB) : va_D (am_A base) (am_ws ad dA h) := by
  have key : ∀ (i : Nat) (q : Nat × va_E), (am_ws ad dA h)[i]? = some q → q.1 = base + i := by
    intro i q hq
    rw [am_ws_get] at hq
    cases he : h[i]? with
    | none => rw [he] at hq; simp at hq
    | some e =>
      rw [he] at hq
      simp only [Option.map_some, Option.some.injEq] at hq
      have hi : i < h.length := (List.getElem?_eq_some_iff.mp he).1
      rw [← hq]
      exact ha i (by omega)
  refine ⟨fun i j x y hx hy hxy => ?_, fun k q hq => ?_⟩
  · have h1 := key i x hx
    have h2 := key j y hy
    omega
  · show base ≤ q.1
    rw [key k q hq]
    omega
/-! ## frames -/
def am_lv (ad : Nat → Nat) (ls : am_L) : List (Nat × Value) := (List.range ls.length).filterMap (fun i => match ls[i]? with
  | some (some v) => some (i, am_cv ad v)
  | _ => none)
theorem am_lv_mem {ad : Nat → Nat} {ls : am_L} {i : Nat} {w : Value} : (i, w) ∈ am_lv ad ls ↔ ∃ v, ls[i]? = some (some v) ∧ w = am_cv ad v := by
  unfold am_lv
  rw [List.mem_filterMap]
  constructor
  · rintro ⟨j, -, hj⟩
    cases hl : ls[j]? with
    | none => rw [hl] at hj; simp at hj
    | some o =>
      cases o with
      | none => rw [hl] at hj; simp at hj
      | some v =>
        rw [hl] at hj
        simp only [Option.some.injEq, Prod.mk.injEq] at hj
        obtain ⟨rfl, rfl⟩ := hj
        exact ⟨v, hl, rfl⟩
  · rintro ⟨v, hv, rfl⟩
    refine ⟨i, ?_, ?_⟩
    · rw [List.mem_range]
      exact (List.getElem?_eq_some_iff.mp hv).1
    · rw [hv]
def am_fr (ad : Nat → Nat) (lsA : Array Slot) (nL : Nat) (ls : am_L) : Prop := ls.length = nL ∧ lv_has lsA nL (am_lv ad ls)
theorem am_fr.at {ad : Nat → Nat} {lsA : Array Slot} {nL : Nat} {ls : am_L} (h : am_fr ad lsA nL ls) {i : Nat} {v : Value} (hv : ls[i]? = some (some v)) : lsA[i]? = some (.val (am_cv ad v)) := h.2.2.2 (i, am_cv ad v) (am_lv_mem.mpr ⟨v, hv, rfl⟩)
theorem lv_has.mono {ls : Array Slot} {nL : Nat} {l l' : List (Nat × Value)} (h : lv_has ls nL l) (hl : ∀ q ∈ l', q ∈ l) : lv_has ls nL l' := ⟨h.1, h.2.1, fun q hq => h.2.2 q (hl q hq)⟩
theorem am_cat (ad : Nat → Nat) (v : Value) : (am_cv ad v).category = v.category := by cases v <;> rfl
theorem am_st1_ok {ad : Nat → Nat} {nL : Nat} {ls ls' : am_L} {i : Nat} {v : Value} (hn : ls.length = nL) (e : am_st1 ls i v = some ls') :
    i < nL ∧ ∀ lsA' : Array Slot, lv_has lsA' nL ((i, am_cv ad v) :: (am_lv ad ls).filter (fun q => !(q.1 == i) && !(q.1 + 1 == i && q.2.category == 2))) → am_fr ad lsA' nL ls' := by
  unfold am_st1 at e
  by_cases hi : i < ls.length
  · rw [if_pos hi] at e
    refine ⟨hn ▸ hi, fun lsA' h' => ?_⟩
    have key : ls'.length = ls.length ∧ ls'[i]? = some (some v) ∧ ∀ j w, j ≠ i → ls'[j]? = some (some w) → ls[j]? = some (some w) ∧ ¬ (j + 1 = i ∧ w.category = 2) := by
      cases i with
      | zero =>
        simp only [Option.some.injEq] at e
        subst e
        refine ⟨by simp, by simp [hi], fun j w hj hw => ?_⟩
        rw [List.getElem?_set_ne (Ne.symm hj)] at hw
        exact ⟨hw, fun z => by omega⟩
      | succ k =>
        simp only at e
        cases hk : ls[k]? with
        | none => exact absurd (List.getElem?_eq_none_iff.mp hk) (by omega)
        | some o =>
          rw [hk] at e
          cases o with
          | none =>
            simp only [Option.some.injEq] at e
            subst e
            refine ⟨by simp, by simp [hi], fun j w hj hw => ?_⟩
            rw [List.getElem?_set_ne (Ne.symm hj)] at hw
            refine ⟨hw, fun z => ?_⟩
            have : j = k := by omega
            subst this
            rw [hk] at hw
            cases hw
          | some u =>
            simp only at e
            by_cases hu : u.category = 2
            · have hb : Nat.beq u.category 2 = true := by rw [hu]; rfl
              rw [hb] at e
              simp only [cond_true, Option.some.injEq] at e
              subst e
              refine ⟨by simp, by simp [hi], fun j w hj hw => ?_⟩
              rw [List.getElem?_set_ne (Ne.symm hj)] at hw
              by_cases hjk : j = k
              · subst hjk
                rw [List.getElem?_set_self (by omega)] at hw
                cases hw
              · rw [List.getElem?_set_ne (Ne.symm hjk)] at hw
                exact ⟨hw, fun z => hjk (by omega)⟩
            · have hb : Nat.beq u.category 2 = false := by
                cases hbb : Nat.beq u.category 2 with
                | false => rfl
                | true => exact absurd (Nat.eq_of_beq_eq_true hbb) hu
              rw [hb] at e
              simp only [cond_false, Option.some.injEq] at e
              subst e
              refine ⟨by simp, by simp [hi], fun j w hj hw => ?_⟩
              rw [List.getElem?_set_ne (Ne.symm hj)] at hw
              refine ⟨hw, fun z => ?_⟩
              have : j = k := by omega
              subst this
              rw [hk] at hw
              cases hw
              exact hu z.2
    obtain ⟨k1, k2, k3⟩ := key
    refine ⟨k1.trans hn, h'.mono fun q hq => ?_⟩
    obtain ⟨j, w⟩ := q
    obtain ⟨u, hu, rfl⟩ := am_lv_mem.mp hq
    by_cases hj : j = i
    · subst hj
      rw [k2] at hu
      cases hu
      exact List.mem_cons_self
    · obtain ⟨g1, g2⟩ := k3 j u hj hu
      refine List.mem_cons_of_mem _ (List.mem_filter.mpr ⟨am_lv_mem.mpr ⟨u, g1, rfl⟩, ?_⟩)
      simp only [am_cat]
      by_cases h1 : j + 1 = i
      · have : ¬ u.category = 2 := fun z => g2 ⟨h1, z⟩
        simp [hj, this]
      · simp [hj, h1]
  · rw [if_neg hi] at e
    cases e
theorem am_st2_ok {ad : Nat → Nat} {nL : Nat} {ls ls' : am_L} {i : Nat} {v : Value} (hn : ls.length = nL) (e : am_st2 ls i v = some ls') :
    i + 1 < nL ∧ ∀ lsA' : Array Slot, lv_has lsA' nL ((i, am_cv ad v) :: (am_lv ad ls).filter (fun q => !(q.1 == i) && (!(q.1 == i + 1) && !(q.1 + 1 == i && q.2.category == 2)))) → am_fr ad lsA' nL ls' := by
  unfold am_st2 at e
  by_cases hi : i + 1 < ls.length
  · rw [if_pos hi] at e
    refine ⟨hn ▸ hi, fun lsA' h' => ?_⟩
    obtain ⟨-, hk⟩ := am_st1_ok (ad := ad) (nL := nL) (by simpa using hn) e
    refine hk lsA' (h'.mono fun q hq => ?_)
    rcases List.mem_cons.mp hq with rfl | hq
    · exact List.mem_cons_self
    · obtain ⟨h1, h2⟩ := List.mem_filter.mp hq
      refine List.mem_cons_of_mem _ (List.mem_filter.mpr ?_)
      obtain ⟨j, w⟩ := q
      obtain ⟨u, hu, rfl⟩ := am_lv_mem.mp h1
      by_cases hj : j = i + 1
      · subst hj
        rw [List.getElem?_set_self hi] at hu
        cases hu
      · rw [List.getElem?_set_ne (Ne.symm hj)] at hu
        refine ⟨am_lv_mem.mpr ⟨u, hu, rfl⟩, ?_⟩
        simp only [Bool.and_eq_true] at h2 ⊢
        exact ⟨h2.1, by simp [hj], h2.2⟩
  · rw [if_neg hi] at e
    cases e
