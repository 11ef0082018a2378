/-! ## soundness: frames and branches -/
theorem am_ii_ok {f : Int32 → Int32 → Int32} {ls ls' : am_L} {st st' : List Value} (e : am_ii f ls st = some (ls', st')) : ∃ x y r, st = .int y :: .int x :: r ∧ ls' = ls ∧ st' = .int (f x y) :: r := by
  unfold am_ii at e
  split at e
  · cases e; exact ⟨_, _, _, rfl, rfl, rfl⟩
  · cases e
theorem am_ll_ok {f : Int64 → Int64 → Int64} {ls ls' : am_L} {st st' : List Value} (e : am_ll f ls st = some (ls', st')) : ∃ x y r, st = .long y :: .long x :: r ∧ ls' = ls ∧ st' = .long (f x y) :: r := by
  unfold am_ll at e
  split at e
  · cases e; exact ⟨_, _, _, rfl, rfl, rfl⟩
  · cases e
theorem am_li_ok {f : Int64 → Int32 → Int64} {ls ls' : am_L} {st st' : List Value} (e : am_li f ls st = some (ls', st')) : ∃ x y r, st = .int y :: .long x :: r ∧ ls' = ls ∧ st' = .long (f x y) :: r := by
  unfold am_li at e
  split at e
  · cases e; exact ⟨_, _, _, rfl, rfl, rfl⟩
  · cases e
theorem am_lI_ok {i : Nat} {ls ls' : am_L} {st st' : List Value} (e : am_lI ls i st = some (ls', st')) : ∃ x, ls[i]? = some (some (.int x)) ∧ ls' = ls ∧ st' = .int x :: st := by
  unfold am_lI at e
  split at e
  · cases e; exact ⟨_, by assumption, rfl, rfl⟩
  · cases e
theorem am_lL_ok {i : Nat} {ls ls' : am_L} {st st' : List Value} (e : am_lL ls i st = some (ls', st')) : ∃ x, ls[i]? = some (some (.long x)) ∧ ls' = ls ∧ st' = .long x :: st := by
  unfold am_lL at e
  split at e
  · cases e; exact ⟨_, by assumption, rfl, rfl⟩
  · cases e
theorem am_lA_ok {i : Nat} {ls ls' : am_L} {st st' : List Value} (e : am_lA ls i st = some (ls', st')) : ∃ x, ls[i]? = some (some (.ref x)) ∧ ls' = ls ∧ st' = .ref x :: st := by
  unfold am_lA at e
  split at e
  · cases e; exact ⟨_, by assumption, rfl, rfl⟩
  · cases e
theorem am_sti_ok {i : Nat} {ls ls' : am_L} {st st' : List Value} (e : am_sti ls i st = some (ls', st')) : ∃ x, st = .int x :: st' ∧ am_st1 ls i (.int x) = some ls' := by
  unfold am_sti at e
  split at e
  · rename_i x r
    cases h : am_st1 ls i (.int x) with
    | none => rw [h] at e; cases e
    | some l => rw [h] at e; cases e; exact ⟨_, rfl, h⟩
  · cases e
theorem am_sta_ok {i : Nat} {ls ls' : am_L} {st st' : List Value} (e : am_sta ls i st = some (ls', st')) : ∃ x, st = .ref x :: st' ∧ am_st1 ls i (.ref x) = some ls' := by
  unfold am_sta at e
  split at e
  · rename_i x r
    cases h : am_st1 ls i (.ref x) with
    | none => rw [h] at e; cases e
    | some l => rw [h] at e; cases e; exact ⟨_, rfl, h⟩
  · cases e
theorem am_stl_ok {i : Nat} {ls ls' : am_L} {st st' : List Value} (e : am_stl ls i st = some (ls', st')) : ∃ x, st = .long x :: st' ∧ am_st2 ls i (.long x) = some ls' := by
  unfold am_stl at e
  split at e
  · rename_i x r
    cases h : am_st2 ls i (.long x) with
    | none => rw [h] at e; cases e
    | some l => rw [h] at e; cases e; exact ⟨_, rfl, h⟩
  · cases e
theorem am_inc_ok {i : Nat} {K : Value} {ls ls' : am_L} {st st' : List Value} (e : am_inc ls i K st = some (ls', st')) : ∃ x c, ls[i]? = some (some (.int x)) ∧ K = .int c ∧ st' = st ∧ am_st1 ls i (.int (x + c)) = some ls' := by
  unfold am_inc at e
  split at e
  · rename_i x c hx
    cases h : am_st1 ls i (.int (x + c)) with
    | none => rw [h] at e; cases e
    | some l => rw [h] at e; cases e; exact ⟨_, _, hx, rfl, rfl, h⟩
  · cases e
/-- a branch doesn't lead ahead of the method's begin -/
def am_ckb (pc : Nat) (i : am_I) : Bool := match i.1 with
  | .ifCond _ o => decide (0 ≤ (pc : Int) + o)
  | .if_icmp _ o => decide (0 ≤ (pc : Int) + o)
  | _ => true
section AMS
variable {p : Program} {l : Launch} {e : Env} {R : Room} {s : State} {m : MethodId} {args : Array Value} {below : List Frame} {meth : Method} {c : Code} {H : Heap} {locs : List Loc} {cells slots : Nat} {Q : State → Prop}
variable {cc : ByteArray} {pc nL : Nat} {own : String} {ini : Bool} {ad : Nat → Nat} {lsA : Array Slot} {ls ls' : am_L} {st st' : List Value}
set_option maxHeartbeats 4000000 in
theorem am_p_snd (hx : p.tables.exec = Jvm.exec) (hb : c.code = cc) (hown : s.vm.findClass own = some m.cls) (hts : ∀ w ∈ am_tb, w.before args s = true) (hstr : ∀ q ∈ am_S, vk_R q.1 q.2.1 (am_txt q.2.2) (ad (am_SB + q.2.2)) s)
    {i : am_I} (hdg : decode cc pc = .ok (i.1, i.2.1)) (hln : i.2.1 = am_ln i.1) (hck : am_ck own ini i = true) (hfr : am_fr ad lsA nL ls) (ee : am_p i ls st = some (ls', st'))
    (kk : ∀ lsA', am_fr ad lsA' nL ls' → W p l e R s m args below meth c H locs cells slots Q (F0 m (pc + i.2.1) lsA' (st'.map (am_cv ad)))) :
    W p l e R s m args below meth c H locs cells slots Q (F0 m pc lsA (st.map (am_cv ad))) := by
  obtain ⟨ins, len, x, y, hint, K⟩ := i
  simp only at hdg hln kk
  cases ins

  case iconst n =>
    have hlen : len = am_ln (.iconst n) := hln
    simp only [am_ln] at hlen
    subst hlen
    cases K with
    | int v =>
      cases ee
      exact lv_iconst hx hb hdg (of_decide_eq_true hck) (kk lsA hfr)
    | _ => simp [am_ck] at hck
  case bipush n =>
    have hlen : len = am_ln (.bipush n) := hln
    simp only [am_ln] at hlen
    subst hlen
    cases K with
    | int v =>
      cases ee
      exact lv_bipush hx hb hdg (of_decide_eq_true hck) (kk lsA hfr)
    | _ => simp [am_ck] at hck
  case sipush n =>
    have hlen : len = am_ln (.sipush n) := hln
    simp only [am_ln] at hlen
    subst hlen
    cases K with
    | int v =>
      cases ee
      exact lv_sipush hx hb hdg (of_decide_eq_true hck) (kk lsA hfr)
    | _ => simp [am_ck] at hck
  case lconst n =>
    have hlen : len = am_ln (.lconst n) := hln
    simp only [am_ln] at hlen
    subst hlen
    cases K with
    | long v =>
      cases ee
      exact lv_lconst hx hb hdg (of_decide_eq_true hck) (kk lsA hfr)
    | _ => simp [am_ck] at hck
  case ldc n =>
    have hlen : len = am_ln (.ldc n) := hln
    simp only [am_ln] at hlen
    subst hlen
    cases K with
    | int v =>
      cases ee
      exact lv_ldc hx hb hown (hts _ (am_wd_mem hck)) hdg (kk lsA hfr)
    | ref a =>
      cases ee
      simp only [am_ck, Bool.and_eq_true, decide_eq_true_eq] at hck
      have h1 := hstr _ hck.2
      have h2 : am_SB + (a - am_SB) = a := by omega
      simp only [h2] at h1
      exact va_ldcS hx hb hown h1 hdg (kk lsA hfr)
    | _ => simp [am_ck] at hck
  case ldc_w n =>
    have hlen : len = am_ln (.ldc_w n) := hln
    simp only [am_ln] at hlen
    subst hlen
    cases K with
    | int v =>
      cases ee
      exact lv_ldcw hx hb hown (hts _ (am_wd_mem hck)) hdg (kk lsA hfr)
    | _ => simp [am_ck] at hck
  case ldc2_w n =>
    have hlen : len = am_ln (.ldc2_w n) := hln
    simp only [am_ln] at hlen
    subst hlen
    cases K with
    | long v =>
      cases ee
      exact lv_ldc2 hx hb hown (hts _ (am_wd_mem hck)) hdg (kk lsA hfr)
    | _ => simp [am_ck] at hck
  case iload_n n =>
    have hlen : len = am_ln (.iload_n n) := hln
    simp only [am_ln] at hlen
    subst hlen
    obtain ⟨z, h1, rfl, rfl⟩ := am_lI_ok (show am_lI ls n st = some (ls', st') from ee)
    exact lv_iload_n hx hb hdg rfl (hfr.at h1) (kk lsA hfr)
  case iload n =>
    have hlen : len = am_ln (.iload n) := hln
    simp only [am_ln] at hlen
    subst hlen
    obtain ⟨z, h1, rfl, rfl⟩ := am_lI_ok (show am_lI ls n st = some (ls', st') from ee)
    exact lv_iload hx hb hdg (hfr.at h1) (kk lsA hfr)
  case lload_n n =>
    have hlen : len = am_ln (.lload_n n) := hln
    simp only [am_ln] at hlen
    subst hlen
    obtain ⟨z, h1, rfl, rfl⟩ := am_lL_ok (show am_lL ls n st = some (ls', st') from ee)
    exact lv_lload_n hx hb hdg rfl (hfr.at h1) (kk lsA hfr)
  case lload n =>
    have hlen : len = am_ln (.lload n) := hln
    simp only [am_ln] at hlen
    subst hlen
    obtain ⟨z, h1, rfl, rfl⟩ := am_lL_ok (show am_lL ls n st = some (ls', st') from ee)
    exact lv_lload hx hb hdg (hfr.at h1) (kk lsA hfr)
  case aload_n n =>
    have hlen : len = am_ln (.aload_n n) := hln
    simp only [am_ln] at hlen
    subst hlen
    obtain ⟨z, h1, rfl, rfl⟩ := am_lA_ok (show am_lA ls n st = some (ls', st') from ee)
    exact lv_aload_n hx hb hdg rfl (hfr.at h1) (kk lsA hfr)
  case aload n =>
    have hlen : len = am_ln (.aload n) := hln
    simp only [am_ln] at hlen
    subst hlen
    obtain ⟨z, h1, rfl, rfl⟩ := am_lA_ok (show am_lA ls n st = some (ls', st') from ee)
    exact lv_aload hx hb hdg (hfr.at h1) (kk lsA hfr)
  case istore_n n =>
    have hlen : len = am_ln (.istore_n n) := hln
    simp only [am_ln] at hlen
    subst hlen
    obtain ⟨z, rfl, h1⟩ := am_sti_ok (show am_sti ls n st = some (ls', st') from ee)
    obtain ⟨h2, h3⟩ := am_st1_ok (ad := ad) hfr.1 h1
    exact lv_istore_n hx hb hdg rfl hfr.2 h2 rfl (fun lsB hB => kk lsB (h3 lsB hB))
  case istore n =>
    have hlen : len = am_ln (.istore n) := hln
    simp only [am_ln] at hlen
    subst hlen
    obtain ⟨z, rfl, h1⟩ := am_sti_ok (show am_sti ls n st = some (ls', st') from ee)
    obtain ⟨h2, h3⟩ := am_st1_ok (ad := ad) hfr.1 h1
    exact lv_istore hx hb hdg hfr.2 h2 rfl (fun lsB hB => kk lsB (h3 lsB hB))
  case lstore_n n =>
    have hlen : len = am_ln (.lstore_n n) := hln
    simp only [am_ln] at hlen
    subst hlen
    obtain ⟨z, rfl, h1⟩ := am_stl_ok (show am_stl ls n st = some (ls', st') from ee)
    obtain ⟨h2, h3⟩ := am_st2_ok (ad := ad) hfr.1 h1
    exact lv_lstore_n hx hb hdg rfl hfr.2 h2 rfl (fun lsB hB => kk lsB (h3 lsB hB))
  case lstore n =>
    have hlen : len = am_ln (.lstore n) := hln
    simp only [am_ln] at hlen
    subst hlen
    obtain ⟨z, rfl, h1⟩ := am_stl_ok (show am_stl ls n st = some (ls', st') from ee)
    obtain ⟨h2, h3⟩ := am_st2_ok (ad := ad) hfr.1 h1
    exact lv_lstore hx hb hdg hfr.2 h2 rfl (fun lsB hB => kk lsB (h3 lsB hB))
  case astore_n n =>
    have hlen : len = am_ln (.astore_n n) := hln
    simp only [am_ln] at hlen
    subst hlen
    obtain ⟨z, rfl, h1⟩ := am_sta_ok (show am_sta ls n st = some (ls', st') from ee)
    obtain ⟨h2, h3⟩ := am_st1_ok (ad := ad) hfr.1 h1
    exact lv_astore_n hx hb hdg rfl hfr.2 h2 rfl (fun lsB hB => kk lsB (h3 lsB hB))
  case astore n =>
    have hlen : len = am_ln (.astore n) := hln
    simp only [am_ln] at hlen
    subst hlen
    obtain ⟨z, rfl, h1⟩ := am_sta_ok (show am_sta ls n st = some (ls', st') from ee)
    obtain ⟨h2, h3⟩ := am_st1_ok (ad := ad) hfr.1 h1
    exact lv_astore hx hb hdg hfr.2 h2 rfl (fun lsB hB => kk lsB (h3 lsB hB))
  case iinc n q =>
    have hlen : len = am_ln (.iinc n q) := hln
    simp only [am_ln] at hlen
    subst hlen
    obtain ⟨z, cst, h0, rfl, rfl, h1⟩ := am_inc_ok (show am_inc ls n K st = some (ls', st') from ee)
    obtain ⟨h2, h3⟩ := am_st1_ok (ad := ad) hfr.1 h1
    have hm : (n, am_cv ad (.int z)) ∈ am_lv ad ls := am_lv_mem.mpr ⟨_, h0, rfl⟩
    obtain ⟨k, hk⟩ := List.getElem?_of_mem hm
    have hcst : Int32.ofInt q = cst := of_decide_eq_true hck
    exact lv_iinc (x := z) hx hb hdg hfr.2 hk (by rw [hcst]) h2 rfl (fun lsB hB => kk lsB (h3 lsB hB))
  case iadd =>
    have hlen : len = am_ln .iadd := hln
    simp only [am_ln] at hlen
    subst hlen
    obtain ⟨a, b, r, rfl, rfl, rfl⟩ := am_ii_ok (show am_ii (fun x y => x + y) ls st = some (ls', st') from ee)
    exact lv_iadd hx hb hdg (kk lsA hfr)
  case isub =>
    have hlen : len = am_ln .isub := hln
    simp only [am_ln] at hlen
    subst hlen
    obtain ⟨a, b, r, rfl, rfl, rfl⟩ := am_ii_ok (show am_ii (fun x y => x - y) ls st = some (ls', st') from ee)
    exact lv_isub hx hb hdg (kk lsA hfr)
  case imul =>
    have hlen : len = am_ln .imul := hln
    simp only [am_ln] at hlen
    subst hlen
    obtain ⟨a, b, r, rfl, rfl, rfl⟩ := am_ii_ok (show am_ii (fun x y => x * y) ls st = some (ls', st') from ee)
    exact lv_imul hx hb hdg (kk lsA hfr)
  case iand =>
    have hlen : len = am_ln .iand := hln
    simp only [am_ln] at hlen
    subst hlen
    obtain ⟨a, b, r, rfl, rfl, rfl⟩ := am_ii_ok (show am_ii (fun x y => x &&& y) ls st = some (ls', st') from ee)
    exact lv_iand hx hb hdg (kk lsA hfr)
  case ior =>
    have hlen : len = am_ln .ior := hln
    simp only [am_ln] at hlen
    subst hlen
    obtain ⟨a, b, r, rfl, rfl, rfl⟩ := am_ii_ok (show am_ii (fun x y => x ||| y) ls st = some (ls', st') from ee)
    exact lv_ior hx hb hdg (kk lsA hfr)
  case ixor =>
    have hlen : len = am_ln .ixor := hln
    simp only [am_ln] at hlen
    subst hlen
    obtain ⟨a, b, r, rfl, rfl, rfl⟩ := am_ii_ok (show am_ii (fun x y => x ^^^ y) ls st = some (ls', st') from ee)
    exact lv_ixor hx hb hdg (kk lsA hfr)
  case ishl =>
    have hlen : len = am_ln .ishl := hln
    simp only [am_ln] at hlen
    subst hlen
    obtain ⟨a, b, r, rfl, rfl, rfl⟩ := am_ii_ok (show am_ii (fun x y => x <<< (y &&& 31)) ls st = some (ls', st') from ee)
    exact lv_ishl hx hb hdg (kk lsA hfr)
  case ishr =>
    have hlen : len = am_ln .ishr := hln
    simp only [am_ln] at hlen
    subst hlen
    obtain ⟨a, b, r, rfl, rfl, rfl⟩ := am_ii_ok (show am_ii (fun x y => x >>> (y &&& 31)) ls st = some (ls', st') from ee)
    exact lv_ishr hx hb hdg (kk lsA hfr)
  case iushr =>
    have hlen : len = am_ln .iushr := hln
    simp only [am_ln] at hlen
    subst hlen
    obtain ⟨a, b, r, rfl, rfl, rfl⟩ := am_ii_ok (show am_ii (fun x y => (x.toUInt32 >>> (y.toUInt32 &&& Int32.toUInt32 31)).toInt32) ls st = some (ls', st') from ee)
    exact lv_iushr hx hb hdg rfl (kk lsA hfr)
  case ladd =>
    have hlen : len = am_ln .ladd := hln
    simp only [am_ln] at hlen
    subst hlen
    obtain ⟨a, b, r, rfl, rfl, rfl⟩ := am_ll_ok (show am_ll (fun x y => x + y) ls st = some (ls', st') from ee)
    exact lv_ladd hx hb hdg (kk lsA hfr)
  case lsub =>
    have hlen : len = am_ln .lsub := hln
    simp only [am_ln] at hlen
    subst hlen
    obtain ⟨a, b, r, rfl, rfl, rfl⟩ := am_ll_ok (show am_ll (fun x y => x - y) ls st = some (ls', st') from ee)
    exact lv_lsub hx hb hdg (kk lsA hfr)
  case lmul =>
    have hlen : len = am_ln .lmul := hln
    simp only [am_ln] at hlen
    subst hlen
    obtain ⟨a, b, r, rfl, rfl, rfl⟩ := am_ll_ok (show am_ll (fun x y => x * y) ls st = some (ls', st') from ee)
    exact lv_lmul hx hb hdg (kk lsA hfr)
  case land =>
    have hlen : len = am_ln .land := hln
    simp only [am_ln] at hlen
    subst hlen
    obtain ⟨a, b, r, rfl, rfl, rfl⟩ := am_ll_ok (show am_ll (fun x y => x &&& y) ls st = some (ls', st') from ee)
    exact lv_land hx hb hdg (kk lsA hfr)
  case lor =>
    have hlen : len = am_ln .lor := hln
    simp only [am_ln] at hlen
    subst hlen
    obtain ⟨a, b, r, rfl, rfl, rfl⟩ := am_ll_ok (show am_ll (fun x y => x ||| y) ls st = some (ls', st') from ee)
    exact lv_lor hx hb hdg (kk lsA hfr)
  case lshl =>
    have hlen : len = am_ln .lshl := hln
    simp only [am_ln] at hlen
    subst hlen
    obtain ⟨a, b, r, rfl, rfl, rfl⟩ := am_li_ok (show am_li (fun x y => x <<< (y.toInt64 &&& 63)) ls st = some (ls', st') from ee)
    exact lv_lshl hx hb hdg rfl (kk lsA hfr)
  case lshr =>
    have hlen : len = am_ln .lshr := hln
    simp only [am_ln] at hlen
    subst hlen
    obtain ⟨a, b, r, rfl, rfl, rfl⟩ := am_li_ok (show am_li (fun x y => x >>> (y.toInt64 &&& 63)) ls st = some (ls', st') from ee)
    exact lv_lshr hx hb hdg rfl (kk lsA hfr)
  case lushr =>
    have hlen : len = am_ln .lushr := hln
    simp only [am_ln] at hlen
    subst hlen
    obtain ⟨a, b, r, rfl, rfl, rfl⟩ := am_li_ok (show am_li (fun x y => (x.toUInt64 >>> (y.toInt64.toUInt64 &&& Int64.toUInt64 63)).toInt64) ls st = some (ls', st') from ee)
    exact lv_lushr hx hb hdg rfl (kk lsA hfr)
  case ineg =>
    have hlen : len = am_ln .ineg := hln
    simp only [am_ln] at hlen
    subst hlen
    simp only [am_p] at ee
    split at ee
    · cases ee
      exact lv_ineg hx hb hdg (kk lsA hfr)
    · cases ee
  case i2l =>
    have hlen : len = am_ln .i2l := hln
    simp only [am_ln] at hlen
    subst hlen
    simp only [am_p] at ee
    split at ee
    · cases ee
      exact lv_i2l hx hb hdg rfl (kk lsA hfr)
    · cases ee
  case l2i =>
    have hlen : len = am_ln .l2i := hln
    simp only [am_ln] at hlen
    subst hlen
    simp only [am_p] at ee
    split at ee
    · cases ee
      exact lv_l2i hx hb hdg rfl (kk lsA hfr)
    · cases ee
  case i2b =>
    have hlen : len = am_ln .i2b := hln
    simp only [am_ln] at hlen
    subst hlen
    simp only [am_p] at ee
    split at ee
    · cases ee
      exact lv_i2b hx hb hdg rfl (kk lsA hfr)
    · cases ee
  case lcmp =>
    have hlen : len = am_ln .lcmp := hln
    simp only [am_ln] at hlen
    subst hlen
    simp only [am_p] at ee
    split at ee
    · cases ee
      exact W.lcmp hx hb hdg (kk lsA hfr)
    · cases ee
  case pop =>
    have hlen : len = am_ln .pop := hln
    simp only [am_ln] at hlen
    subst hlen
    simp only [am_p] at ee
    split at ee
    · cases ee
      exact lv_pop hx hb hdg rfl (kk lsA hfr)
    · cases ee
  case dup =>
    have hlen : len = am_ln .dup := hln
    simp only [am_ln] at hlen
    subst hlen
    simp only [am_p, am_dup] at ee
    split at ee
    · cases ee
      exact lv_dup hx hb hdg rfl (kk lsA hfr)
    · cases ee
      exact lv_dup hx hb hdg rfl (kk lsA hfr)
    · cases ee
  case dup2 =>
    have hlen : len = am_ln .dup2 := hln
    simp only [am_ln] at hlen
    subst hlen
    simp only [am_p, am_dup2] at ee
    split at ee
    · cases ee
      exact lv_dup2_11 hx hb hdg rfl rfl (kk lsA hfr)
    · cases ee
  all_goals (exact absurd ee (by simp [am_p]))
set_option maxHeartbeats 4000000 in
theorem am_b_snd (hx : p.tables.exec = Jvm.exec) (hb : c.code = cc)
    {i : am_I} (hdg : decode cc pc = .ok (i.1, i.2.1)) (hln : am_isSw i.1 = false → i.2.1 = am_ln i.1) (hok : am_ckb pc i = true) {off : Int} {tgt : Nat} (ee : am_b i st = some (off, st')) (ht : (pc : Int) + off = (tgt : Int))
    (kk : W p l e R s m args below meth c H locs cells slots Q (F0 m tgt lsA (st'.map (am_cv ad)))) :
    W p l e R s m args below meth c H locs cells slots Q (F0 m pc lsA (st.map (am_cv ad))) := by
  obtain ⟨ins, len, x, y, hint, K⟩ := i
  simp only at hdg hln
  have h3 : ∀ t : Nat, (pc : Int) + 3 = (t : Int) → t = pc + 3 := fun t h => by omega
  cases ins
  case goto o =>
    have hlen : len = 3 := hln rfl
    subst hlen
    simp only [am_b] at ee
    cases ee
    exact lv_goto hx hb hdg ht kk

  case ifCond cd o =>
    have hlen : len = 3 := hln rfl
    subst hlen
    have hof : 0 ≤ (pc : Int) + o := of_decide_eq_true hok
    have hto : (pc : Int) + o = (((pc : Int) + o).toNat : Int) := by omega
    simp only [am_b, am_br1] at ee
    split at ee
    · cases cd
      case eq =>
        simp only [am_bb1] at ee
        split at ee
        · rename_i hc
          cases ee
          exact lv_if_eq hx hb hdg ht (fun _ => kk) (fun z => by first | exact absurd hc z | exact absurd z hc)
        · rename_i hc
          cases ee
          cases h3 tgt ht
          exact lv_if_eq hx hb hdg hto (fun z => absurd z hc) (fun _ => kk)
      case ne =>
        simp only [am_bb1] at ee
        split at ee
        · rename_i hc
          cases ee
          exact lv_if_ne hx hb hdg ht (fun _ => kk) (fun z => by first | exact absurd hc z | exact absurd z hc)
        · rename_i hc
          cases ee
          cases h3 tgt ht
          exact lv_if_ne hx hb hdg hto (fun z => absurd z hc) (fun _ => kk)
      case lt =>
        simp only [am_bb1] at ee
        split at ee
        · rename_i hc
          cases ee
          exact lv_if_lt hx hb hdg ht (fun _ => kk) (fun z => by first | exact absurd hc z | exact absurd z hc)
        · rename_i hc
          cases ee
          cases h3 tgt ht
          exact lv_if_lt hx hb hdg hto (fun z => absurd z hc) (fun _ => kk)
      case ge =>
        simp only [am_bb1] at ee
        split at ee
        · rename_i hc
          cases ee
          exact lv_if_ge hx hb hdg ht (fun _ => kk) (fun z => by first | exact absurd hc z | exact absurd z hc)
        · rename_i hc
          cases ee
          cases h3 tgt ht
          exact lv_if_ge hx hb hdg hto (fun z => absurd z hc) (fun _ => kk)
      case gt =>
        simp only [am_bb1] at ee
        split at ee
        · rename_i hc
          cases ee
          exact lv_if_gt hx hb hdg ht (fun _ => kk) (fun z => by first | exact absurd hc z | exact absurd z hc)
        · rename_i hc
          cases ee
          cases h3 tgt ht
          exact lv_if_gt hx hb hdg hto (fun z => absurd z hc) (fun _ => kk)
      case le =>
        simp only [am_bb1] at ee
        split at ee
        · rename_i hc
          cases ee
          exact lv_if_le hx hb hdg ht (fun _ => kk) (fun z => by first | exact absurd hc z | exact absurd z hc)
        · rename_i hc
          cases ee
          cases h3 tgt ht
          exact lv_if_le hx hb hdg hto (fun z => absurd z hc) (fun _ => kk)
    · cases ee
  case if_icmp cd o =>
    have hlen : len = 3 := hln rfl
    subst hlen
    have hof : 0 ≤ (pc : Int) + o := of_decide_eq_true hok
    have hto : (pc : Int) + o = (((pc : Int) + o).toNat : Int) := by omega
    simp only [am_b, am_br2] at ee
    split at ee
    · cases cd
      case eq =>
        simp only [am_bb2] at ee
        split at ee
        · rename_i hc
          cases ee
          exact lv_icmp_eq hx hb hdg ht (fun _ => kk) (fun z => by first | exact absurd hc z | exact absurd z hc)
        · rename_i hc
          cases ee
          cases h3 tgt ht
          exact lv_icmp_eq hx hb hdg hto (fun z => absurd z hc) (fun _ => kk)
      case ne =>
        simp only [am_bb2] at ee
        split at ee
        · rename_i hc
          cases ee
          exact lv_icmp_ne hx hb hdg ht (fun _ => kk) (fun z => by first | exact absurd hc z | exact absurd z hc)
        · rename_i hc
          cases ee
          cases h3 tgt ht
          exact lv_icmp_ne hx hb hdg hto (fun z => absurd z hc) (fun _ => kk)
      case lt =>
        simp only [am_bb2] at ee
        split at ee
        · rename_i hc
          cases ee
          exact lv_icmp_lt hx hb hdg ht (fun _ => kk) (fun z => by first | exact absurd hc z | exact absurd z hc)
        · rename_i hc
          cases ee
          cases h3 tgt ht
          exact lv_icmp_lt hx hb hdg hto (fun z => absurd z hc) (fun _ => kk)
      case ge =>
        simp only [am_bb2] at ee
        split at ee
        · rename_i hc
          cases ee
          exact lv_icmp_ge hx hb hdg ht (fun _ => kk) (fun z => by first | exact absurd hc z | exact absurd z hc)
        · rename_i hc
          cases ee
          cases h3 tgt ht
          exact lv_icmp_ge hx hb hdg hto (fun z => absurd z hc) (fun _ => kk)
      case gt =>
        simp only [am_bb2] at ee
        split at ee
        · rename_i hc
          cases ee
          exact lv_icmp_gt hx hb hdg ht (fun _ => kk) (fun z => by first | exact absurd hc z | exact absurd z hc)
        · rename_i hc
          cases ee
          cases h3 tgt ht
          exact lv_icmp_gt hx hb hdg hto (fun z => absurd z hc) (fun _ => kk)
      case le =>
        simp only [am_bb2] at ee
        split at ee
        · rename_i hc
          cases ee
          exact lv_icmp_le hx hb hdg ht (fun _ => kk) (fun z => by first | exact absurd hc z | exact absurd z hc)
        · rename_i hc
          cases ee
          cases h3 tgt ht
          exact lv_icmp_le hx hb hdg hto (fun z => absurd z hc) (fun _ => kk)
    · cases ee
  case tableswitch dflt lo hi offs =>
    simp only [am_b, am_br3] at ee
    split at ee
    · split at ee
      · rename_i hc
        cases ee
        exact lv_tableOut hx hb hdg hc ht kk
      · rename_i z r hc
        rw [not_or] at hc
        cases ho : offs[(z.toInt - lo).toNat]? with
        | none => rw [ho] at ee; cases ee
        | some o =>
          rw [ho] at ee
          cases ee
          exact lv_tableIn hx hb hdg hc.1 hc.2 ho ht kk
    · cases ee
  all_goals (exact absurd ee (by simp [am_b]))
end AMS
