/-! what makes no cells: all but the constructors -/
def am_eqh (h h' : am_H) : Prop := h'.length = h.length ∧ am_sl h' = am_sl h
theorem am_eqh.rf {h : am_H} : am_eqh h h := ⟨rfl, rfl⟩
theorem am_eqh.tr {a b c : am_H} (h : am_eqh a b) (g : am_eqh b c) : am_eqh a c := ⟨g.1.trans h.1, g.2.trans h.2⟩
def am_naI (i : am_I) : Bool := match i.1 with
  | .new _ => false
  | .newarray _ => false
  | .anewarray _ => false
  | _ => true
def am_naS (m : Nat) : Bool := match am_T m with
  | some q => !(Nat.beq q.2.2.2.2.1 2)
  | none => !(Nat.beq m 903)
def am_naB (z : Nat × am_I) : Bool := am_naI z.2 && (match am_inv z.2 with
  | some q => am_naS q.1
  | none => true)
theorem am_at_mm : ∀ (l : List (Nat × am_I)) (pc : Nat) (i : am_I), am_at l pc = some i → (pc, i) ∈ l
  | [], pc, i, h => by cases h
  | q :: l, pc, i, h => by
    unfold am_at at h
    cases hb : Nat.beq q.1 pc with
    | true =>
      rw [hb] at h
      have e := Nat.eq_of_beq_eq_true hb
      cases h
      rw [← e]
      exact List.mem_cons_self
    | false =>
      rw [hb] at h
      exact List.mem_cons_of_mem _ (am_at_mm l pc i h)
theorem am_h_eq {sc : Nat × (Nat → Int32)} {i : am_I} {st st' : List Value} {h h' : am_H} (hn : am_naI i = true) (ee : am_h sc i st h = some (st', h')) : am_eqh h h' := by
  have fin0 : h' = h → am_eqh h h' := fun z => by subst z; exact am_eqh.rf
  have finS : ∀ (a : Nat) (e0 e1 : va_E), h[a]? = some e0 → h' = h.set a e1 → am_slE e1 = am_slE e0 → am_eqh h h' := fun a e0 e1 g1 g3 g2 => by
    subst g3
    exact ⟨by simp, am_sl_set g1 g2⟩
  unfold am_h at ee
  split at ee
  · split at ee <;> cases ee
    exact fin0 rfl
  · split at ee <;> cases ee
    exact fin0 rfl
  · split at ee <;> cases ee
    exact fin0 rfl
  · split at ee <;> cases ee
    exact fin0 rfl
  · obtain ⟨v, -, hv⟩ := Option.map_eq_some_iff.mp ee
    cases hv
    exact fin0 rfl
  · obtain ⟨v, hg, hv⟩ := Option.map_eq_some_iff.mp ee
    cases hv
    obtain ⟨fs, h1, h2, h3, h4⟩ := am_pF_ok hg
    exact finS _ _ _ h1 h4 rfl
  · split at ee
    · cases ee
      exact fin0 rfl
    · split at ee <;> cases ee
      exact fin0 rfl
  · obtain ⟨v, -, hv⟩ := Option.map_eq_some_iff.mp ee
    cases hv
    exact fin0 rfl
  · obtain ⟨v, -, hv⟩ := Option.map_eq_some_iff.mp ee
    cases hv
    exact fin0 rfl
  · obtain ⟨v, -, hv⟩ := Option.map_eq_some_iff.mp ee
    cases hv
    exact fin0 rfl
  · obtain ⟨v, hg, hv⟩ := Option.map_eq_some_iff.mp ee
    cases hv
    obtain ⟨n, f, h1, -, h4⟩ := am_sI_ok hg
    exact finS _ _ _ h1 h4 rfl
  · obtain ⟨v, hg, hv⟩ := Option.map_eq_some_iff.mp ee
    cases hv
    obtain ⟨n, f, h1, -, h4⟩ := am_sI_ok hg
    exact finS _ _ _ h1 h4 rfl
  · obtain ⟨v, hg, hv⟩ := Option.map_eq_some_iff.mp ee
    cases hv
    obtain ⟨n, f, h1, -, h4⟩ := am_sL_ok hg
    exact finS _ _ _ h1 h4 rfl
  · obtain ⟨v, hg, hv⟩ := Option.map_eq_some_iff.mp ee
    cases hv
    obtain ⟨t, ci, n, f, vs, h1, -, -, -, h4⟩ := am_sR_ok hg
    exact finS _ _ _ h1 h4 rfl
  · split at ee
    · cases ee
      exact fin0 rfl
    · split at ee <;> cases ee
      exact fin0 rfl
  · cases hn
  · cases hn
  · cases hn
  · split at ee
    · cases ee
      exact fin0 rfl
    · cases ee
  · split at ee
    · obtain ⟨v, hg, hv⟩ := Option.map_eq_some_iff.mp ee
      cases hv
      obtain ⟨n0, n1, f, g, -, h1, -, -, -, -, -, h4⟩ := am_cp_ok hg
      exact finS _ _ _ h1 h4 rfl
    · cases ee
  · cases ee
theorem am_rch_eq {sc : Nat × (Nat → Int32)} {C : am_C} {cd : Nat → Option am_I} (hc : ∀ pc i, cd pc = some i → am_naB (pc, i) = true) (hC : ∀ m As h v h', am_naS m = true → C m As h v h' → am_eqh h h') : ∀ {n : Nat} {s t : am_F × am_H}, am_rch sc C cd n s t → am_eqh s.2 t.2
  | 0, s, t, e => by cases e; exact am_eqh.rf
  | n + 1, s, t, ⟨u, h1, h2⟩ => by
    refine am_eqh.tr ?_ (am_rch_eq hc hC h2)
    rcases h1 with e | ⟨ls', -, rfl⟩ | ⟨i, mm, k, As', rest, v', h'', g1, g2, -, -, -, g8, rfl⟩
    · obtain ⟨fu, hu⟩ := u
      unfold am_s1 at e
      split at e
      · cases e
      · rename_i i hi
        have hb := hc _ _ hi
        unfold am_naB at hb
        rw [Bool.and_eq_true] at hb
        split at e
        · cases e; exact am_eqh.rf
        · split at e
          · split at e
            · cases e; exact am_eqh.rf
            · cases e
          · split at e
            · rename_i q hq
              obtain ⟨st', h1⟩ := q
              cases e
              exact am_h_eq hb.1 hq
            · cases e
    · exact am_eqh.rf
    · have hb := hc _ _ g1
      unfold am_naB at hb
      rw [Bool.and_eq_true] at hb
      have hb2 := hb.2
      rw [show ((s.1.1, i) : Nat × am_I).2 = i from rfl, g2] at hb2
      exact hC _ _ _ _ _ hb2 g8
def am_nq (q : am_Q) : Prop := q.2.2.2.2.1 ≠ 2 → ∀ pc i, q.2.2.2.2.2.2 pc = some i → am_naB (pc, i) = true
theorem am_nqk {l : List (Nat × am_I)} (h : l.all am_naB = true) : ∀ pc i, am_at l pc = some i → am_naB (pc, i) = true := fun pc i e => List.all_eq_true.mp h _ (am_at_mm l pc i e)
theorem nqX0_init : am_nq qX0_init := fun h => absurd rfl h
theorem nqX0_keep : am_nq qX0_keep := fun _ => am_nqk (l := kX0_keep) (by decide +kernel)
theorem nqX0_bringBack : am_nq qX0_bringBack := fun _ => am_nqk (l := kX0_bringBack) (by decide +kernel)
theorem nqX1_init : am_nq qX1_init := fun h => absurd rfl h
theorem nqX1_add : am_nq qX1_add := fun _ => am_nqk (l := kX1_add) (by decide +kernel)
theorem nqX1_readLevel : am_nq qX1_readLevel := fun _ => am_nqk (l := kX1_readLevel) (by decide +kernel)
theorem nqX1_operatorOf : am_nq qX1_operatorOf := fun _ => am_nqk (l := kX1_operatorOf) (by decide +kernel)
theorem nqX1_readPart : am_nq qX1_readPart := fun _ => am_nqk (l := kX1_readPart) (by decide +kernel)
theorem nqX1_factOf : am_nq qX1_factOf := fun _ => am_nqk (l := kX1_factOf) (by decide +kernel)
theorem nqX1_value : am_nq qX1_value := fun _ => am_nqk (l := kX1_value) (by decide +kernel)
theorem nqX1_joined : am_nq qX1_joined := fun _ => am_nqk (l := kX1_joined) (by decide +kernel)
theorem nqX2_init : am_nq qX2_init := fun h => absurd rfl h
theorem nqX2_lay : am_nq qX2_lay := fun _ => am_nqk (l := kX2_lay) (by decide +kernel)
theorem nqX3_init : am_nq qX3_init := fun h => absurd rfl h
theorem nqX3_add : am_nq qX3_add := fun _ => am_nqk (l := kX3_add) (by decide +kernel)
theorem nqX3_carryOut : am_nq qX3_carryOut := fun _ => am_nqk (l := kX3_carryOut) (by decide +kernel)
theorem nqX4_readVale : am_nq qX4_readVale := fun _ => am_nqk (l := kX4_readVale) (by decide +kernel)
theorem nqX4_readValeLine : am_nq qX4_readValeLine := fun _ => am_nqk (l := kX4_readValeLine) (by decide +kernel)
theorem nqX4_readHouse : am_nq qX4_readHouse := fun _ => am_nqk (l := kX4_readHouse) (by decide +kernel)
theorem nqX4_readLends : am_nq qX4_readLends := fun _ => am_nqk (l := kX4_readLends) (by decide +kernel)
theorem nqX4_readDay : am_nq qX4_readDay := fun _ => am_nqk (l := kX4_readDay) (by decide +kernel)
theorem nqX4_readClash : am_nq qX4_readClash := fun _ => am_nqk (l := kX4_readClash) (by decide +kernel)
theorem nqX4_readStays : am_nq qX4_readStays := fun _ => am_nqk (l := kX4_readStays) (by decide +kernel)
theorem nqX4_readFades : am_nq qX4_readFades := fun _ => am_nqk (l := kX4_readFades) (by decide +kernel)
theorem nqX4_readPlan : am_nq qX4_readPlan := fun _ => am_nqk (l := kX4_readPlan) (by decide +kernel)
theorem nqX4_readPlanLine : am_nq qX4_readPlanLine := fun _ => am_nqk (l := kX4_readPlanLine) (by decide +kernel)
theorem nqX4_lineAct : am_nq qX4_lineAct := fun _ => am_nqk (l := kX4_lineAct) (by decide +kernel)
theorem nqX4_passNewName : am_nq qX4_passNewName := fun _ => am_nqk (l := kX4_passNewName) (by decide +kernel)
theorem nqX4_passKind : am_nq qX4_passKind := fun _ => am_nqk (l := kX4_passKind) (by decide +kernel)
theorem nqX4_passHouse : am_nq qX4_passHouse := fun _ => am_nqk (l := kX4_passHouse) (by decide +kernel)
theorem nqX4_passDay : am_nq qX4_passDay := fun _ => am_nqk (l := kX4_passDay) (by decide +kernel)
theorem nqX4_passTold : am_nq qX4_passTold := fun _ => am_nqk (l := kX4_passTold) (by decide +kernel)
theorem nqX5_init : am_nq qX5_init := fun h => absurd rfl h
theorem nqX5_add : am_nq qX5_add := fun _ => am_nqk (l := kX5_add) (by decide +kernel)
theorem nqX5_copyFrom : am_nq qX5_copyFrom := fun _ => am_nqk (l := kX5_copyFrom) (by decide +kernel)
theorem nqX6_init : am_nq qX6_init := fun h => absurd rfl h
theorem nqX6_begin : am_nq qX6_begin := fun _ => am_nqk (l := kX6_begin) (by decide +kernel)
theorem nqX6_copyFrom : am_nq qX6_copyFrom := fun _ => am_nqk (l := kX6_copyFrom) (by decide +kernel)
theorem nqX6_passDate : am_nq qX6_passDate := fun _ => am_nqk (l := kX6_passDate) (by decide +kernel)
theorem nqX6_stayLonger : am_nq qX6_stayLonger := fun _ => am_nqk (l := kX6_stayLonger) (by decide +kernel)
theorem nqX6_leave : am_nq qX6_leave := fun _ => am_nqk (l := kX6_leave) (by decide +kernel)
theorem nqX6_flood : am_nq qX6_flood := fun _ => am_nqk (l := kX6_flood) (by decide +kernel)
theorem nqX6_isDue : am_nq qX6_isDue := fun _ => am_nqk (l := kX6_isDue) (by decide +kernel)
theorem nqX6_receive : am_nq qX6_receive := fun _ => am_nqk (l := kX6_receive) (by decide +kernel)
theorem nqX6_hostOf : am_nq qX6_hostOf := fun _ => am_nqk (l := kX6_hostOf) (by decide +kernel)
theorem nqX6_holds : am_nq qX6_holds := fun _ => am_nqk (l := kX6_holds) (by decide +kernel)
theorem nqX6_canShift : am_nq qX6_canShift := fun _ => am_nqk (l := kX6_canShift) (by decide +kernel)
theorem nqX6_shift : am_nq qX6_shift := fun _ => am_nqk (l := kX6_shift) (by decide +kernel)
theorem nqX6_freeBeds : am_nq qX6_freeBeds := fun _ => am_nqk (l := kX6_freeBeds) (by decide +kernel)
theorem nqX6_guests : am_nq qX6_guests := fun _ => am_nqk (l := kX6_guests) (by decide +kernel)
theorem nqX6_somewhere : am_nq qX6_somewhere := fun _ => am_nqk (l := kX6_somewhere) (by decide +kernel)
theorem nqX6_talk : am_nq qX6_talk := fun _ => am_nqk (l := kX6_talk) (by decide +kernel)
theorem nqX6_talkOfAll : am_nq qX6_talkOfAll := fun _ => am_nqk (l := kX6_talkOfAll) (by decide +kernel)
theorem nqX6_bedsOfAll : am_nq qX6_bedsOfAll := fun _ => am_nqk (l := kX6_bedsOfAll) (by decide +kernel)
theorem nqX6_faded : am_nq qX6_faded := fun _ => am_nqk (l := kX6_faded) (by decide +kernel)
theorem nqX7_init : am_nq qX7_init := fun h => absurd rfl h
theorem nqX7_add : am_nq qX7_add := fun _ => am_nqk (l := kX7_add) (by decide +kernel)
theorem nqX7_begin : am_nq qX7_begin := fun _ => am_nqk (l := kX7_begin) (by decide +kernel)
theorem nqX7_atEnd : am_nq qX7_atEnd := fun _ => am_nqk (l := kX7_atEnd) (by decide +kernel)
theorem nqX7_step : am_nq qX7_step := fun _ => am_nqk (l := kX7_step) (by decide +kernel)
theorem nqX7_scanWord : am_nq qX7_scanWord := fun _ => am_nqk (l := kX7_scanWord) (by decide +kernel)
theorem nqX7_scanNumber : am_nq qX7_scanNumber := fun _ => am_nqk (l := kX7_scanNumber) (by decide +kernel)
theorem nqX7_isSign : am_nq qX7_isSign := fun _ => am_nqk (l := kX7_isSign) (by decide +kernel)
theorem nqX7_isWord : am_nq qX7_isWord := fun _ => am_nqk (l := kX7_isWord) (by decide +kernel)
theorem nqX7_isSignOf : am_nq qX7_isSignOf := fun _ => am_nqk (l := kX7_isSignOf) (by decide +kernel)
theorem nqX7_isNumber : am_nq qX7_isNumber := fun _ => am_nqk (l := kX7_isNumber) (by decide +kernel)
theorem nqX7_isName : am_nq qX7_isName := fun _ => am_nqk (l := kX7_isName) (by decide +kernel)
theorem nqX7_refuse : am_nq qX7_refuse := fun _ => am_nqk (l := kX7_refuse) (by decide +kernel)
theorem nqX7_passWord : am_nq qX7_passWord := fun _ => am_nqk (l := kX7_passWord) (by decide +kernel)
theorem nqX7_passSign : am_nq qX7_passSign := fun _ => am_nqk (l := kX7_passSign) (by decide +kernel)
theorem nqX7_passNumber : am_nq qX7_passNumber := fun _ => am_nqk (l := kX7_passNumber) (by decide +kernel)
theorem nqX8_init : am_nq qX8_init := fun h => absurd rfl h
theorem nqX8_clear : am_nq qX8_clear := fun _ => am_nqk (l := kX8_clear) (by decide +kernel)
theorem nqX8_addHouse : am_nq qX8_addHouse := fun _ => am_nqk (l := kX8_addHouse) (by decide +kernel)
theorem nqX8_addDay : am_nq qX8_addDay := fun _ => am_nqk (l := kX8_addDay) (by decide +kernel)
theorem nqX8_houseNamed : am_nq qX8_houseNamed := fun _ => am_nqk (l := kX8_houseNamed) (by decide +kernel)
theorem nqX8_dayNamed : am_nq qX8_dayNamed := fun _ => am_nqk (l := kX8_dayNamed) (by decide +kernel)
theorem nqX9_init : am_nq qX9_init := fun h => absurd rfl h
theorem nqX9_feed : am_nq qX9_feed := fun _ => am_nqk (l := kX9_feed) (by decide +kernel)
theorem nqX9_feedBytes : am_nq qX9_feedBytes := fun _ => am_nqk (l := kX9_feedBytes) (by decide +kernel)
theorem nqX9_vale : am_nq qX9_vale := fun _ => am_nqk (l := kX9_vale) (by decide +kernel)
theorem nqX9_startAnew : am_nq qX9_startAnew := fun _ => am_nqk (l := kX9_startAnew) (by decide +kernel)
theorem nqX9_year : am_nq qX9_year := fun _ => am_nqk (l := kX9_year) (by decide +kernel)
theorem nqX9_house : am_nq qX9_house := fun _ => am_nqk (l := kX9_house) (by decide +kernel)
theorem nqX9_day : am_nq qX9_day := fun _ => am_nqk (l := kX9_day) (by decide +kernel)
theorem nqX9_date : am_nq qX9_date := fun _ => am_nqk (l := kX9_date) (by decide +kernel)
theorem nqX9_move : am_nq qX9_move := fun _ => am_nqk (l := kX9_move) (by decide +kernel)
theorem nqX9_send : am_nq qX9_send := fun _ => am_nqk (l := kX9_send) (by decide +kernel)
theorem nqX9_build : am_nq qX9_build := fun _ => am_nqk (l := kX9_build) (by decide +kernel)
theorem nqX9_undo : am_nq qX9_undo := fun _ => am_nqk (l := kX9_undo) (by decide +kernel)
theorem nqX9_judged : am_nq qX9_judged := fun _ => am_nqk (l := kX9_judged) (by decide +kernel)
theorem nqX9_where : am_nq qX9_where := fun _ => am_nqk (l := kX9_where) (by decide +kernel)
theorem nqX9_next : am_nq qX9_next := fun _ => am_nqk (l := kX9_next) (by decide +kernel)
theorem nqX9_gone : am_nq qX9_gone := fun _ => am_nqk (l := kX9_gone) (by decide +kernel)
theorem nqX9_crowd : am_nq qX9_crowd := fun _ => am_nqk (l := kX9_crowd) (by decide +kernel)
theorem nqX9_refused : am_nq qX9_refused := fun _ => am_nqk (l := kX9_refused) (by decide +kernel)
theorem nqX9_meets : am_nq qX9_meets := fun _ => am_nqk (l := kX9_meets) (by decide +kernel)
theorem nqX9_beds : am_nq qX9_beds := fun _ => am_nqk (l := kX9_beds) (by decide +kernel)
theorem nqX9_fewestBeds : am_nq qX9_fewestBeds := fun _ => am_nqk (l := kX9_fewestBeds) (by decide +kernel)
theorem nqX9_layRow : am_nq qX9_layRow := fun _ => am_nqk (l := kX9_layRow) (by decide +kernel)
theorem nqX9_buildRow : am_nq qX9_buildRow := fun _ => am_nqk (l := kX9_buildRow) (by decide +kernel)
theorem nqX9_noneTurnedOff : am_nq qX9_noneTurnedOff := fun _ => am_nqk (l := kX9_noneTurnedOff) (by decide +kernel)
theorem nqX9_laying : am_nq qX9_laying := fun _ => am_nqk (l := kX9_laying) (by decide +kernel)
theorem nqX9_waysFrom : am_nq qX9_waysFrom := fun _ => am_nqk (l := kX9_waysFrom) (by decide +kernel)
theorem nqX9_apart : am_nq qX9_apart := fun _ => am_nqk (l := kX9_apart) (by decide +kernel)
theorem nqX9_fewestHouses : am_nq qX9_fewestHouses := fun _ => am_nqk (l := kX9_fewestHouses) (by decide +kernel)
theorem nqX9_isPeaceful : am_nq qX9_isPeaceful := fun _ => am_nqk (l := kX9_isPeaceful) (by decide +kernel)
theorem nqX9_defer : am_nq qX9_defer := fun _ => am_nqk (l := kX9_defer) (by decide +kernel)
theorem nqX9_mostAtOnce : am_nq qX9_mostAtOnce := fun _ => am_nqk (l := kX9_mostAtOnce) (by decide +kernel)
theorem nqX9_see : am_nq qX9_see := fun _ => am_nqk (l := kX9_see) (by decide +kernel)
theorem nqX9_who : am_nq qX9_who := fun _ => am_nqk (l := kX9_who) (by decide +kernel)
theorem nqX9_look : am_nq qX9_look := fun _ => am_nqk (l := kX9_look) (by decide +kernel)
theorem nqX9_mostTogether : am_nq qX9_mostTogether := fun _ => am_nqk (l := kX9_mostTogether) (by decide +kernel)
theorem nqX9_through : am_nq qX9_through := fun _ => am_nqk (l := kX9_through) (by decide +kernel)
theorem nqX9_lendersOf : am_nq qX9_lendersOf := fun _ => am_nqk (l := kX9_lendersOf) (by decide +kernel)
theorem nqX9_quiet : am_nq qX9_quiet := fun _ => am_nqk (l := kX9_quiet) (by decide +kernel)
theorem nqX9_peace : am_nq qX9_peace := fun _ => am_nqk (l := kX9_peace) (by decide +kernel)
theorem nqX9_loudest : am_nq qX9_loudest := fun _ => am_nqk (l := kX9_loudest) (by decide +kernel)
theorem nqX9_eldest : am_nq qX9_eldest := fun _ => am_nqk (l := kX9_eldest) (by decide +kernel)
theorem nqX9_spare : am_nq qX9_spare := fun _ => am_nqk (l := kX9_spare) (by decide +kernel)
theorem nqX9_chance : am_nq qX9_chance := fun _ => am_nqk (l := kX9_chance) (by decide +kernel)
theorem nqX9_weightOf : am_nq qX9_weightOf := fun _ => am_nqk (l := kX9_weightOf) (by decide +kernel)
theorem nqX9_isTurnedOffBy : am_nq qX9_isTurnedOffBy := fun _ => am_nqk (l := kX9_isTurnedOffBy) (by decide +kernel)
theorem nqX9_gain : am_nq qX9_gain := fun _ => am_nqk (l := kX9_gain) (by decide +kernel)
theorem nqX9_ages : am_nq qX9_ages := fun _ => am_nqk (l := kX9_ages) (by decide +kernel)
theorem nqX9_actByDraw : am_nq qX9_actByDraw := fun _ => am_nqk (l := kX9_actByDraw) (by decide +kernel)
theorem nqX9_drawBelow : am_nq qX9_drawBelow := fun _ => am_nqk (l := kX9_drawBelow) (by decide +kernel)
theorem nqX9_mark : am_nq qX9_mark := fun _ => am_nqk (l := kX9_mark) (by decide +kernel)
theorem nqX9_count : am_nq qX9_count := fun _ => am_nqk (l := kX9_count) (by decide +kernel)
theorem nqX9_isHouse : am_nq qX9_isHouse := fun _ => am_nqk (l := kX9_isHouse) (by decide +kernel)
theorem nqX9_isDay : am_nq qX9_isDay := fun _ => am_nqk (l := kX9_isDay) (by decide +kernel)
theorem nqX9_within : am_nq qX9_within := fun _ => am_nqk (l := kX9_within) (by decide +kernel)
theorem nqX9_has : am_nq qX9_has := fun _ => am_nqk (l := kX9_has) (by decide +kernel)
theorem nqX9_clamp : am_nq qX9_clamp := fun _ => am_nqk (l := kX9_clamp) (by decide +kernel)
theorem nqX10_thrown : am_nq qX10_thrown := fun _ => am_nqk (l := kX10_thrown) (by decide +kernel)
theorem nqX10_feed : am_nq qX10_feed := fun _ => am_nqk (l := kX10_feed) (by decide +kernel)
theorem nqX10_lay : am_nq qX10_lay := fun _ => am_nqk (l := kX10_lay) (by decide +kernel)
theorem nqX10_init : am_nq qX10_init := fun h => absurd rfl h
theorem nqX10_isLetter : am_nq qX10_isLetter := fun _ => am_nqk (l := kX10_isLetter) (by decide +kernel)
theorem nqX10_isDigit : am_nq qX10_isDigit := fun _ => am_nqk (l := kX10_isDigit) (by decide +kernel)
theorem nqX10_rank : am_nq qX10_rank := fun _ => am_nqk (l := kX10_rank) (by decide +kernel)
theorem nqX10_isSignOf : am_nq qX10_isSignOf := fun _ => am_nqk (l := kX10_isSignOf) (by decide +kernel)
theorem nqX10_cutAll : am_nq qX10_cutAll := fun _ => am_nqk (l := kX10_cutAll) (by decide +kernel)
theorem nqX10_wrong : am_nq qX10_wrong := fun _ => am_nqk (l := kX10_wrong) (by decide +kernel)
theorem nqX10_isSign : am_nq qX10_isSign := fun _ => am_nqk (l := kX10_isSign) (by decide +kernel)
theorem nqX10_isWord : am_nq qX10_isWord := fun _ => am_nqk (l := kX10_isWord) (by decide +kernel)
theorem nqX10_takeSign : am_nq qX10_takeSign := fun _ => am_nqk (l := kX10_takeSign) (by decide +kernel)
theorem nqX10_hasSign : am_nq qX10_hasSign := fun _ => am_nqk (l := kX10_hasSign) (by decide +kernel)
theorem nqX10_hasWord : am_nq qX10_hasWord := fun _ => am_nqk (l := kX10_hasWord) (by decide +kernel)
theorem nqX10_takeWord : am_nq qX10_takeWord := fun _ => am_nqk (l := kX10_takeWord) (by decide +kernel)
theorem nqX10_within : am_nq qX10_within := fun _ => am_nqk (l := kX10_within) (by decide +kernel)
theorem nqX10_standsAsAlways : am_nq qX10_standsAsAlways := fun _ => am_nqk (l := kX10_standsAsAlways) (by decide +kernel)
theorem nqX10_takeNumber : am_nq qX10_takeNumber := fun _ => am_nqk (l := kX10_takeNumber) (by decide +kernel)
theorem nqX10_takeAfter : am_nq qX10_takeAfter := fun _ => am_nqk (l := kX10_takeAfter) (by decide +kernel)
theorem nqX10_wordHere : am_nq qX10_wordHere := fun _ => am_nqk (l := kX10_wordHere) (by decide +kernel)
theorem nqX10_takeOne : am_nq qX10_takeOne := fun _ => am_nqk (l := kX10_takeOne) (by decide +kernel)
theorem nqX10_isName : am_nq qX10_isName := fun _ => am_nqk (l := kX10_isName) (by decide +kernel)
theorem nqX10_nameAt : am_nq qX10_nameAt := fun _ => am_nqk (l := kX10_nameAt) (by decide +kernel)
theorem nqX10_takeTold : am_nq qX10_takeTold := fun _ => am_nqk (l := kX10_takeTold) (by decide +kernel)
theorem nqX10_vale : am_nq qX10_vale := fun _ => am_nqk (l := kX10_vale) (by decide +kernel)
theorem nqX10_readLine : am_nq qX10_readLine := fun _ => am_nqk (l := kX10_readLine) (by decide +kernel)
theorem nqX10_readPair : am_nq qX10_readPair := fun _ => am_nqk (l := kX10_readPair) (by decide +kernel)
theorem nqX10_readName : am_nq qX10_readName := fun _ => am_nqk (l := kX10_readName) (by decide +kernel)
theorem nqX10_readDay : am_nq qX10_readDay := fun _ => am_nqk (l := kX10_readDay) (by decide +kernel)
theorem nqX10_readOnce : am_nq qX10_readOnce := fun _ => am_nqk (l := kX10_readOnce) (by decide +kernel)
theorem nqX10_year : am_nq qX10_year := fun _ => am_nqk (l := kX10_year) (by decide +kernel)
theorem nqX10_emit : am_nq qX10_emit := fun _ => am_nqk (l := kX10_emit) (by decide +kernel)
theorem nqX10_whole : am_nq qX10_whole := fun _ => am_nqk (l := kX10_whole) (by decide +kernel)
theorem nqX10_test : am_nq qX10_test := fun _ => am_nqk (l := kX10_test) (by decide +kernel)
theorem nqX10_sums : am_nq qX10_sums := fun _ => am_nqk (l := kX10_sums) (by decide +kernel)
theorem nqX10_products : am_nq qX10_products := fun _ => am_nqk (l := kX10_products) (by decide +kernel)
theorem nqX10_takePart : am_nq qX10_takePart := fun _ => am_nqk (l := kX10_takePart) (by decide +kernel)
theorem nqX10_worthAt : am_nq qX10_worthAt := fun _ => am_nqk (l := kX10_worthAt) (by decide +kernel)
theorem nqX10_both : am_nq qX10_both := fun _ => am_nqk (l := kX10_both) (by decide +kernel)
theorem nqX10_copies : am_nq qX10_copies := fun _ => am_nqk (l := kX10_copies) (by decide +kernel)
theorem nqX10_starts : am_nq qX10_starts := fun _ => am_nqk (l := kX10_starts) (by decide +kernel)
theorem nqX10_datesAsTold : am_nq qX10_datesAsTold := fun _ => am_nqk (l := kX10_datesAsTold) (by decide +kernel)
theorem nqX10_begins : am_nq qX10_begins := fun _ => am_nqk (l := kX10_begins) (by decide +kernel)
theorem nqX10_keeps : am_nq qX10_keeps := fun _ => am_nqk (l := kX10_keeps) (by decide +kernel)
theorem nqX10_houses : am_nq qX10_houses := fun _ => am_nqk (l := kX10_houses) (by decide +kernel)
theorem nqX10_days : am_nq qX10_days := fun _ => am_nqk (l := kX10_days) (by decide +kernel)
theorem nqX10_houseOf : am_nq qX10_houseOf := fun _ => am_nqk (l := kX10_houseOf) (by decide +kernel)
theorem nqX10_dayOf : am_nq qX10_dayOf := fun _ => am_nqk (l := kX10_dayOf) (by decide +kernel)
theorem nqX10_isHouse : am_nq qX10_isHouse := fun _ => am_nqk (l := kX10_isHouse) (by decide +kernel)
theorem nqX10_isDay : am_nq qX10_isDay := fun _ => am_nqk (l := kX10_isDay) (by decide +kernel)
theorem nqX10_widthOf : am_nq qX10_widthOf := fun _ => am_nqk (l := kX10_widthOf) (by decide +kernel)
theorem nqX10_inHouse : am_nq qX10_inHouse := fun _ => am_nqk (l := kX10_inHouse) (by decide +kernel)
theorem nqX10_freeOf : am_nq qX10_freeOf := fun _ => am_nqk (l := kX10_freeOf) (by decide +kernel)
theorem nqX10_doesHold : am_nq qX10_doesHold := fun _ => am_nqk (l := kX10_doesHold) (by decide +kernel)
theorem nqX10_bits : am_nq qX10_bits := fun _ => am_nqk (l := kX10_bits) (by decide +kernel)
theorem nqX10_somewhere : am_nq qX10_somewhere := fun _ => am_nqk (l := kX10_somewhere) (by decide +kernel)
theorem nqX10_leaves : am_nq qX10_leaves := fun _ => am_nqk (l := kX10_leaves) (by decide +kernel)
theorem nqX10_isDate : am_nq qX10_isDate := fun _ => am_nqk (l := kX10_isDate) (by decide +kernel)
theorem nqX10_bedFor : am_nq qX10_bedFor := fun _ => am_nqk (l := kX10_bedFor) (by decide +kernel)
theorem nqX10_comes : am_nq qX10_comes := fun _ => am_nqk (l := kX10_comes) (by decide +kernel)
theorem nqX10_passes : am_nq qX10_passes := fun _ => am_nqk (l := kX10_passes) (by decide +kernel)
theorem nqX10_talkIn : am_nq qX10_talkIn := fun _ => am_nqk (l := kX10_talkIn) (by decide +kernel)
theorem nqX10_house : am_nq qX10_house := fun _ => am_nqk (l := kX10_house) (by decide +kernel)
theorem nqX10_day : am_nq qX10_day := fun _ => am_nqk (l := kX10_day) (by decide +kernel)
theorem nqX10_date : am_nq qX10_date := fun _ => am_nqk (l := kX10_date) (by decide +kernel)
theorem nqX10_mayMove : am_nq qX10_mayMove := fun _ => am_nqk (l := kX10_mayMove) (by decide +kernel)
theorem nqX10_move : am_nq qX10_move := fun _ => am_nqk (l := kX10_move) (by decide +kernel)
theorem nqX10_send : am_nq qX10_send := fun _ => am_nqk (l := kX10_send) (by decide +kernel)
theorem nqX10_build : am_nq qX10_build := fun _ => am_nqk (l := kX10_build) (by decide +kernel)
theorem nqX10_undo : am_nq qX10_undo := fun _ => am_nqk (l := kX10_undo) (by decide +kernel)
theorem nqX10_judged : am_nq qX10_judged := fun _ => am_nqk (l := kX10_judged) (by decide +kernel)
theorem nqX10_triesNow : am_nq qX10_triesNow := fun _ => am_nqk (l := kX10_triesNow) (by decide +kernel)
theorem nqX10_where : am_nq qX10_where := fun _ => am_nqk (l := kX10_where) (by decide +kernel)
theorem nqX10_next : am_nq qX10_next := fun _ => am_nqk (l := kX10_next) (by decide +kernel)
theorem nqX10_gone : am_nq qX10_gone := fun _ => am_nqk (l := kX10_gone) (by decide +kernel)
theorem nqX10_crowd : am_nq qX10_crowd := fun _ => am_nqk (l := kX10_crowd) (by decide +kernel)
theorem nqX10_refused : am_nq qX10_refused := fun _ => am_nqk (l := kX10_refused) (by decide +kernel)
theorem nqX10_meets : am_nq qX10_meets := fun _ => am_nqk (l := kX10_meets) (by decide +kernel)
theorem nqX10_isCalm : am_nq qX10_isCalm := fun _ => am_nqk (l := kX10_isCalm) (by decide +kernel)
theorem nqX10_builtIn : am_nq qX10_builtIn := fun _ => am_nqk (l := kX10_builtIn) (by decide +kernel)
theorem nqX10_beds : am_nq qX10_beds := fun _ => am_nqk (l := kX10_beds) (by decide +kernel)
theorem nqX10_laysFrom : am_nq qX10_laysFrom := fun _ => am_nqk (l := kX10_laysFrom) (by decide +kernel)
theorem nqX10_laying : am_nq qX10_laying := fun _ => am_nqk (l := kX10_laying) (by decide +kernel)
theorem nqX10_isApart : am_nq qX10_isApart := fun _ => am_nqk (l := kX10_isApart) (by decide +kernel)
theorem nqX10_apart : am_nq qX10_apart := fun _ => am_nqk (l := kX10_apart) (by decide +kernel)
theorem nqX10_defer : am_nq qX10_defer := fun _ => am_nqk (l := kX10_defer) (by decide +kernel)
theorem nqX10_spare : am_nq qX10_spare := fun _ => am_nqk (l := kX10_spare) (by decide +kernel)
theorem nqX10_see : am_nq qX10_see := fun _ => am_nqk (l := kX10_see) (by decide +kernel)
theorem nqX10_whoNow : am_nq qX10_whoNow := fun _ => am_nqk (l := kX10_whoNow) (by decide +kernel)
theorem nqX10_who : am_nq qX10_who := fun _ => am_nqk (l := kX10_who) (by decide +kernel)
theorem nqX10_look : am_nq qX10_look := fun _ => am_nqk (l := kX10_look) (by decide +kernel)
theorem nqX10_through : am_nq qX10_through := fun _ => am_nqk (l := kX10_through) (by decide +kernel)
theorem nqX10_quiet : am_nq qX10_quiet := fun _ => am_nqk (l := kX10_quiet) (by decide +kernel)
theorem nqX10_peace : am_nq qX10_peace := fun _ => am_nqk (l := kX10_peace) (by decide +kernel)
theorem nqX10_eldest : am_nq qX10_eldest := fun _ => am_nqk (l := kX10_eldest) (by decide +kernel)
theorem nqX10_loudest : am_nq qX10_loudest := fun _ => am_nqk (l := kX10_loudest) (by decide +kernel)
theorem nqX10_chance : am_nq qX10_chance := fun _ => am_nqk (l := kX10_chance) (by decide +kernel)
theorem nqX10_getsBy : am_nq qX10_getsBy := fun _ => am_nqk (l := kX10_getsBy) (by decide +kernel)
theorem nqX10_rests : am_nq qX10_rests := fun _ => am_nqk (l := kX10_rests) (by decide +kernel)
theorem nqX10_draw : am_nq qX10_draw := fun _ => am_nqk (l := kX10_draw) (by decide +kernel)
theorem nqX10_drawsDeed : am_nq qX10_drawsDeed := fun _ => am_nqk (l := kX10_drawsDeed) (by decide +kernel)
theorem nqX10_ages : am_nq qX10_ages := fun _ => am_nqk (l := kX10_ages) (by decide +kernel)
theorem nqX10_mark : am_nq qX10_mark := fun _ => am_nqk (l := kX10_mark) (by decide +kernel)
theorem nqX10_fadedNow : am_nq qX10_fadedNow := fun _ => am_nqk (l := kX10_fadedNow) (by decide +kernel)
theorem nqX10_bedsOfAll : am_nq qX10_bedsOfAll := fun _ => am_nqk (l := kX10_bedsOfAll) (by decide +kernel)
theorem nqX10_count : am_nq qX10_count := fun _ => am_nqk (l := kX10_count) (by decide +kernel)
theorem nqJ6_numberOfTrailingZeros_0f7a4 : am_nq qJ6_numberOfTrailingZeros_0f7a4 := fun _ => am_nqk (l := kJ6_numberOfTrailingZeros_0f7a4) (by decide +kernel)
theorem nqJ6_bitCount_0f7a4 : am_nq qJ6_bitCount_0f7a4 := fun _ => am_nqk (l := kJ6_bitCount_0f7a4) (by decide +kernel)
theorem nqJ9_max_7cf53 : am_nq qJ9_max_7cf53 := fun _ => am_nqk (l := kJ9_max_7cf53) (by decide +kernel)
theorem nqJ9_min_7cf53 : am_nq qJ9_min_7cf53 := fun _ => am_nqk (l := kJ9_min_7cf53) (by decide +kernel)
theorem nqJ7_fill_53178 : am_nq qJ7_fill_53178 := fun _ => am_nqk (l := kJ7_fill_53178) (by decide +kernel)
theorem na_0 : ∀ q ∈ am_tl0, am_nq q := List.forall_mem_cons.mpr ⟨nqX0_init, List.forall_mem_cons.mpr ⟨nqX0_keep, List.forall_mem_cons.mpr ⟨nqX0_bringBack, List.forall_mem_cons.mpr ⟨nqX1_init, List.forall_mem_cons.mpr ⟨nqX1_add, List.forall_mem_cons.mpr ⟨nqX1_readLevel, List.forall_mem_cons.mpr ⟨nqX1_operatorOf, List.forall_mem_cons.mpr ⟨nqX1_readPart, List.forall_mem_cons.mpr ⟨nqX1_factOf, List.forall_mem_cons.mpr ⟨nqX1_value, List.forall_mem_cons.mpr ⟨nqX1_joined, List.forall_mem_cons.mpr ⟨nqX2_init, List.forall_mem_cons.mpr ⟨nqX2_lay, List.forall_mem_cons.mpr ⟨nqX3_init, List.forall_mem_cons.mpr ⟨nqX3_add, List.forall_mem_cons.mpr ⟨nqX3_carryOut, List.forall_mem_cons.mpr ⟨nqX4_readVale, List.forall_mem_cons.mpr ⟨nqX4_readValeLine, List.forall_mem_cons.mpr ⟨nqX4_readHouse, List.forall_mem_cons.mpr ⟨nqX4_readLends, List.forall_mem_cons.mpr ⟨nqX4_readDay, List.forall_mem_cons.mpr ⟨nqX4_readClash, List.forall_mem_cons.mpr ⟨nqX4_readStays, List.forall_mem_cons.mpr ⟨nqX4_readFades, List.forall_mem_cons.mpr ⟨nqX4_readPlan, List.forall_mem_cons.mpr ⟨nqX4_readPlanLine, List.forall_mem_cons.mpr ⟨nqX4_lineAct, List.forall_mem_cons.mpr ⟨nqX4_passNewName, List.forall_mem_cons.mpr ⟨nqX4_passKind, List.forall_mem_cons.mpr ⟨nqX4_passHouse, List.forall_mem_cons.mpr ⟨nqX4_passDay, List.forall_mem_cons.mpr ⟨nqX4_passTold, List.forall_mem_cons.mpr ⟨nqX5_init, List.forall_mem_cons.mpr ⟨nqX5_add, List.forall_mem_cons.mpr ⟨nqX5_copyFrom, List.forall_mem_cons.mpr ⟨nqX6_init, List.forall_mem_cons.mpr ⟨nqX6_begin, List.forall_mem_cons.mpr ⟨nqX6_copyFrom, List.forall_mem_cons.mpr ⟨nqX6_passDate, List.forall_mem_cons.mpr ⟨nqX6_stayLonger, (fun _ h => absurd h List.not_mem_nil)⟩⟩⟩⟩⟩⟩⟩⟩⟩⟩⟩⟩⟩⟩⟩⟩⟩⟩⟩⟩⟩⟩⟩⟩⟩⟩⟩⟩⟩⟩⟩⟩⟩⟩⟩⟩⟩⟩⟩⟩
theorem na_1 : ∀ q ∈ am_tl1, am_nq q := List.forall_mem_cons.mpr ⟨nqX6_leave, List.forall_mem_cons.mpr ⟨nqX6_flood, List.forall_mem_cons.mpr ⟨nqX6_isDue, List.forall_mem_cons.mpr ⟨nqX6_receive, List.forall_mem_cons.mpr ⟨nqX6_hostOf, List.forall_mem_cons.mpr ⟨nqX6_holds, List.forall_mem_cons.mpr ⟨nqX6_canShift, List.forall_mem_cons.mpr ⟨nqX6_shift, List.forall_mem_cons.mpr ⟨nqX6_freeBeds, List.forall_mem_cons.mpr ⟨nqX6_guests, List.forall_mem_cons.mpr ⟨nqX6_somewhere, List.forall_mem_cons.mpr ⟨nqX6_talk, List.forall_mem_cons.mpr ⟨nqX6_talkOfAll, List.forall_mem_cons.mpr ⟨nqX6_bedsOfAll, List.forall_mem_cons.mpr ⟨nqX6_faded, List.forall_mem_cons.mpr ⟨nqX7_init, List.forall_mem_cons.mpr ⟨nqX7_add, List.forall_mem_cons.mpr ⟨nqX7_begin, List.forall_mem_cons.mpr ⟨nqX7_atEnd, List.forall_mem_cons.mpr ⟨nqX7_step, List.forall_mem_cons.mpr ⟨nqX7_scanWord, List.forall_mem_cons.mpr ⟨nqX7_scanNumber, List.forall_mem_cons.mpr ⟨nqX7_isSign, List.forall_mem_cons.mpr ⟨nqX7_isWord, List.forall_mem_cons.mpr ⟨nqX7_isSignOf, List.forall_mem_cons.mpr ⟨nqX7_isNumber, List.forall_mem_cons.mpr ⟨nqX7_isName, List.forall_mem_cons.mpr ⟨nqX7_refuse, List.forall_mem_cons.mpr ⟨nqX7_passWord, List.forall_mem_cons.mpr ⟨nqX7_passSign, List.forall_mem_cons.mpr ⟨nqX7_passNumber, List.forall_mem_cons.mpr ⟨nqX8_init, List.forall_mem_cons.mpr ⟨nqX8_clear, List.forall_mem_cons.mpr ⟨nqX8_addHouse, List.forall_mem_cons.mpr ⟨nqX8_addDay, List.forall_mem_cons.mpr ⟨nqX8_houseNamed, List.forall_mem_cons.mpr ⟨nqX8_dayNamed, List.forall_mem_cons.mpr ⟨nqX9_init, List.forall_mem_cons.mpr ⟨nqX9_feed, List.forall_mem_cons.mpr ⟨nqX9_feedBytes, (fun _ h => absurd h List.not_mem_nil)⟩⟩⟩⟩⟩⟩⟩⟩⟩⟩⟩⟩⟩⟩⟩⟩⟩⟩⟩⟩⟩⟩⟩⟩⟩⟩⟩⟩⟩⟩⟩⟩⟩⟩⟩⟩⟩⟩⟩⟩
theorem na_2 : ∀ q ∈ am_tl2, am_nq q := List.forall_mem_cons.mpr ⟨nqX9_vale, List.forall_mem_cons.mpr ⟨nqX9_startAnew, List.forall_mem_cons.mpr ⟨nqX9_year, List.forall_mem_cons.mpr ⟨nqX9_house, List.forall_mem_cons.mpr ⟨nqX9_day, List.forall_mem_cons.mpr ⟨nqX9_date, List.forall_mem_cons.mpr ⟨nqX9_move, List.forall_mem_cons.mpr ⟨nqX9_send, List.forall_mem_cons.mpr ⟨nqX9_build, List.forall_mem_cons.mpr ⟨nqX9_undo, List.forall_mem_cons.mpr ⟨nqX9_judged, List.forall_mem_cons.mpr ⟨nqX9_where, List.forall_mem_cons.mpr ⟨nqX9_next, List.forall_mem_cons.mpr ⟨nqX9_gone, List.forall_mem_cons.mpr ⟨nqX9_crowd, List.forall_mem_cons.mpr ⟨nqX9_refused, List.forall_mem_cons.mpr ⟨nqX9_meets, List.forall_mem_cons.mpr ⟨nqX9_beds, List.forall_mem_cons.mpr ⟨nqX9_fewestBeds, List.forall_mem_cons.mpr ⟨nqX9_layRow, List.forall_mem_cons.mpr ⟨nqX9_buildRow, List.forall_mem_cons.mpr ⟨nqX9_noneTurnedOff, List.forall_mem_cons.mpr ⟨nqX9_laying, List.forall_mem_cons.mpr ⟨nqX9_waysFrom, List.forall_mem_cons.mpr ⟨nqX9_apart, List.forall_mem_cons.mpr ⟨nqX9_fewestHouses, List.forall_mem_cons.mpr ⟨nqX9_isPeaceful, List.forall_mem_cons.mpr ⟨nqX9_defer, List.forall_mem_cons.mpr ⟨nqX9_mostAtOnce, List.forall_mem_cons.mpr ⟨nqX9_see, List.forall_mem_cons.mpr ⟨nqX9_who, List.forall_mem_cons.mpr ⟨nqX9_look, List.forall_mem_cons.mpr ⟨nqX9_mostTogether, List.forall_mem_cons.mpr ⟨nqX9_through, List.forall_mem_cons.mpr ⟨nqX9_lendersOf, List.forall_mem_cons.mpr ⟨nqX9_quiet, List.forall_mem_cons.mpr ⟨nqX9_peace, List.forall_mem_cons.mpr ⟨nqX9_loudest, List.forall_mem_cons.mpr ⟨nqX9_eldest, List.forall_mem_cons.mpr ⟨nqX9_spare, (fun _ h => absurd h List.not_mem_nil)⟩⟩⟩⟩⟩⟩⟩⟩⟩⟩⟩⟩⟩⟩⟩⟩⟩⟩⟩⟩⟩⟩⟩⟩⟩⟩⟩⟩⟩⟩⟩⟩⟩⟩⟩⟩⟩⟩⟩⟩
theorem na_3 : ∀ q ∈ am_tl3, am_nq q := List.forall_mem_cons.mpr ⟨nqX9_chance, List.forall_mem_cons.mpr ⟨nqX9_weightOf, List.forall_mem_cons.mpr ⟨nqX9_isTurnedOffBy, List.forall_mem_cons.mpr ⟨nqX9_gain, List.forall_mem_cons.mpr ⟨nqX9_ages, List.forall_mem_cons.mpr ⟨nqX9_actByDraw, List.forall_mem_cons.mpr ⟨nqX9_drawBelow, List.forall_mem_cons.mpr ⟨nqX9_mark, List.forall_mem_cons.mpr ⟨nqX9_count, List.forall_mem_cons.mpr ⟨nqX9_isHouse, List.forall_mem_cons.mpr ⟨nqX9_isDay, List.forall_mem_cons.mpr ⟨nqX9_within, List.forall_mem_cons.mpr ⟨nqX9_has, List.forall_mem_cons.mpr ⟨nqX9_clamp, List.forall_mem_cons.mpr ⟨nqX10_thrown, List.forall_mem_cons.mpr ⟨nqX10_feed, List.forall_mem_cons.mpr ⟨nqX10_lay, List.forall_mem_cons.mpr ⟨nqX10_init, List.forall_mem_cons.mpr ⟨nqX10_isLetter, List.forall_mem_cons.mpr ⟨nqX10_isDigit, List.forall_mem_cons.mpr ⟨nqX10_rank, List.forall_mem_cons.mpr ⟨nqX10_isSignOf, List.forall_mem_cons.mpr ⟨nqX10_cutAll, List.forall_mem_cons.mpr ⟨nqX10_wrong, List.forall_mem_cons.mpr ⟨nqX10_isSign, List.forall_mem_cons.mpr ⟨nqX10_isWord, List.forall_mem_cons.mpr ⟨nqX10_takeSign, List.forall_mem_cons.mpr ⟨nqX10_hasSign, List.forall_mem_cons.mpr ⟨nqX10_hasWord, List.forall_mem_cons.mpr ⟨nqX10_takeWord, List.forall_mem_cons.mpr ⟨nqX10_within, List.forall_mem_cons.mpr ⟨nqX10_standsAsAlways, List.forall_mem_cons.mpr ⟨nqX10_takeNumber, List.forall_mem_cons.mpr ⟨nqX10_takeAfter, List.forall_mem_cons.mpr ⟨nqX10_wordHere, List.forall_mem_cons.mpr ⟨nqX10_takeOne, List.forall_mem_cons.mpr ⟨nqX10_isName, List.forall_mem_cons.mpr ⟨nqX10_nameAt, List.forall_mem_cons.mpr ⟨nqX10_takeTold, List.forall_mem_cons.mpr ⟨nqX10_vale, (fun _ h => absurd h List.not_mem_nil)⟩⟩⟩⟩⟩⟩⟩⟩⟩⟩⟩⟩⟩⟩⟩⟩⟩⟩⟩⟩⟩⟩⟩⟩⟩⟩⟩⟩⟩⟩⟩⟩⟩⟩⟩⟩⟩⟩⟩⟩
theorem na_4 : ∀ q ∈ am_tl4, am_nq q := List.forall_mem_cons.mpr ⟨nqX10_readLine, List.forall_mem_cons.mpr ⟨nqX10_readPair, List.forall_mem_cons.mpr ⟨nqX10_readName, List.forall_mem_cons.mpr ⟨nqX10_readDay, List.forall_mem_cons.mpr ⟨nqX10_readOnce, List.forall_mem_cons.mpr ⟨nqX10_year, List.forall_mem_cons.mpr ⟨nqX10_emit, List.forall_mem_cons.mpr ⟨nqX10_whole, List.forall_mem_cons.mpr ⟨nqX10_test, List.forall_mem_cons.mpr ⟨nqX10_sums, List.forall_mem_cons.mpr ⟨nqX10_products, List.forall_mem_cons.mpr ⟨nqX10_takePart, List.forall_mem_cons.mpr ⟨nqX10_worthAt, List.forall_mem_cons.mpr ⟨nqX10_both, List.forall_mem_cons.mpr ⟨nqX10_copies, List.forall_mem_cons.mpr ⟨nqX10_starts, List.forall_mem_cons.mpr ⟨nqX10_datesAsTold, List.forall_mem_cons.mpr ⟨nqX10_begins, List.forall_mem_cons.mpr ⟨nqX10_keeps, List.forall_mem_cons.mpr ⟨nqX10_houses, List.forall_mem_cons.mpr ⟨nqX10_days, List.forall_mem_cons.mpr ⟨nqX10_houseOf, List.forall_mem_cons.mpr ⟨nqX10_dayOf, List.forall_mem_cons.mpr ⟨nqX10_isHouse, List.forall_mem_cons.mpr ⟨nqX10_isDay, List.forall_mem_cons.mpr ⟨nqX10_widthOf, List.forall_mem_cons.mpr ⟨nqX10_inHouse, List.forall_mem_cons.mpr ⟨nqX10_freeOf, List.forall_mem_cons.mpr ⟨nqX10_doesHold, List.forall_mem_cons.mpr ⟨nqX10_bits, List.forall_mem_cons.mpr ⟨nqX10_somewhere, List.forall_mem_cons.mpr ⟨nqX10_leaves, List.forall_mem_cons.mpr ⟨nqX10_isDate, List.forall_mem_cons.mpr ⟨nqX10_bedFor, List.forall_mem_cons.mpr ⟨nqX10_comes, List.forall_mem_cons.mpr ⟨nqX10_passes, List.forall_mem_cons.mpr ⟨nqX10_talkIn, List.forall_mem_cons.mpr ⟨nqX10_house, List.forall_mem_cons.mpr ⟨nqX10_day, List.forall_mem_cons.mpr ⟨nqX10_date, (fun _ h => absurd h List.not_mem_nil)⟩⟩⟩⟩⟩⟩⟩⟩⟩⟩⟩⟩⟩⟩⟩⟩⟩⟩⟩⟩⟩⟩⟩⟩⟩⟩⟩⟩⟩⟩⟩⟩⟩⟩⟩⟩⟩⟩⟩⟩
theorem na_5 : ∀ q ∈ am_tl5, am_nq q := List.forall_mem_cons.mpr ⟨nqX10_mayMove, List.forall_mem_cons.mpr ⟨nqX10_move, List.forall_mem_cons.mpr ⟨nqX10_send, List.forall_mem_cons.mpr ⟨nqX10_build, List.forall_mem_cons.mpr ⟨nqX10_undo, List.forall_mem_cons.mpr ⟨nqX10_judged, List.forall_mem_cons.mpr ⟨nqX10_triesNow, List.forall_mem_cons.mpr ⟨nqX10_where, List.forall_mem_cons.mpr ⟨nqX10_next, List.forall_mem_cons.mpr ⟨nqX10_gone, List.forall_mem_cons.mpr ⟨nqX10_crowd, List.forall_mem_cons.mpr ⟨nqX10_refused, List.forall_mem_cons.mpr ⟨nqX10_meets, List.forall_mem_cons.mpr ⟨nqX10_isCalm, List.forall_mem_cons.mpr ⟨nqX10_builtIn, List.forall_mem_cons.mpr ⟨nqX10_beds, List.forall_mem_cons.mpr ⟨nqX10_laysFrom, List.forall_mem_cons.mpr ⟨nqX10_laying, List.forall_mem_cons.mpr ⟨nqX10_isApart, List.forall_mem_cons.mpr ⟨nqX10_apart, List.forall_mem_cons.mpr ⟨nqX10_defer, List.forall_mem_cons.mpr ⟨nqX10_spare, List.forall_mem_cons.mpr ⟨nqX10_see, List.forall_mem_cons.mpr ⟨nqX10_whoNow, List.forall_mem_cons.mpr ⟨nqX10_who, List.forall_mem_cons.mpr ⟨nqX10_look, List.forall_mem_cons.mpr ⟨nqX10_through, List.forall_mem_cons.mpr ⟨nqX10_quiet, List.forall_mem_cons.mpr ⟨nqX10_peace, List.forall_mem_cons.mpr ⟨nqX10_eldest, List.forall_mem_cons.mpr ⟨nqX10_loudest, List.forall_mem_cons.mpr ⟨nqX10_chance, List.forall_mem_cons.mpr ⟨nqX10_getsBy, List.forall_mem_cons.mpr ⟨nqX10_rests, List.forall_mem_cons.mpr ⟨nqX10_draw, List.forall_mem_cons.mpr ⟨nqX10_drawsDeed, List.forall_mem_cons.mpr ⟨nqX10_ages, List.forall_mem_cons.mpr ⟨nqX10_mark, List.forall_mem_cons.mpr ⟨nqX10_fadedNow, List.forall_mem_cons.mpr ⟨nqX10_bedsOfAll, (fun _ h => absurd h List.not_mem_nil)⟩⟩⟩⟩⟩⟩⟩⟩⟩⟩⟩⟩⟩⟩⟩⟩⟩⟩⟩⟩⟩⟩⟩⟩⟩⟩⟩⟩⟩⟩⟩⟩⟩⟩⟩⟩⟩⟩⟩⟩
theorem na_6 : ∀ q ∈ am_tl6, am_nq q := List.forall_mem_cons.mpr ⟨nqX10_count, List.forall_mem_cons.mpr ⟨nqJ6_numberOfTrailingZeros_0f7a4, List.forall_mem_cons.mpr ⟨nqJ6_bitCount_0f7a4, List.forall_mem_cons.mpr ⟨nqJ9_max_7cf53, List.forall_mem_cons.mpr ⟨nqJ9_min_7cf53, List.forall_mem_cons.mpr ⟨nqJ7_fill_53178, (fun _ h => absurd h List.not_mem_nil)⟩⟩⟩⟩⟩⟩
theorem am_nq_all {m : Nat} {q : am_Q} (hq : am_T m = some q) : am_nq q := by
  have hm : q ∈ am_tl := List.mem_of_getElem? hq
  simp only [am_tl, List.mem_append] at hm
  rcases hm with h | h | h | h | h | h | h
  · exact na_0 q h
  · exact na_1 q h
  · exact na_2 q h
  · exact na_3 q h
  · exact na_4 q h
  · exact na_5 q h
  · exact na_6 q h
/-- a call that is no constructor's makes no cells -/
theorem am_na {sc : Nat × (Nat → Int32)} : ∀ (d m : Nat) (As : List Value) (h : am_H) (v : Option Value) (h' : am_H), am_naS m = true → am_Cl am_T am_N sc d m As h v h' → am_eqh h h' := by
  intro d
  induction d with
  | zero => intro m As h v h' _ e; exact e.elim
  | succ d ih =>
    intro m As h v h' hm e
    rcases e with ⟨q, f, hT, -, -, -, -, ⟨n, hr⟩, -⟩ | ⟨hT, -, hN⟩
    · unfold am_naS at hm
      rw [hT] at hm
      have hm : (!(Nat.beq q.2.2.2.2.1 2)) = true := hm
      have hk : q.2.2.2.2.1 ≠ 2 := by
        intro z
        rw [z] at hm
        cases hm
      exact am_rch_eq (am_nq_all hT hk) ih hr
    · unfold am_naS at hm
      rw [hT] at hm
      rcases hN with ⟨-, _, _, _, _, _, rfl⟩ | ⟨-, _, _, _, _, _, _, rfl⟩ | ⟨rfl, _⟩
      · exact am_eqh.rf
      · exact am_eqh.rf
      · cases hm
