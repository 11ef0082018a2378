/-! checks, part 2 -/
theorem ocX9_init_0 : (((kX9_init.drop 0)).take 60).all (am_okB qX9_init) = true := by decide +kernel
theorem ocX9_init_1 : (((kX9_init.drop 60)).take 60).all (am_okB qX9_init) = true := by decide +kernel
theorem ocX9_init : kX9_init.all (am_okB qX9_init) = true := am_chunk 60 2 0 (fun j hj => by
  match j, hj with
  | 0, _ => exact ocX9_init_0
  | 1, _ => exact ocX9_init_1
  | j + 2, h => exact absurd h (by omega)) (by decide +kernel)
theorem ocX9_feed : kX9_feed.all (am_okB qX9_feed) = true := by decide +kernel
theorem ocX9_feedBytes : kX9_feedBytes.all (am_okB qX9_feedBytes) = true := by decide +kernel
theorem ocX9_vale : kX9_vale.all (am_okB qX9_vale) = true := by decide +kernel
theorem ocX9_startAnew : kX9_startAnew.all (am_okB qX9_startAnew) = true := by decide +kernel
theorem ocX9_year : kX9_year.all (am_okB qX9_year) = true := by decide +kernel
theorem ocX9_house : kX9_house.all (am_okB qX9_house) = true := by decide +kernel
theorem ocX9_day : kX9_day.all (am_okB qX9_day) = true := by decide +kernel
theorem ocX9_date : kX9_date.all (am_okB qX9_date) = true := by decide +kernel
theorem ocX9_move : kX9_move.all (am_okB qX9_move) = true := by decide +kernel
theorem ocX9_send : kX9_send.all (am_okB qX9_send) = true := by decide +kernel
theorem ocX9_build : kX9_build.all (am_okB qX9_build) = true := by decide +kernel
theorem ocX9_undo : kX9_undo.all (am_okB qX9_undo) = true := by decide +kernel
theorem ocX9_judged_0 : (((kX9_judged.drop 0)).take 60).all (am_okB qX9_judged) = true := by decide +kernel
theorem ocX9_judged_1 : (((kX9_judged.drop 60)).take 60).all (am_okB qX9_judged) = true := by decide +kernel
theorem ocX9_judged : kX9_judged.all (am_okB qX9_judged) = true := am_chunk 60 2 0 (fun j hj => by
  match j, hj with
  | 0, _ => exact ocX9_judged_0
  | 1, _ => exact ocX9_judged_1
  | j + 2, h => exact absurd h (by omega)) (by decide +kernel)
theorem ocX9_where : kX9_where.all (am_okB qX9_where) = true := by decide +kernel
theorem ocX9_next : kX9_next.all (am_okB qX9_next) = true := by decide +kernel
theorem ocX9_gone : kX9_gone.all (am_okB qX9_gone) = true := by decide +kernel
theorem ocX9_crowd : kX9_crowd.all (am_okB qX9_crowd) = true := by decide +kernel
theorem ocX9_refused : kX9_refused.all (am_okB qX9_refused) = true := by decide +kernel
theorem ocX9_meets : kX9_meets.all (am_okB qX9_meets) = true := by decide +kernel
theorem ocX9_beds : kX9_beds.all (am_okB qX9_beds) = true := by decide +kernel
theorem ocX9_fewestBeds : kX9_fewestBeds.all (am_okB qX9_fewestBeds) = true := by decide +kernel
theorem ocX9_layRow : kX9_layRow.all (am_okB qX9_layRow) = true := by decide +kernel
theorem ocX9_buildRow : kX9_buildRow.all (am_okB qX9_buildRow) = true := by decide +kernel
theorem ocX9_noneTurnedOff : kX9_noneTurnedOff.all (am_okB qX9_noneTurnedOff) = true := by decide +kernel
theorem ocX9_laying : kX9_laying.all (am_okB qX9_laying) = true := by decide +kernel
theorem ocX9_waysFrom_0 : (((kX9_waysFrom.drop 0)).take 60).all (am_okB qX9_waysFrom) = true := by decide +kernel
theorem ocX9_waysFrom_1 : (((kX9_waysFrom.drop 60)).take 60).all (am_okB qX9_waysFrom) = true := by decide +kernel
theorem ocX9_waysFrom : kX9_waysFrom.all (am_okB qX9_waysFrom) = true := am_chunk 60 2 0 (fun j hj => by
  match j, hj with
  | 0, _ => exact ocX9_waysFrom_0
  | 1, _ => exact ocX9_waysFrom_1
  | j + 2, h => exact absurd h (by omega)) (by decide +kernel)
theorem ocX9_apart : kX9_apart.all (am_okB qX9_apart) = true := by decide +kernel
theorem ocX9_fewestHouses : kX9_fewestHouses.all (am_okB qX9_fewestHouses) = true := by decide +kernel
theorem ocX9_isPeaceful : kX9_isPeaceful.all (am_okB qX9_isPeaceful) = true := by decide +kernel
theorem ocX9_defer : kX9_defer.all (am_okB qX9_defer) = true := by decide +kernel
theorem ocX9_mostAtOnce : kX9_mostAtOnce.all (am_okB qX9_mostAtOnce) = true := by decide +kernel
theorem ocX9_see : kX9_see.all (am_okB qX9_see) = true := by decide +kernel
theorem ocX9_who : kX9_who.all (am_okB qX9_who) = true := by decide +kernel
theorem ocX9_look : kX9_look.all (am_okB qX9_look) = true := by decide +kernel
theorem ocX9_mostTogether : kX9_mostTogether.all (am_okB qX9_mostTogether) = true := by decide +kernel
theorem ocX9_through : kX9_through.all (am_okB qX9_through) = true := by decide +kernel
theorem ocX9_lendersOf : kX9_lendersOf.all (am_okB qX9_lendersOf) = true := by decide +kernel
theorem ocX9_quiet : kX9_quiet.all (am_okB qX9_quiet) = true := by decide +kernel
theorem ocX9_peace : kX9_peace.all (am_okB qX9_peace) = true := by decide +kernel
theorem ocX9_loudest : kX9_loudest.all (am_okB qX9_loudest) = true := by decide +kernel
theorem ocX9_eldest : kX9_eldest.all (am_okB qX9_eldest) = true := by decide +kernel
theorem ocX9_spare : kX9_spare.all (am_okB qX9_spare) = true := by decide +kernel
theorem ocX9_chance : kX9_chance.all (am_okB qX9_chance) = true := by decide +kernel
theorem ocX9_weightOf : kX9_weightOf.all (am_okB qX9_weightOf) = true := by decide +kernel
theorem ocX9_isTurnedOffBy : kX9_isTurnedOffBy.all (am_okB qX9_isTurnedOffBy) = true := by decide +kernel
theorem ocX9_gain : kX9_gain.all (am_okB qX9_gain) = true := by decide +kernel
theorem ocX9_ages_0 : (((kX9_ages.drop 0)).take 60).all (am_okB qX9_ages) = true := by decide +kernel
theorem ocX9_ages_1 : (((kX9_ages.drop 60)).take 60).all (am_okB qX9_ages) = true := by decide +kernel
theorem ocX9_ages : kX9_ages.all (am_okB qX9_ages) = true := am_chunk 60 2 0 (fun j hj => by
  match j, hj with
  | 0, _ => exact ocX9_ages_0
  | 1, _ => exact ocX9_ages_1
  | j + 2, h => exact absurd h (by omega)) (by decide +kernel)
theorem ocX9_actByDraw : kX9_actByDraw.all (am_okB qX9_actByDraw) = true := by decide +kernel
theorem ocX9_drawBelow : kX9_drawBelow.all (am_okB qX9_drawBelow) = true := by decide +kernel
theorem ocX9_mark : kX9_mark.all (am_okB qX9_mark) = true := by decide +kernel
theorem ocX9_count_0 : (((kX9_count.drop 0)).take 60).all (am_okB qX9_count) = true := by decide +kernel
theorem ocX9_count_1 : (((kX9_count.drop 60)).take 60).all (am_okB qX9_count) = true := by decide +kernel
theorem ocX9_count : kX9_count.all (am_okB qX9_count) = true := am_chunk 60 2 0 (fun j hj => by
  match j, hj with
  | 0, _ => exact ocX9_count_0
  | 1, _ => exact ocX9_count_1
  | j + 2, h => exact absurd h (by omega)) (by decide +kernel)
theorem ocX9_isHouse : kX9_isHouse.all (am_okB qX9_isHouse) = true := by decide +kernel
theorem ocX9_isDay : kX9_isDay.all (am_okB qX9_isDay) = true := by decide +kernel
theorem ocX9_within : kX9_within.all (am_okB qX9_within) = true := by decide +kernel
theorem ocX9_has : kX9_has.all (am_okB qX9_has) = true := by decide +kernel
theorem ocX9_clamp : kX9_clamp.all (am_okB qX9_clamp) = true := by decide +kernel
