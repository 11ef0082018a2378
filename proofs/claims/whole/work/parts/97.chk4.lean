/-! checks, part 4 -/
theorem ocX10_doesHold : kX10_doesHold.all (am_okB qX10_doesHold) = true := by decide +kernel
theorem ocX10_bits : kX10_bits.all (am_okB qX10_bits) = true := by decide +kernel
theorem ocX10_somewhere : kX10_somewhere.all (am_okB qX10_somewhere) = true := by decide +kernel
theorem ocX10_leaves : kX10_leaves.all (am_okB qX10_leaves) = true := by decide +kernel
theorem ocX10_isDate : kX10_isDate.all (am_okB qX10_isDate) = true := by decide +kernel
theorem ocX10_bedFor : kX10_bedFor.all (am_okB qX10_bedFor) = true := by decide +kernel
theorem ocX10_comes_0 : (((kX10_comes.drop 0)).take 60).all (am_okB qX10_comes) = true := by decide +kernel
theorem ocX10_comes_1 : (((kX10_comes.drop 60)).take 60).all (am_okB qX10_comes) = true := by decide +kernel
theorem ocX10_comes_2 : (((kX10_comes.drop 120)).take 60).all (am_okB qX10_comes) = true := by decide +kernel
theorem ocX10_comes : kX10_comes.all (am_okB qX10_comes) = true := am_chunk 60 3 0 (fun j hj => by
  match j, hj with
  | 0, _ => exact ocX10_comes_0
  | 1, _ => exact ocX10_comes_1
  | 2, _ => exact ocX10_comes_2
  | j + 3, h => exact absurd h (by omega)) (by decide +kernel)
theorem ocX10_passes_0 : (((kX10_passes.drop 0)).take 60).all (am_okB qX10_passes) = true := by decide +kernel
theorem ocX10_passes_1 : (((kX10_passes.drop 60)).take 60).all (am_okB qX10_passes) = true := by decide +kernel
theorem ocX10_passes : kX10_passes.all (am_okB qX10_passes) = true := am_chunk 60 2 0 (fun j hj => by
  match j, hj with
  | 0, _ => exact ocX10_passes_0
  | 1, _ => exact ocX10_passes_1
  | j + 2, h => exact absurd h (by omega)) (by decide +kernel)
theorem ocX10_talkIn : kX10_talkIn.all (am_okB qX10_talkIn) = true := by decide +kernel
theorem ocX10_house : kX10_house.all (am_okB qX10_house) = true := by decide +kernel
theorem ocX10_day : kX10_day.all (am_okB qX10_day) = true := by decide +kernel
theorem ocX10_date : kX10_date.all (am_okB qX10_date) = true := by decide +kernel
theorem ocX10_mayMove : kX10_mayMove.all (am_okB qX10_mayMove) = true := by decide +kernel
theorem ocX10_move : kX10_move.all (am_okB qX10_move) = true := by decide +kernel
theorem ocX10_send : kX10_send.all (am_okB qX10_send) = true := by decide +kernel
theorem ocX10_build : kX10_build.all (am_okB qX10_build) = true := by decide +kernel
theorem ocX10_undo : kX10_undo.all (am_okB qX10_undo) = true := by decide +kernel
theorem ocX10_judged_0 : (((kX10_judged.drop 0)).take 60).all (am_okB qX10_judged) = true := by decide +kernel
theorem ocX10_judged_1 : (((kX10_judged.drop 60)).take 60).all (am_okB qX10_judged) = true := by decide +kernel
theorem ocX10_judged_2 : (((kX10_judged.drop 120)).take 60).all (am_okB qX10_judged) = true := by decide +kernel
theorem ocX10_judged : kX10_judged.all (am_okB qX10_judged) = true := am_chunk 60 3 0 (fun j hj => by
  match j, hj with
  | 0, _ => exact ocX10_judged_0
  | 1, _ => exact ocX10_judged_1
  | 2, _ => exact ocX10_judged_2
  | j + 3, h => exact absurd h (by omega)) (by decide +kernel)
theorem ocX10_triesNow : kX10_triesNow.all (am_okB qX10_triesNow) = true := by decide +kernel
theorem ocX10_where : kX10_where.all (am_okB qX10_where) = true := by decide +kernel
theorem ocX10_next : kX10_next.all (am_okB qX10_next) = true := by decide +kernel
theorem ocX10_gone : kX10_gone.all (am_okB qX10_gone) = true := by decide +kernel
theorem ocX10_crowd : kX10_crowd.all (am_okB qX10_crowd) = true := by decide +kernel
theorem ocX10_refused : kX10_refused.all (am_okB qX10_refused) = true := by decide +kernel
theorem ocX10_meets : kX10_meets.all (am_okB qX10_meets) = true := by decide +kernel
theorem ocX10_isCalm : kX10_isCalm.all (am_okB qX10_isCalm) = true := by decide +kernel
theorem ocX10_builtIn : kX10_builtIn.all (am_okB qX10_builtIn) = true := by decide +kernel
theorem ocX10_beds_0 : (((kX10_beds.drop 0)).take 60).all (am_okB qX10_beds) = true := by decide +kernel
theorem ocX10_beds_1 : (((kX10_beds.drop 60)).take 60).all (am_okB qX10_beds) = true := by decide +kernel
theorem ocX10_beds_2 : (((kX10_beds.drop 120)).take 60).all (am_okB qX10_beds) = true := by decide +kernel
theorem ocX10_beds : kX10_beds.all (am_okB qX10_beds) = true := am_chunk 60 3 0 (fun j hj => by
  match j, hj with
  | 0, _ => exact ocX10_beds_0
  | 1, _ => exact ocX10_beds_1
  | 2, _ => exact ocX10_beds_2
  | j + 3, h => exact absurd h (by omega)) (by decide +kernel)
theorem ocX10_laysFrom : kX10_laysFrom.all (am_okB qX10_laysFrom) = true := by decide +kernel
theorem ocX10_laying : kX10_laying.all (am_okB qX10_laying) = true := by decide +kernel
theorem ocX10_isApart_0 : (((kX10_isApart.drop 0)).take 60).all (am_okB qX10_isApart) = true := by decide +kernel
theorem ocX10_isApart_1 : (((kX10_isApart.drop 60)).take 60).all (am_okB qX10_isApart) = true := by decide +kernel
theorem ocX10_isApart : kX10_isApart.all (am_okB qX10_isApart) = true := am_chunk 60 2 0 (fun j hj => by
  match j, hj with
  | 0, _ => exact ocX10_isApart_0
  | 1, _ => exact ocX10_isApart_1
  | j + 2, h => exact absurd h (by omega)) (by decide +kernel)
theorem ocX10_apart : kX10_apart.all (am_okB qX10_apart) = true := by decide +kernel
theorem ocX10_defer_0 : (((kX10_defer.drop 0)).take 60).all (am_okB qX10_defer) = true := by decide +kernel
theorem ocX10_defer_1 : (((kX10_defer.drop 60)).take 60).all (am_okB qX10_defer) = true := by decide +kernel
theorem ocX10_defer : kX10_defer.all (am_okB qX10_defer) = true := am_chunk 60 2 0 (fun j hj => by
  match j, hj with
  | 0, _ => exact ocX10_defer_0
  | 1, _ => exact ocX10_defer_1
  | j + 2, h => exact absurd h (by omega)) (by decide +kernel)
theorem ocX10_spare : kX10_spare.all (am_okB qX10_spare) = true := by decide +kernel
theorem ocX10_see : kX10_see.all (am_okB qX10_see) = true := by decide +kernel
theorem ocX10_whoNow_0 : (((kX10_whoNow.drop 0)).take 60).all (am_okB qX10_whoNow) = true := by decide +kernel
theorem ocX10_whoNow_1 : (((kX10_whoNow.drop 60)).take 60).all (am_okB qX10_whoNow) = true := by decide +kernel
theorem ocX10_whoNow : kX10_whoNow.all (am_okB qX10_whoNow) = true := am_chunk 60 2 0 (fun j hj => by
  match j, hj with
  | 0, _ => exact ocX10_whoNow_0
  | 1, _ => exact ocX10_whoNow_1
  | j + 2, h => exact absurd h (by omega)) (by decide +kernel)
theorem ocX10_who : kX10_who.all (am_okB qX10_who) = true := by decide +kernel
theorem ocX10_look_0 : (((kX10_look.drop 0)).take 60).all (am_okB qX10_look) = true := by decide +kernel
theorem ocX10_look_1 : (((kX10_look.drop 60)).take 60).all (am_okB qX10_look) = true := by decide +kernel
theorem ocX10_look : kX10_look.all (am_okB qX10_look) = true := am_chunk 60 2 0 (fun j hj => by
  match j, hj with
  | 0, _ => exact ocX10_look_0
  | 1, _ => exact ocX10_look_1
  | j + 2, h => exact absurd h (by omega)) (by decide +kernel)
theorem ocX10_through_0 : (((kX10_through.drop 0)).take 60).all (am_okB qX10_through) = true := by decide +kernel
theorem ocX10_through_1 : (((kX10_through.drop 60)).take 60).all (am_okB qX10_through) = true := by decide +kernel
theorem ocX10_through : kX10_through.all (am_okB qX10_through) = true := am_chunk 60 2 0 (fun j hj => by
  match j, hj with
  | 0, _ => exact ocX10_through_0
  | 1, _ => exact ocX10_through_1
  | j + 2, h => exact absurd h (by omega)) (by decide +kernel)
theorem ocX10_quiet : kX10_quiet.all (am_okB qX10_quiet) = true := by decide +kernel
theorem ocX10_peace : kX10_peace.all (am_okB qX10_peace) = true := by decide +kernel
theorem ocX10_eldest : kX10_eldest.all (am_okB qX10_eldest) = true := by decide +kernel
theorem ocX10_loudest : kX10_loudest.all (am_okB qX10_loudest) = true := by decide +kernel
theorem ocX10_chance_0 : (((kX10_chance.drop 0)).take 60).all (am_okB qX10_chance) = true := by decide +kernel
theorem ocX10_chance_1 : (((kX10_chance.drop 60)).take 60).all (am_okB qX10_chance) = true := by decide +kernel
theorem ocX10_chance_2 : (((kX10_chance.drop 120)).take 60).all (am_okB qX10_chance) = true := by decide +kernel
theorem ocX10_chance : kX10_chance.all (am_okB qX10_chance) = true := am_chunk 60 3 0 (fun j hj => by
  match j, hj with
  | 0, _ => exact ocX10_chance_0
  | 1, _ => exact ocX10_chance_1
  | 2, _ => exact ocX10_chance_2
  | j + 3, h => exact absurd h (by omega)) (by decide +kernel)
theorem ocX10_getsBy : kX10_getsBy.all (am_okB qX10_getsBy) = true := by decide +kernel
theorem ocX10_rests_0 : (((kX10_rests.drop 0)).take 60).all (am_okB qX10_rests) = true := by decide +kernel
theorem ocX10_rests_1 : (((kX10_rests.drop 60)).take 60).all (am_okB qX10_rests) = true := by decide +kernel
theorem ocX10_rests : kX10_rests.all (am_okB qX10_rests) = true := am_chunk 60 2 0 (fun j hj => by
  match j, hj with
  | 0, _ => exact ocX10_rests_0
  | 1, _ => exact ocX10_rests_1
  | j + 2, h => exact absurd h (by omega)) (by decide +kernel)
theorem ocX10_draw : kX10_draw.all (am_okB qX10_draw) = true := by decide +kernel
theorem ocX10_drawsDeed : kX10_drawsDeed.all (am_okB qX10_drawsDeed) = true := by decide +kernel
theorem ocX10_ages_0 : (((kX10_ages.drop 0)).take 60).all (am_okB qX10_ages) = true := by decide +kernel
theorem ocX10_ages_1 : (((kX10_ages.drop 60)).take 60).all (am_okB qX10_ages) = true := by decide +kernel
theorem ocX10_ages : kX10_ages.all (am_okB qX10_ages) = true := am_chunk 60 2 0 (fun j hj => by
  match j, hj with
  | 0, _ => exact ocX10_ages_0
  | 1, _ => exact ocX10_ages_1
  | j + 2, h => exact absurd h (by omega)) (by decide +kernel)
theorem ocX10_mark : kX10_mark.all (am_okB qX10_mark) = true := by decide +kernel
theorem ocX10_fadedNow : kX10_fadedNow.all (am_okB qX10_fadedNow) = true := by decide +kernel
theorem ocX10_bedsOfAll : kX10_bedsOfAll.all (am_okB qX10_bedsOfAll) = true := by decide +kernel
theorem ocX10_count : kX10_count.all (am_okB qX10_count) = true := by decide +kernel
